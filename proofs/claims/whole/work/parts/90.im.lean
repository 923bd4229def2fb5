/-! ===== between the two calls: what the reference's methods want ===== -/
theorem Inv.im {σ τ : ha_St} (h : Inv σ) (hY : LY τ) (hg : ∀ a, 44 ≤ a → a ≤ 72 → gI τ a = gI σ a) : IM τ := h.M.ag hY hg
theorem LY.r1 {σ τ : ha_St} (h : LY σ) (hT : ∀ a, a < 74 → gT τ a = gT σ a) (hR : ∀ z j, z < 74 → z ≠ 1 → ¬ (36 ≤ z ∧ z < 44) → gR τ z j = gR σ z j) (hn : gn σ ≤ gn τ) : LY τ := by
  refine ⟨fun a ha => by rw [hT a ha]; exact h.1 a ha, fun q hq => ?_, Nat.le_trans h.2.2 hn⟩
  have r1 := rf_1 q hq
  have r2 := rf_sh q hq
  rw [hR _ _ r1.2 r1.1 r2.1]
  exact h.2.1 q hq
theorem im_contact {σ σ1 : ha_St} {a x y b r : Int32} (h : Inv σ) (c : contQ σ a x y b r σ1) : IM σ1 := by
  rcases c with ⟨-, -, e⟩ | ⟨-, -, -, e⟩ | ⟨-, -, -, e⟩
  · rw [e]; exact h.M
  · rw [e]; exact h.M
  · have g := h.1.2.2
    rw [e]
    refine h.im (h.1.r1 (fun z hz => ?_) (fun z j hz z1 z2 => ?_) ?_) (fun z p q => funext fun j => ?_)
    · show gT (mkPin σ _ _ _ _ _ _) z = _
      rw [mkPin_T, gT_sN, if_neg (by omega)]
    · unfold contF
      show gR (sR (sI (mkPin σ _ _ _ _ _ _) _ _ _) 1 _ _) z j = _
      rw [gR_sR, if_neg (fun q => z1 q.1)]
      show gR (mkPin σ _ _ _ _ _ _) z j = _
      rw [mkPin_R, gR_sN, if_neg (by omega)]
    · show gn σ ≤ gn (mkPin σ _ _ _ _ _ _)
      rw [mkPin_n]; omega
    · unfold contF
      rw [sI_o (by omega), sI_o (by omega), gI_sR, sI_o (by omega), mkPin_I (by omega)]
theorem im_undo {σ σ1 : ha_St} {r : Int32} (h : Inv σ) (c : undoQ σ r σ1) : IM σ1 := by
  rcases c with ⟨-, -, e⟩ | ⟨-, -, e⟩
  · rw [e]; exact h.M
  · rw [e]
    refine h.im (h.1.r1 (fun z hz => rfl) (fun z j hz z1 z2 => ?_) (Nat.le_refl _)) (fun z p q => funext fun j => ?_)
    · unfold undoF
      show gR (sR (sI σ _ _ _) 1 _ _) z j = _
      rw [gR_sR, if_neg (fun q => z1 q.1)]
      rfl
    · unfold undoF
      rw [sI_o (by omega), gI_sR, sI_o (by omega)]
theorem im_move {σ σ1 : ha_St} {i x y r : Int32} (h : Inv σ) (c : moveQ σ i x y r σ1) : IM σ1 := by
  rcases c with ⟨-, -, e⟩ | ⟨a, ca, -, ⟨-, -, -, e⟩ | ⟨-, -, e⟩⟩
  · rw [e]; exact h.M
  · rw [e]; exact h.M
  · obtain ⟨t, -, -, h74, -⟩ := (ct_at h.2.2.2.1 ca).2.1
    rw [e]
    exact h.im (h.1.same rfl rfl rfl) (fun z p q => funext fun j => by rw [sI_o (by omega), sI_o (by omega), sI_o (by omega)])
theorem im_miss {σ σ1 : ha_St} {i x r : Int32} (h : Inv σ) (c : missQ σ i x r σ1) : IM σ1 := by
  rcases c with ⟨-, -, e⟩ | ⟨a, ca, -, -, ⟨-, -, e⟩ | ⟨-, -, e⟩⟩
  · rw [e]; exact h.M
  · rw [e]; exact h.M
  · obtain ⟨t, -, -, h74, -⟩ := (ct_at h.2.2.2.1 ca).2.1
    rw [e]
    exact h.im (h.1.same rfl rfl rfl) (fun z p q => funext fun j => by rw [sI_o (by omega)])
theorem im_load {σ σ1 : ha_St} {a x y r : Int32} (h : Inv σ) (c : loadQ σ a x y r σ1) : IM σ1 := by
  rcases c with ⟨-, -, e⟩ | ⟨-, -, -, e⟩ | ⟨-, -, -, e⟩
  · rw [e]; exact h.M
  · rw [e]; exact h.M
  · rw [e]
    exact h.im (h.1.same rfl rfl rfl) (fun z p q => funext fun j => by unfold cutAdd; rw [sI_o (by omega), sI_o (by omega), sI_o (by omega), sI_o (by omega)])
theorem im_unload {σ : ha_St} (h : Inv σ) : IM (sI σ 17 3 0) := h.im (h.1.same rfl rfl rfl) (fun z p q => funext fun j => by rw [sI_o (by omega)])
theorem im_step {σ σ1 : ha_St} {x y r : Int32} (h : Inv σ) (c : stepQ σ x y r σ1) : IM σ1 := by
  rcases c with ⟨-, -, e⟩ | ⟨-, -, -, e⟩ | ⟨-, -, -, e⟩
  · rw [e]; exact h.M
  · rw [e]; exact h.M
  · rw [e]
    exact h.im (h.1.same rfl rfl rfl) (fun z p q => funext fun j => by unfold planAdd; rw [sI_o (by omega), sI_o (by omega), sI_o (by omega), sI_o (by omega)])
theorem im_point {σ σ1 : ha_St} {x y r : Int32} (h : Inv σ) (c : pointQ σ x y r σ1) : IM σ1 := by
  rcases c with ⟨-, -, e⟩ | ⟨-, -, -, e⟩ | ⟨-, -, -, e⟩
  · rw [e]; exact h.M
  · rw [e]; exact h.M
  · rw [e]
    exact h.im (h.1.same rfl rfl rfl) (fun z p q => funext fun j => by unfold pathAdd; rw [sI_o (by omega), sI_o (by omega), sI_o (by omega)])
theorem im_tool {σ σ1 : ha_St} {x r : Int32} (h : Inv σ) (c : toolQ σ x r σ1) : IM σ1 := by
  rcases c with ⟨-, -, e⟩ | ⟨-, -, e⟩
  · rw [e]; exact h.M
  · rw [e]
    exact h.im (h.1.same rfl rfl rfl) (fun z p q => funext fun j => by rw [sI_o (by omega), sI_o (by omega)])
theorem im_rank {σ σ1 : ha_St} {r : Int32} (h : Inv σ) (c : rankQ σ r σ1) : IM σ1 := (h.ag (sagr_X c.2.1)).M
theorem im_form {σ σ1 : ha_St} {i r : Int32} (h : Inv σ) (c : formQ σ i r σ1) : IM σ1 := (h.ag (sagr_X c.2.1)).M
theorem im_without {σ σ1 : ha_St} {i r : Int32} (h : Inv σ) (c : (¬ (0 ≤ i ∧ i < gI σ 0 1) ∧ r = -1 ∧ σ1 = σ) ∨ ((0 ≤ i ∧ i < gI σ 0 1) ∧ formQ σ i r σ1)) : IM σ1 := by
  rcases c with ⟨-, -, e⟩ | ⟨-, c⟩
  · rw [e]; exact h.M
  · exact im_form h c
theorem im_lie {σ s : ha_St} {k j b : Nat} (hk : k < 8) (h : Inv σ) (sT : ∀ z, z ≠ gn σ → gT s z = gT σ z) (sn : gn σ ≤ gn s) (sR : ∀ z i, z ≠ gn σ → gR s z i = gR σ z i) (sI' : ∀ a, a ≠ gn σ → gI s a = gI σ a) : IM (lieF s (36 + k) j b) := by
  have g := h.1.2.2
  exact h.im (h.1.r1 (fun z hz => sT z (by omega)) (fun z i hz _ z2 => by rw [lie_n.1 z i (by omega)]; exact sR z i (by omega)) sn) (fun z p q => sI' z (by omega))
theorem im_make {σ σ1 : ha_St} {d w n r : Int32} (h : Inv σ) (c : makeQ σ d w n r σ1) : IM σ1 := by
  unfold makeQ at c
  have nw : ∀ t N, ∀ j b, shOK d → IM (lieF (sN σ t N) (36 + d.toNatClampNeg) j b) := fun t N j b hd => im_lie (shOK_k hd) h (fun z hz => by rw [gT_sN, if_neg hz]) (Nat.le_succ _) (fun z i hz => by rw [gR_sN, if_neg hz]) (fun a ha => funext fun i => by rw [gI_sN, if_neg ha])
  by_cases hd : shOK d
  · rw [sAt_y hd] at c
    simp only [] at c
    split at c
    · split at c
      · rw [c.2]; exact h.M
      · rw [c.2]
        split
        · exact nw _ _ _ _ hd
        · exact nw _ _ _ _ hd
    · rw [c.2]; exact h.M
  · rw [sAt_n hd] at c
    rw [c.2]; exact h.M
theorem im_keep {σ σ1 : ha_St} {d w k r : Int32} (h : Inv σ) (c : keepQ σ d w k r σ1) : IM σ1 := by
  unfold keepQ at c
  by_cases hd : shOK d
  · rw [sAt_y hd] at c
    simp only [] at c
    have hk := shOK_k hd
    split at c
    · rw [c.2]
      refine h.im (h.1.r1 (fun z hz => rfl) (fun z i hz _ z2 => ?_) (Nat.le_refl _)) (fun z p q => rfl)
      unfold shX
      rw [gR_sR, if_neg (by omega), gR_sR, if_neg (by omega), gR_sR, if_neg (by omega)]
    · split at c
      · cases hb : cAt σ k with
        | none => rw [hb] at c; simp only [] at c; rw [c.2]; exact h.M
        | some b =>
          rw [hb] at c
          simp only [] at c
          rw [c.2]
          refine im_lie hk h (fun z hz => ?_) ?_ (fun z i hz => ?_) (fun z hz => funext fun i => ?_)
          · show gT (mkPin σ _ _ _ _ _ _) z = _
            rw [mkPin_T, gT_sN, if_neg hz]
          · show gn σ ≤ gn (mkPin σ _ _ _ _ _ _)
            rw [mkPin_n]; omega
          · show gR (mkPin σ _ _ _ _ _ _) z i = _
            rw [mkPin_R, gR_sN, if_neg hz]
          · unfold twinF
            rw [sI_o (by omega), sI_o (by omega)]
            unfold twin1
            rw [mkPin_I hz]
      · split at c
        · rw [c.2]
          exact im_lie hk h (fun z hz => by show gT (sN σ _ _) z = _; rw [gT_sN, if_neg hz]) (Nat.le_succ _) (fun z i hz => by show gR (sN σ _ _) z i = _; rw [gR_sN, if_neg hz]) (fun z hz => wrS_I hz)
        · split at c
          · obtain ⟨-, s, cs, c2⟩ := c
            have hs := (few_Inv h cs).1
            rw [c2]
            exact im_lie hk hs (fun z hz => by show gT (sN s _ _) z = _; rw [gT_sN, if_neg hz]) (Nat.le_succ _) (fun z i hz => by show gR (sN s _ _) z i = _; rw [gR_sN, if_neg hz]) (fun z hz => funext fun i => by unfold sideF; rw [gI_sF, if_neg (fun q => hz q.1), gI_sN, if_neg hz])
          · rw [c.2]; exact h.M
  · rw [sAt_n hd] at c
    rw [c.2]; exact h.M
theorem im_pass {σ : ha_St} {a b : Nat} {i j n : Int32} (h : Inv σ) (hb : ∀ r y, 1 ≤ y → y ≤ 2 → gR σ b y = some r → 74 ≤ r) : IM (passF σ a b i j n) := by
  have k : ∀ q r, 74 ≤ r → IM (sC σ q r i.toNatClampNeg j.toNatClampNeg n.toNatClampNeg) := fun q r hr => h.im (h.1.same rfl rfl rfl) (fun z p w => funext fun y => by rw [gI_sC, if_neg (by omega)])
  unfold passF
  split
  · rename_i q r e1 e2
    exact k q r (hb r 1 (by omega) (by omega) e2)
  · split
    · rename_i q r e1 e2
      exact k q r (hb r 2 (by omega) (by omega) e2)
    · exact h.M
theorem im_copy {σ σ1 : ha_St} {d i e j n r : Int32} (h : Inv σ) (c : copyQ σ d i e j n r σ1) : IM σ1 := by
  unfold copyQ at c
  by_cases hd : shOK d
  · by_cases he : shOK e
    · rw [sAt_y hd, sAt_y he] at c
      simp only [] at c
      split at c
      · rw [c.2]; exact h.M
      · split at c
        · split at c
          · rw [c.2]
            exact im_pass h (fun r y y1 y2 q => (sh_old h.2.2.2.2.2.2.2.1 (shOK_k he) y2 q).2)
          · rw [c.2]; exact h.M
        · rw [c.2]; exact h.M
    · rw [sAt_y hd, sAt_n he] at c
      rw [c.2]; exact h.M
  · rw [sAt_n hd] at c
    rw [c.2]; exact h.M
