/-! ===== calls that change: keep ===== -/
theorem i64_32 {x : Int32} : x.toInt64.toInt32 = x := Int32.toInt32_toInt64 x
theorem i8_6 {q : Int32} (h : 0 ≤ q ∧ q < 6) : q.toInt8.toInt32 = q := by
  have k : ∀ n : Nat, n < 6 → (Int32.ofNat n).toInt8.toInt32 = Int32.ofNat n := by decide
  have l := tn_lt h.1 h.2
  rw [show (6 : Int32).toNatClampNeg = 6 by decide] at l
  have := k _ l
  rw [nI_tn h.1] at this
  exact this
theorem fits_8 {x : Int8} : fits .byte (.int x.toInt32) = true := by
  have h1 := Int8.le_toInt x
  have h2 := Int8.toInt_lt x
  have e : x.toInt32.toInt = x.toInt := Int8.toInt_toInt32 x
  have a : (-128 : Int32) ≤ x.toInt32 := by rw [Int32.le_iff_toInt_le, e]; exact h1
  have b : x.toInt32 ≤ 127 := by rw [Int32.le_iff_toInt_le, e]; show x.toInt ≤ 127; omega
  simp [fits, a, b]
theorem wr_eq {σ : ha_St} (h : RC σ) {j : Nat} (hj : j < 3 * nC σ) : wrV σ j = wrD σ j := by
  have hi : j / 3 < nC σ := by omega
  obtain ⟨a, a1, a2⟩ := h.2.2.1 _ hi
  have n10 := nC_le h.2.1
  have ca : cAt σ (Int32.ofNat (j / 3)) = some a := by rw [cAt_i h hi]; exact a1
  have k := (row_dir a2).1
  unfold clRow dr3 at k
  have k1 : (pxOf σ a (gT σ a).1 (-1)).toInt64 = dirV σ (j / 3) 0 := congrArg (fun z : I3 => z.1) k
  have k2 : (pyOf σ a (gT σ a).1 (-1)).toInt64 = dirV σ (j / 3) 1 := congrArg (fun z : I3 => z.2.1) k
  have k3 : (tuOf σ a (gT σ a).1 (-1)).toInt64 = dirV σ (j / 3) 2 := congrArg (fun z : I3 => z.2.2) k
  unfold wrV wrD
  rw [ca]
  simp only []
  have m3 : j % 3 = 0 ∨ j % 3 = 1 ∨ j % 3 = 2 := by omega
  rcases m3 with q | q | q
  · rw [q, if_pos rfl, show Int32.ofNat 0 = 0 by rfl, ← k1, i64_32]
  · rw [q, if_neg (by omega), if_pos rfl, show Int32.ofNat 1 = 1 by rfl, ← k2, i64_32]
  · rw [q, if_neg (by omega), if_neg (by omega), show Int32.ofNat 2 = 2 by rfl, ← k3, i64_32]
/-- a shelf of new things: what a keep leaves -/
theorem plan_M {σ : ha_St} (h : Inv σ) (h7 : gI σ 26 7 ≠ 0) {μ : Nat → Int32} (hT : mfT σ μ) : gI σ 26 6 = μ 0 ∧ rowsP (WK σ) μ (μ 0).toNatClampNeg σ ∧ μ 0 ≤ 12 ∧ 0 ≤ μ 0 := by
  have q : mfQ σ (fun x y => if x = 62 then μ y else gI σ x y, σ.2) := by
    refine ⟨⟨rfl, rfl, rfl, fun a ha => funext fun y => ?_, rfl⟩, ?_⟩
    · show (if a = 62 then μ y else gI σ a y) = _
      rw [if_neg ha]
    · have e : gI (fun x y => if x = 62 then μ y else gI σ x y, σ.2) 62 = μ := funext fun y => (show (if 62 = 62 then μ y else gI σ 62 y) = μ y from if_pos rfl)
      rw [e]
      exact hT
  have p := plan_T h h7 q
  have e : gI (fun x y => if x = 62 then μ y else gI σ x y, σ.2) 62 = μ := funext fun y => (show (if 62 = 62 then μ y else gI σ 62 y) = μ y from if_pos rfl)
  rw [wkS_c (mfQ_st q), e] at p
  exact p
theorem lie_o {σ : ha_St} {k j b : Nat} : gI (lieF σ (36 + k) j b) = gI σ ∧ gT (lieF σ (36 + k) j b) = gT σ ∧ gL (lieF σ (36 + k) j b) = gL σ ∧ gn (lieF σ (36 + k) j b) = gn σ := ⟨rfl, rfl, rfl, rfl⟩
/-- the refs of a shelf that has taken -/
theorem lie_n {σ : ha_St} {k j b : Nat} : (∀ z i, z ≠ 36 + k → gR (lieF σ (36 + k) j b) z i = gR σ z i) ∧ gR (lieF σ (36 + k) j b) (36 + k) j = some b ∧ ∀ i, i ≠ j → i ≤ 2 → gR (lieF σ (36 + k) j b) (36 + k) i = none := by
  refine ⟨fun z i hz => ?_, ?_, fun i ni hi => ?_⟩
  · rw [lie_R, if_neg (fun q => hz q.1), if_neg (fun q => hz q.1), if_neg (fun q => hz q.1), if_neg (fun q => hz q.1)]
  · rw [lie_R, if_pos ⟨rfl, rfl⟩]
  · rw [lie_R, if_neg (fun q => ni q.2)]
    by_cases e2 : i = 2
    · rw [if_pos ⟨rfl, e2⟩]
    · rw [if_neg (fun q => e2 q.2)]
      by_cases e1 : i = 1
      · rw [if_pos ⟨rfl, e1⟩]
      · rw [if_neg (fun q => e1 q.2), if_pos ⟨rfl, by omega⟩]
/-- a shelf has taken the cell that was new in σ -/
theorem Inv.took {σ s τ : ha_St} {k j : Nat} (hk : k < 8) (hj : j ≤ 2) (h : Inv σ) (sT : ∀ z, z ≠ gn σ → gT s z = gT σ z) (sn : gn s = gn σ + 1) (sR : ∀ z i, z ≠ gn σ → gR s z i = gR σ z i) (sL : ∀ x, x ≠ gn σ → gL s x = gL σ x) (sI' : ∀ a, a ≠ gn σ → gI s a = gI σ a)
    (eT : gT τ = gT (lieF s (36 + k) j (gn σ))) (eR : gR τ = gR (lieF s (36 + k) j (gn σ))) (eN : gn τ = gn (lieF s (36 + k) j (gn σ))) (eL : gL τ = gL (lieF s (36 + k) j (gn σ))) (eI : ∀ a i, ¬ scr a i → ¬ (65 ≤ a ∧ a ≤ 70 ∧ i = k) → ¬ (a = 71 ∧ 60 * k ≤ i ∧ i < 60 * k + 60) → gI τ a i = gI s a i) (new : shR τ k) : Inv τ := by
  have g74 := h.1.2.2
  refine Inv.lie hk h (fun z hz => by rw [eT]; exact sT z hz) (by rw [eN]; exact sn) (fun z i hz ne => by rw [eR, lie_n.1 z i ne]; exact sR z i (by omega)) (fun x p q => by rw [eL]; exact sL x (by omega)) (fun a i p1 p2 p3 p4 => by rw [eI a i p2 p3 p4, sI' a p1]) new (fun i b i1 i2 q => ?_)
  rw [eR] at q
  by_cases e : i = j
  · rw [e, lie_n.2.1] at q; cases q; rfl
  · rw [lie_n.2.2 i e i2] at q; cases q
theorem tri_m {c : Int32} (h0 : 0 ≤ c) (h2 : c ≤ 10) : 0 ≤ 3 * c ∧ 3 * c ≤ 60 := by
  have a : 0 ≤ 3 * c := by have := (tri_c h0 h2).1; exact Int32.not_lt.mp this
  refine ⟨a, ?_⟩
  have l := tn_le h0 h2
  rw [show (10 : Int32).toNatClampNeg = 10 by decide] at l
  rw [Int32.le_iff_toInt_le, (tri_c h0 h2).2.2.2, show (60 : Int32).toInt = 60 by decide]
  omega
set_option maxHeartbeats 4000000 in
theorem e_keep {σ σ1 σ2 : ha_St} {d w k r r' : Int32} (h : Inv σ) (c : keepQ σ d w k r σ1) (m : mKeepQ σ1 d w k r' σ2) : r' = r ∧ Inv σ2 := by
  have hC := h.2.2.2.1
  have g74 := h.1.2.2
  unfold keepQ at c
  by_cases hd : shOK d
  · rw [sAt_y hd] at c
    simp only [] at c
    have hk := shOK_k hd
    by_cases w0 : w = 0
    · rw [if_pos w0] at c
      rcases m with ⟨m1, -⟩ | ⟨-, m2, ⟨-, m3⟩ | ⟨m1, -⟩ | ⟨m1, -⟩ | ⟨m1, -⟩⟩
      · exact absurd ⟨hd, Or.inl w0⟩ m1
      · refine ⟨m2.trans c.1.symm, ?_⟩
        have v2 : ∀ a i, gI σ2 a i = if a = 70 ∧ i = d.toNatClampNeg then 0 else if a = 71 ∧ 60 * d.toNatClampNeg ≤ i ∧ i < 60 * d.toNatClampNeg + 60 then 0 else if a = 65 ∧ i = d.toNatClampNeg then 0 else gI σ a i := by
          intro a i
          rw [m3, gI_sI, kp0_v, c.2]
          rfl
        have hT2 : gT σ2 = gT σ := by rw [m3, c.2]; rfl
        have hn2 : gn σ2 = gn σ := by rw [m3, c.2]; rfl
        have hR2 : ∀ z i, gR σ2 z i = if z = 36 + d.toNatClampNeg ∧ i = 2 then none else if z = 36 + d.toNatClampNeg ∧ i = 1 then none else if z = 36 + d.toNatClampNeg ∧ i = 0 then none else gR σ z i := fun z i => by rw [m3, c.2]; rfl
        refine Inv.sh (fun _ => False) hk h (fun z hz => by rw [hT2] at hz; rw [hn2]; exact h.2.1 z hz) (by omega) (fun z _ => by rw [hT2]) (fun z i _ ne => by rw [hR2, if_neg (fun q => ne q.1), if_neg (fun q => ne q.1), if_neg (fun q => ne q.1)]) (fun x _ _ => by rw [m3, c.2]; rfl) (fun a i p1 p2 p3 p4 => by rw [v2, if_neg (by omega), if_neg p4, if_neg (by omega)]) (fun a p1 p2 p3 => funext fun i => by rw [v2, if_neg (by omega), if_neg (by omega), if_neg (by omega)]) (fun a q => q.elim) ?_ (fun i b i1 i2 q => ?_)
        · refine ⟨by rw [v2, if_pos ⟨rfl, rfl⟩]; exact ⟨by decide, by decide⟩, Or.inl ⟨?_, ?_, ?_, ?_⟩⟩
          · rw [v2, if_neg (by omega), if_neg (by omega), if_pos ⟨rfl, rfl⟩]
          · rw [hR2, if_neg (by omega), if_neg (by omega), if_pos ⟨rfl, rfl⟩]
          · rw [hR2, if_neg (by omega), if_pos ⟨rfl, rfl⟩]
          · rw [hR2, if_pos ⟨rfl, rfl⟩]
        · rw [hR2] at q
          by_cases e2 : i = 2
          · rw [if_pos ⟨rfl, e2⟩] at q; cases q
          · rw [if_neg (by omega), if_pos ⟨rfl, by omega⟩] at q; cases q
      · rw [w0] at m1; exact absurd m1 (by decide)
      · rw [w0] at m1; exact absurd m1 (by decide)
      · rw [w0] at m1; exact absurd m1 (by decide)
    · rw [if_neg w0] at c
      by_cases w1 : w = 1
      · rw [if_pos w1] at c
        by_cases ck : 0 ≤ k ∧ k < gI σ 44 1
        · obtain ⟨b, hb⟩ := ct_ex hC ck
          rw [hb] at c
          simp only [] at c
          obtain ⟨-, ct, cr, cl⟩ := ct_at hC hb
          obtain ⟨t, t1, t2, t3, t4, t5, t6, t7, t8, t9, t10, t11, t12, t13, t14, t15, t16, t17⟩ := id ct
          have nz : (gT σ b).1 ≠ 0 := by rw [t1]; exact pT_nz t2
          have bl := h.2.1 b nz
          have tg := tag_kind t2
          have e1 : σ1 = lieF (twinF σ b t) (36 + d.toNatClampNeg) 0 (gn σ) := by rw [c.2, t1]
          have sT : ∀ z, z ≠ gn σ → gT (twinF σ b t) z = gT σ z := fun z hz => by
            show gT (mkPin σ _ _ _ _ _ _) z = _
            rw [mkPin_T, gT_sN, if_neg hz]
          have sR : ∀ z i, z ≠ gn σ → gR (twinF σ b t) z i = gR σ z i := fun z i hz => by
            show gR (mkPin σ _ _ _ _ _ _) z i = _
            rw [mkPin_R, gR_sN, if_neg hz]
          have sL : ∀ z, z ≠ gn σ → gL (twinF σ b t) z = gL σ z := fun z hz => mkPin_L hz
          have sI' : ∀ z, z ≠ gn σ → gI (twinF σ b t) z = gI σ z := fun z hz => funext fun i => by
            unfold twinF
            rw [sI_o (by omega), sI_o (by omega)]
            unfold twin1
            rw [mkPin_I hz]
          have o1 : ∀ z, z ≠ gn σ → gI σ1 z = gI σ z := fun z hz => by rw [e1, lie_o.1, sI' z hz]
          have ik : ¬ icV σ1 k = 0 := by
            rw [icV_0, o1 44 (by omega)]
            exact fun q => q ck
          rcases m with ⟨m1, -⟩ | ⟨-, m2, ⟨m1, -⟩ | ⟨-, -, m3⟩ | ⟨m1, -⟩ | ⟨m1, -⟩⟩
          · exact absurd ⟨hd, Or.inr (Or.inr (Or.inr ⟨w1, ik⟩))⟩ m1
          · rw [w1] at m1; exact absurd m1 (by decide)
          · refine ⟨m2.trans c.1.symm, ?_⟩
            have m3' : σ2 = sI (sI (sI (sI (sI (kp0 σ1 d 1) 66 d.toNatClampNeg k) 67 d.toNatClampNeg (gI σ 45 k.toNatClampNeg)) 68 d.toNatClampNeg (gI σ 49 k.toNatClampNeg)) 69 d.toNatClampNeg (gI σ 50 k.toNatClampNeg)) 70 d.toNatClampNeg 0 := by
              rw [m3]; unfold kp1; rw [o1 45 (by omega), o1 49 (by omega), o1 50 (by omega)]
            have eI : ∀ a i, ¬ (65 ≤ a ∧ a ≤ 70 ∧ i = d.toNatClampNeg) → ¬ (a = 71 ∧ 60 * d.toNatClampNeg ≤ i ∧ i < 60 * d.toNatClampNeg + 60) → gI σ2 a i = gI (twinF σ b t) a i := fun a i p q => by
              rw [m3', sI_o (by omega), sI_o (by omega), sI_o (by omega), sI_o (by omega), sI_o (by omega), kp0_v, if_neg q, if_neg (by omega), e1]
              rfl
            have eT : gT σ2 = gT (lieF (twinF σ b t) (36 + d.toNatClampNeg) 0 (gn σ)) := by rw [m3', ← e1]; rfl
            have eR : gR σ2 = gR (lieF (twinF σ b t) (36 + d.toNatClampNeg) 0 (gn σ)) := by rw [m3', ← e1]; rfl
            have mv := mk_v (σ := σ) (kind := kindOf t) (d := gI σ b 0) (x := gI σ b 5) (y := gI σ b 6) (g := gripOf σ b t) (b := gI σ b 3)
            have gg : ∀ i, i ≠ 4 → i ≠ 7 → gI σ2 (gn σ) i = gI (mkPin σ (kindOf t) (gI σ b 0) (gI σ b 5) (gI σ b 6) (gripOf σ b t) (gI σ b 3)) (gn σ) i := fun i p q => by
              rw [eI _ _ (by omega) (by omega)]
              unfold twinF
              rw [sI_o (by omega), sI_o (by omega)]
              rfl
            have g4 : gI σ2 (gn σ) 4 = gI σ b 4 := by
              rw [eI _ _ (by omega) (by omega)]
              unfold twinF
              rw [sI_o (by omega), sI_y]
            refine Inv.took hk (by omega) h sT (by show gn (mkPin σ _ _ _ _ _ _) = _; exact mkPin_n) sR sL sI' eT eR (by rw [m3', ← e1]; rfl) (by rw [m3', ← e1]; rfl) (fun a i _ p q => eI a i p q) ?_
            have v65 : gI σ2 65 d.toNatClampNeg = 1 := by rw [m3', sI_o (by omega), sI_o (by omega), sI_o (by omega), sI_o (by omega), sI_o (by omega), kp0_v, if_neg (by omega), if_pos ⟨rfl, rfl⟩]
            have v66 : gI σ2 66 d.toNatClampNeg = k := by rw [m3', sI_o (by omega), sI_o (by omega), sI_o (by omega), sI_o (by omega), sI_y]
            have v67 : gI σ2 67 d.toNatClampNeg = gI σ 45 k.toNatClampNeg := by rw [m3', sI_o (by omega), sI_o (by omega), sI_o (by omega), sI_y]
            have v68 : gI σ2 68 d.toNatClampNeg = gI σ 49 k.toNatClampNeg := by rw [m3', sI_o (by omega), sI_o (by omega), sI_y]
            have v69 : gI σ2 69 d.toNatClampNeg = gI σ 50 k.toNatClampNeg := by rw [m3', sI_o (by omega), sI_y]
            have v70 : gI σ2 70 d.toNatClampNeg = 0 := by rw [m3', sI_y]
            refine ⟨by rw [v70]; exact ⟨by decide, by decide⟩, Or.inr (Or.inl ⟨v65, by rw [eR]; exact lie_n.2.2 1 (by omega) (by omega), by rw [eR]; exact lie_n.2.2 2 (by omega) (by omega), gn σ, t, by rw [eR]; exact lie_n.2.1, ?_, t2, g74, ?_, ?_, ?_, ?_, fun i hi q => ?_⟩)⟩
            · rw [eT]
              show gT (mkPin σ _ _ _ _ _ _) (gn σ) = _
              rw [mkPin_tag, tg.1]
            · rw [v67]; exact t4
            · rw [g4, v66, t10]; exact nI_tn ck.1
            · rw [v68, ← t14]
              unfold gripOf
              by_cases z : t = 6 ∨ t = 1
              · rw [if_pos z, if_pos z, gg 8 (by omega) (by omega), mv.2.2.2.2.2.2.2 (tg.2.mpr z)]
                unfold gripOf
                rw [if_pos z]
              · rw [if_neg z, if_neg z]
            · rw [gg 3 (by omega) (by omega), mv.2.2.2.1, v69]; exact t9
            · have en : nC σ2 = nC σ := by unfold nC; rw [eI 44 1 (by omega) (by omega), sI' 44 (by omega)]
              rw [en] at hi
              rw [eR, lie_n.1 1 i (by omega), sR 1 i (by omega)] at q
              obtain ⟨a, a1, s, s1, s2, -⟩ := hC.2.2.1 i hi
              cases a1.symm.trans q
              exact absurd (h.2.1 (gn σ) (by rw [s1]; exact pT_nz s2)) (Nat.lt_irrefl _)
          · rw [w1] at m1; exact absurd m1 (by decide)
          · rw [w1] at m1; exact absurd m1 (by decide)
        · have hb := (ct_no hC).mpr ck
          rw [hb] at c
          simp only [] at c
          rw [c.2] at m
          have no : ¬ kpP σ d w k := by
            rintro ⟨-, q | q | q | q⟩
            · exact w0 q
            · rw [w1] at q; exact absurd q (by decide)
            · rw [w1] at q; exact absurd q (by decide)
            · exact q.2 (icV_0.mpr ck)
          rcases m with ⟨-, m2, m3⟩ | ⟨m1, -⟩
          · exact ⟨m2.trans c.1.symm, by rw [m3]; exact h⟩
          · exact absurd m1 no
      · rw [if_neg w1] at c
        by_cases w3 : w = 3
        · rw [if_pos w3] at c
          have sI' : ∀ z, z ≠ gn σ → gI (wrowF σ) z = gI σ z := fun z hz => wrS_I hz
          have o1 : ∀ z, z ≠ gn σ → gI σ1 z = gI σ z := fun z hz => by rw [c.2, lie_o.1, sI' z hz]
          rcases m with ⟨m1, -⟩ | ⟨-, m2, ⟨m1, -⟩ | ⟨m1, -⟩ | ⟨-, m3⟩ | ⟨m1, -⟩⟩
          · exact absurd ⟨hd, Or.inr (Or.inl w3)⟩ m1
          · exact absurd m1 w0
          · exact absurd m1 w1
          · refine ⟨m2.trans c.1.symm, ?_⟩
            have tc := tri_c hC.2.1.1 hC.2.1.2
            have tm := tri_m hC.2.1.1 hC.2.1.2
            have n10 := nC_le hC.2.1
            have ec : cN σ = nC σ := by unfold cN nC; rw [hC.1]
            have wd : ∀ i, wrD σ1 i = wrD σ i := fun i => by unfold wrD; rw [dirV_c (o1 46 (by omega)) (o1 47 (by omega)) (o1 48 (by omega))]
            have m3' : σ2 = rgA (sI (kp0 σ1 d 3) 70 d.toNatClampNeg (3 * gI σ 44 1)) 71 (60 * d.toNatClampNeg) (3 * nC σ) (wrD σ1) := by
              rw [m3]; unfold kp3; rw [o1 44 (by omega), tc.2.1]; rfl
            have eI : ∀ a i, ¬ (65 ≤ a ∧ a ≤ 70 ∧ i = d.toNatClampNeg) → ¬ (a = 71 ∧ 60 * d.toNatClampNeg ≤ i ∧ i < 60 * d.toNatClampNeg + 60) → gI σ2 a i = gI (wrowF σ) a i := fun a i p q => by
              rw [m3', gI_rgA, if_neg (by omega), sI_o (by omega), kp0_v, if_neg q, if_neg (by omega), c.2]
              rfl
            have eT : gT σ2 = gT (lieF (wrowF σ) (36 + d.toNatClampNeg) 1 (gn σ)) := by rw [m3', ← c.2]; rfl
            have eR : gR σ2 = gR (lieF (wrowF σ) (36 + d.toNatClampNeg) 1 (gn σ)) := by rw [m3', ← c.2]; rfl
            refine Inv.took hk (by omega) h (fun z hz => by show gT (sN σ _ _) z = _; rw [gT_sN, if_neg hz]) rfl (fun z i hz => by show gR (sN σ _ _) z i = _; rw [gR_sN, if_neg hz]) (fun x hx => funext fun i => by show (if x = gn σ then 0 else gL σ x i) = _; rw [if_neg hx]) sI' eT eR (by rw [m3', ← c.2]; rfl) (by rw [m3', ← c.2]; rfl) (fun a i _ p q => eI a i p q) ?_
            have v70 : gI σ2 70 d.toNatClampNeg = 3 * gI σ 44 1 := by rw [m3', gI_rgA, if_neg (by omega), sI_y]
            have v65 : gI σ2 65 d.toNatClampNeg = 3 := by rw [m3', gI_rgA, if_neg (by omega), sI_o (by omega), kp0_v, if_neg (by omega), if_pos ⟨rfl, rfl⟩]
            refine ⟨by rw [v70]; exact tm, Or.inr (Or.inr (Or.inl ⟨v65, by rw [eR]; exact lie_n.2.2 0 (by omega) (by omega), by rw [eR]; exact lie_n.2.2 2 (by omega) (by omega), gn σ, 3 * nC σ, by rw [eR]; exact lie_n.2.1, ?_, by omega, g74, by rw [v70]; exact tc.2.2.1.symm, fun i hi => ?_⟩))⟩
            · rw [eT]
              show gT (sN σ 20 (3 * cN σ)) (gn σ) = _
              rw [gT_sN, if_pos rfl, ec]
            · rw [eI _ _ (by omega) (by omega), m3', gI_rgA, if_pos ⟨rfl, by omega, by omega⟩, show 60 * d.toNatClampNeg + i - 60 * d.toNatClampNeg = i by omega, wd, ← wr_eq hC hi]
              unfold wrowF
              rw [gI_sF, if_pos ⟨rfl, by omega⟩]
          · rw [w3] at m1; exact absurd m1 (by decide)
        · rw [if_neg w3] at c
          by_cases w4 : w = 4
          · rw [if_pos w4] at c
            obtain ⟨c1, s, cs, c2⟩ := c
            obtain ⟨hs, h7⟩ := few_Inv h cs
            have s74 := hs.1.2.2
            have sI' : ∀ z, z ≠ gn s → gI (sideF s) z = gI s z := fun z hz => funext fun i => by unfold sideF; rw [gI_sF, if_neg (fun q => hz q.1), gI_sN, if_neg hz]
            have o1 : ∀ z, z ≠ gn s → gI σ1 z = gI s z := fun z hz => by rw [c2, lie_o.1, sI' z hz]
            rcases m with ⟨m1, -⟩ | ⟨-, m2, ⟨m1, -⟩ | ⟨m1, -⟩ | ⟨m1, -⟩ | ⟨-, s3, f, mq, m3, m4⟩⟩
            · exact absurd ⟨hd, Or.inr (Or.inr (Or.inl w4))⟩ m1
            · exact absurd m1 w0
            · exact absurd m1 w1
            · exact absurd m1 w3
            · refine ⟨m2.trans c1.symm, ?_⟩
              have st : sSt s (sI (kp0 σ1 d 4) 70 d.toNatClampNeg 0) := ⟨by rw [sI_o (by omega), kp0_g (by omega) (by omega), o1 44 (by omega)], by rw [sI_g (by omega), kp0_g (by omega) (by omega), o1 60 (by omega)], by rw [sI_g (by omega), kp0_g (by omega) (by omega), o1 61 (by omega)]⟩
              have st3 : sSt s s3 := by
                have q := mfQ_st mq
                exact ⟨q.1.trans st.1, q.2.1.trans st.2.1, q.2.2.trans st.2.2⟩
              have hT : mfT s (gI s3 62) := by
                have q := mq.2
                unfold mfT at *
                rw [mAll_c st, wkS_c st] at q
                exact q
              have p := plan_M hs h7 hT
              have m12 := tn_le p.2.2.2 p.2.2.1
              rw [show (12 : Int32).toNatClampNeg = 12 by decide] at m12
              have sd : sdN s = (gI s3 62 0).toNatClampNeg := by
                unfold sdN sdI
                rw [p.1, if_neg (Int32.not_lt.mpr p.2.2.2), if_neg (Int32.not_lt.mpr p.2.2.1)]
              have fv : ∀ i, i < (gI s3 62 0).toNatClampNeg → (gI s 30 i).toInt8.toInt32 = f i := by
                intro i hi
                obtain ⟨e, x1, x2⟩ := m4 i hi
                obtain ⟨dd, qq, y1, y2, y3, -⟩ := p.2.1 i hi
                have x1' := mPath_G.mp x1
                rw [wkS_c st3] at x1'
                have ed := gPath_det y1 x1'
                subst ed
                have x2' : gsf (WK s3) (gI s3 62) dd (f i) := x2
                rw [wkS_c st3] at x2'
                have eq := gsf_det y2 x2'
                rw [y3, i8_6 y2.1, eq]
              have fm := mq.1
              have v2 : ∀ a i, a ≠ 62 → gI σ2 a i = if a = 71 ∧ 60 * d.toNatClampNeg ≤ i ∧ i < 60 * d.toNatClampNeg + (gI s3 62 0).toNatClampNeg then f (i - 60 * d.toNatClampNeg) else if a = 70 ∧ i = d.toNatClampNeg then gI s3 62 0 else if a = 71 ∧ 60 * d.toNatClampNeg ≤ i ∧ i < 60 * d.toNatClampNeg + 60 then 0 else if a = 65 ∧ i = d.toNatClampNeg then 4 else gI (sideF s) a i := by
                intro a i ha
                rw [m3]
                unfold kp4
                rw [gI_rgA, gI_sI, fm.2.2.2.1 a ha, gI_sI, kp0_v, c2]
                by_cases z : a = 70 ∧ i = d.toNatClampNeg
                · rw [if_pos z, if_pos z]
                · rw [if_neg z, if_neg z, if_neg z]
                  rfl
              have eI : ∀ a i, ¬ scr a i → ¬ (65 ≤ a ∧ a ≤ 70 ∧ i = d.toNatClampNeg) → ¬ (a = 71 ∧ 60 * d.toNatClampNeg ≤ i ∧ i < 60 * d.toNatClampNeg + 60) → gI σ2 a i = gI (sideF s) a i := fun a i n p q => by
                have a62 : a ≠ 62 := fun z => n (by unfold scr; omega)
                rw [v2 a i a62, if_neg (by omega), if_neg (by omega), if_neg q, if_neg (by omega)]
              have e3T : gT s3 = gT σ1 := fm.1
              have e3R : gR s3 = gR σ1 := fm.2.1
              have e3n : gn s3 = gn σ1 := fm.2.2.1
              have e3L : gL s3 = gL σ1 := fm.2.2.2.2
              have eT : gT σ2 = gT (lieF (sideF s) (36 + d.toNatClampNeg) 2 (gn s)) := by rw [m3, ← c2]; exact e3T
              have eR : gR σ2 = gR (lieF (sideF s) (36 + d.toNatClampNeg) 2 (gn s)) := by rw [m3, ← c2]; exact e3R
              refine Inv.took hk (by omega) hs (fun z hz => by show gT (sN s _ _) z = _; rw [gT_sN, if_neg hz]) rfl (fun z i hz => by show gR (sN s _ _) z i = _; rw [gR_sN, if_neg hz]) (fun x hx => funext fun i => by show (if x = gn s then 0 else gL s x i) = _; rw [if_neg hx]) sI' eT eR (by rw [m3, ← c2]; exact e3n) (by rw [m3, ← c2]; exact e3L) eI ?_
              have v70 : gI σ2 70 d.toNatClampNeg = gI s3 62 0 := by rw [v2 70 _ (by omega), if_neg (by omega), if_pos ⟨rfl, rfl⟩]
              have v65 : gI σ2 65 d.toNatClampNeg = 4 := by rw [v2 65 _ (by omega), if_neg (by omega), if_neg (by omega), if_neg (by omega), if_pos ⟨rfl, rfl⟩]
              have gv : ∀ i, gI σ2 (gn s) i = if i < (gI s3 62 0).toNatClampNeg then (gI s 30 i).toInt8.toInt32 else 0 := fun i => by
                rw [eI _ _ (by unfold scr; omega) (by omega) (by omega)]
                unfold sideF
                rw [gI_sF, sd]
                by_cases z : i < (gI s3 62 0).toNatClampNeg
                · rw [if_pos ⟨rfl, z⟩, if_pos z]
                · rw [if_neg (fun q => z q.2), if_neg z, gI_sN, if_pos rfl]
              refine ⟨by rw [v70]; exact ⟨p.2.2.2, Int32.le_trans p.2.2.1 (by decide)⟩, Or.inr (Or.inr (Or.inr ⟨v65, by rw [eR]; exact lie_n.2.2 0 (by omega) (by omega), by rw [eR]; exact lie_n.2.2 1 (by omega) (by omega), gn s, (gI s3 62 0).toNatClampNeg, by rw [eR]; exact lie_n.2.1, ?_, by omega, s74, by rw [v70, nI_tn p.2.2.2], fun i hi => ?_, fun i => ?_⟩))⟩
              · rw [eT]
                show gT (sN s 22 (sdN s)) (gn s) = _
                rw [gT_sN, if_pos rfl, sd]
              · rw [gv, if_pos hi, v2 71 _ (by omega), if_pos ⟨rfl, by omega, by omega⟩, show 60 * d.toNatClampNeg + i - 60 * d.toNatClampNeg = i by omega]
                exact fv i hi
              · rw [gv]
                split
                · exact fits_8
                · decide
          · rw [if_neg w4] at c
            rw [c.2] at m
            have no : ¬ kpP σ d w k := by
              rintro ⟨-, q | q | q | q⟩
              · exact w0 q
              · exact w3 q
              · exact w4 q
              · exact w1 q.1
            rcases m with ⟨-, m2, m3⟩ | ⟨m1, -⟩
            · exact ⟨m2.trans c.1.symm, by rw [m3]; exact h⟩
            · exact absurd m1 no
  · rw [sAt_n hd] at c
    simp only [] at c
    rcases m with ⟨-, m2, m3⟩ | ⟨m1, -⟩
    · exact ⟨m2.trans c.1.symm, by rw [m3, c.2]; exact h⟩
    · exact absurd m1.1 hd
