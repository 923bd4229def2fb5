/-! ===== calls that change: contacts ===== -/
theorem ctR.at' {σ τ : ha_St} {i a : Nat} (h : ctR σ i a) (hT : gT τ a = gT σ a) (ha : gI τ a = gI σ a) (hm : ∀ x, 45 ≤ x → x ≤ 51 → gI τ x i = gI σ x i) : ctR τ i a := by
  obtain ⟨t, h1, h2, h3, h4⟩ := h
  refine ⟨t, hT.trans h1, h2, h3, ?_⟩
  unfold gripOf at *
  rw [ha, hm 45 (by omega) (by omega), hm 46 (by omega) (by omega), hm 47 (by omega) (by omega), hm 48 (by omega) (by omega), hm 49 (by omega) (by omega), hm 50 (by omega) (by omega), hm 51 (by omega) (by omega)]
  exact h4
theorem RC.upd {σ τ : ha_St} {c a : Nat} (h : RC σ) (hc : c < nC σ) (hr : gR σ 1 c = some a) (hT : gT τ = gT σ) (hR : gR τ = gR σ) (e1 : gI τ 0 1 = gI σ 0 1) (e2 : gI τ 44 1 = gI σ 44 1) (ho : ∀ x, 74 ≤ x → x ≠ a → gI τ x = gI σ x) (hm : ∀ x i, 45 ≤ x → x ≤ 51 → i ≠ c → gI τ x i = gI σ x i) (new : ctR τ c a) : RC τ := by
  have en : nC τ = nC σ := by unfold nC; rw [e2]
  refine ⟨by rw [e1, e2]; exact h.1, by unfold MN; rw [e2]; exact h.2.1, fun i hi => ?_, fun i j b hi hj => ?_⟩
  · rw [en] at hi
    by_cases e : i = c
    · rw [e, hR]; exact ⟨a, hr, new⟩
    · obtain ⟨b, b1, b2⟩ := h.2.2.1 i hi
      have nb : b ≠ a := fun q => e (h.2.2.2 i c a hi hc (by rw [← q]; exact b1) hr)
      obtain ⟨t, -, -, h74, -⟩ := id b2
      exact ⟨b, by rw [hR]; exact b1, b2.at' (by rw [hT]) (ho b h74 nb) (fun x p q => hm x i p q e)⟩
  · rw [en] at hi hj
    rw [hR]
    exact h.2.2.2 i j b hi hj
theorem RS.ct {σ τ : ha_St} (h : RS σ) (hT : kT σ τ) (hR : ∀ k, k < 8 → gR τ (36 + k) = gR σ (36 + k)) (hC : ∀ b, (gT σ b).1 ≠ 0 → (∀ i, i < nC σ → gR σ 1 i ≠ some b) → ∀ i, i < nC τ → gR τ 1 i ≠ some b) (hI : ∀ a j, 65 ≤ a → a ≤ 71 → gI τ a j = gI σ a j) (hg : ∀ a, 74 ≤ a → (gT σ a).1 ≠ 0 → (∃ k j, k < 8 ∧ j ≤ 2 ∧ gR σ (36 + k) j = some a) → gI τ a = gI σ a) : RS τ := by
  refine ⟨fun k hk => (h.1 k hk).ag hT (hR k hk) hC (fun x p q => hI x k (by omega) (by omega)) (fun i _ => hI 71 _ (by omega) (by omega)) (fun a h74 nz q => ?_), ?_⟩
  · obtain ⟨j, j1, j2⟩ := q
    exact hg a h74 nz ⟨k, j, hk, j1, j2⟩
  · intro k l j i b hk hl hj hi q1 q2
    rw [hR k hk] at q1
    rw [hR l hl] at q2
    exact h.2 k l j i b hk hl hj hi q1 q2
/-- a contact of the part lies on no shelf -/
theorem sh_nc {σ : ha_St} (h : RS σ) {i a k j b : Nat} (hi : i < nC σ) (hr : gR σ 1 i = some a) (hc : ctR σ i a) (hk : k < 8) (hj : j ≤ 2) (hb : gR σ (36 + k) j = some b) : b ≠ a := by
  intro e
  rw [e] at hb
  obtain ⟨t, t1, t2, -⟩ := hc
  obtain ⟨-, w⟩ := h.1 k hk
  have jj : j = 0 ∨ j = 1 ∨ j = 2 := by omega
  rcases w with ⟨-, r0, r1, r2⟩ | ⟨-, r1, r2, x, t', b1, -, -, -, -, -, -, -, b9⟩ | ⟨-, r0, r2, x, n, b1, b2, -⟩ | ⟨-, r0, r1, x, n, b1, b2, -⟩
  · rcases jj with rfl | rfl | rfl
    · rw [r0] at hb; cases hb
    · rw [r1] at hb; cases hb
    · rw [r2] at hb; cases hb
  · rcases jj with rfl | rfl | rfl
    · cases b1.symm.trans hb; exact b9 i hi hr
    · rw [r1] at hb; cases hb
    · rw [r2] at hb; cases hb
  · rcases jj with rfl | rfl | rfl
    · rw [r0] at hb; cases hb
    · cases b1.symm.trans hb
      have := t1.symm.trans b2
      have e20 : t = 20 := congrArg (fun z : Nat × Nat => z.1) this
      rw [e20] at t2
      exact absurd t2 (by unfold pT; decide)
    · rw [r2] at hb; cases hb
  · rcases jj with rfl | rfl | rfl
    · rw [r0] at hb; cases hb
    · rw [r1] at hb; cases hb
    · cases b1.symm.trans hb
      have := t1.symm.trans b2
      have e20 : t = 22 := congrArg (fun z : Nat × Nat => z.1) this
      rw [e20] at t2
      exact absurd t2 (by unfold pT; decide)
def dCt (a j : Nat) : Prop := (a = 0 ∧ (j = 1 ∨ j = 5)) ∨ (a = 44 ∧ j = 1) ∨ (45 ≤ a ∧ a ≤ 51) ∨ 74 ≤ a
theorem Inv.ct {σ τ : ha_St} (h : Inv σ) (hY : LY τ) (hF : FN τ) (hI : ∀ a j, ¬ dCt a j → gI τ a j = gI σ a j) (c1 : RC τ) (c5 : RS τ) (c6 : CV τ) : Inv τ := by
  obtain ⟨h1, h2, h3, h4, h5, h6, h7, h8, h9, h10⟩ := h
  have ki : ∀ U : Nat → Nat → Prop, (∀ a j, U a j → ¬ dCt a j) → kI U σ τ := fun U hU a j hu _ => hI a j (hU a j hu)
  refine ⟨hY, hF, ?_, c1, h5.ag (ki _ fun a j u => by unfold uRL at u; unfold dCt; omega), h6.ag (ki _ fun a j u => by unfold uRP at u; unfold dCt; omega), h7.ag (ki _ fun a j u => by unfold uRT at u; unfold dCt; omega), c5, c6, h10.ag (ki _ fun a j u => by unfold uPV at u; unfold dCt; omega)⟩
  unfold nOK at *
  rw [hI 9 7 (by unfold dCt; omega)]
  exact h3
theorem sI_id {σ : ha_St} {a j : Nat} {v : Int32} (h : gI σ a j = v) : sI σ a j v = σ := by
  have e : (fun x y => if x = a ∧ y = j then v else σ.1 x y) = σ.1 := by
    funext x y
    by_cases q : x = a ∧ y = j
    · rw [if_pos q, q.1, q.2]; exact h.symm
    · rw [if_neg q]
  unfold sI
  rw [e]
theorem plcV_n {x y : Int32} : plcV x y = 0 ↔ ¬ plc x y := by
  unfold plcV
  by_cases q : plc x y
  · rw [if_pos q]; exact ⟨fun z => absurd z (by decide), fun z => absurd q z⟩
  · rw [if_neg q]; exact ⟨fun _ => q, fun _ => rfl⟩
theorem e_move {σ σ1 σ2 : ha_St} {i x y r r' : Int32} (h : Inv σ) (c : moveQ σ i x y r σ1) (k : mMoveQ σ1 i x y r' σ2) : r' = r ∧ Inv σ2 := by
  have hC := h.2.2.2.1
  rcases c with ⟨c1, c2, c3⟩ | ⟨a, c1, c2, c3⟩
  · rw [c3] at k
    have n : icV σ i = 0 ∨ plcV x y = 0 := by
      rw [icV_0, plcV_n]
      rw [hC.1] at c1
      by_cases q : 0 ≤ i ∧ i < gI σ 44 1
      · exact Or.inr (fun z => c1 ⟨q, z⟩)
      · exact Or.inl q
    rcases k with ⟨-, k2, k3⟩ | ⟨k1, -⟩
    · exact ⟨k2.trans c2.symm, by rw [k3]; exact h⟩
    · exact absurd n k1
  · obtain ⟨ci, ct, cr, cl⟩ := ct_at hC c1
    have h74 : 74 ≤ a := by obtain ⟨t, -, -, h74, -⟩ := id ct; exact h74
    have e5 : gI σ a 5 = gI σ 47 i.toNatClampNeg ∧ gI σ a 6 = gI σ 48 i.toNatClampNeg := by
      obtain ⟨t, -, -, -, -, -, -, -, -, -, -, e5, e6, -⟩ := ct
      exact ⟨e5, e6⟩
    have no : ∀ τ, gI τ 44 1 = gI σ 44 1 → ¬ (icV τ i = 0 ∨ plcV x y = 0) := by
      intro τ e
      rw [icV_0, plcV_n, e]
      rintro (q | q)
      · exact q ci
      · exact q c2
    rcases c3 with ⟨d1, d2, d3, d4⟩ | ⟨d1, d3, d4⟩
    · rw [d4] at k
      rcases k with ⟨k1, -⟩ | ⟨-, k2, k3⟩
      · exact absurd k1 (no σ rfl)
      · rw [e5.1] at d1
        rw [e5.2] at d2
        rw [if_pos ⟨d1, d2⟩] at k2
        refine ⟨k2.trans d3.symm, ?_⟩
        rw [k3, sI_id d1, sI_id d2]
        exact h
    · have o : ∀ z j, ¬ (z = a ∧ j = 5) → ¬ (z = a ∧ j = 6) → ¬ (z = 0 ∧ j = 5) → gI σ1 z j = gI σ z j := fun z j p q w => by rw [d4, sI_o w, sI_o q, sI_o p]
      rcases k with ⟨k1, -⟩ | ⟨-, k2, k3⟩
      · exact absurd k1 (no σ1 (o 44 1 (by omega) (by omega) (by omega)))
      · rw [o 47 _ (by omega) (by omega) (by omega), o 48 _ (by omega) (by omega) (by omega), ← e5.1, ← e5.2, if_neg d1] at k2
        refine ⟨k2.trans d3.symm, ?_⟩
        have ee : σ2 = sI (sI (sI (sI (sI σ a 5 x) a 6 y) 0 5 1) 47 i.toNatClampNeg x) 48 i.toNatClampNeg y := by rw [k3, d4]
        have oo : ∀ z j, ¬ (z = a ∧ j = 5) → ¬ (z = a ∧ j = 6) → ¬ (z = 0 ∧ j = 5) → ¬ (z = 47 ∧ j = i.toNatClampNeg) → ¬ (z = 48 ∧ j = i.toNatClampNeg) → gI σ2 z j = gI σ z j := fun z j p q w p1 p2 => by rw [ee, sI_o p2, sI_o p1, sI_o w, sI_o q, sI_o p]
        have hT2 : gT σ2 = gT σ := by rw [ee]; rfl
        have hR2 : gR σ2 = gR σ := by rw [ee]; rfl
        have hn2 : gn σ2 = gn σ := by rw [ee]; rfl
        refine Inv.ct h (h.1.same hT2 hR2 hn2) (fun z hz => by rw [hT2] at hz; rw [hn2]; exact h.2.1 z hz) (fun z j nd => ?_) ?_ ?_ ?_
        · unfold dCt at nd
          exact oo z j (by omega) (by omega) (by omega) (by omega) (by omega)
        · refine hC.upd cl cr hT2 hR2 (oo 0 1 (by omega) (by omega) (by omega) (by omega) (by omega)) (oo 44 1 (by omega) (by omega) (by omega) (by omega) (by omega)) (fun z hz ne => funext fun j => oo z j (by omega) (by omega) (by omega) (by omega) (by omega)) (fun z j p q ne => oo z j (by omega) (by omega) (by omega) (by omega) (by omega)) ?_
          obtain ⟨t, t1, t2, t3, t4, t5, t6, t7, t8, t9, t10, t11, t12, t13, t14, t15, t16, t17⟩ := ct
          have g5 : gI σ2 a 5 = x := by rw [ee, sI_o (by omega), sI_o (by omega), sI_o (by omega), sI_o (by omega), sI_y]
          have g6 : gI σ2 a 6 = y := by rw [ee, sI_o (by omega), sI_o (by omega), sI_o (by omega), sI_y]
          have g47 : gI σ2 47 i.toNatClampNeg = x := by rw [ee, sI_o (by omega), sI_y]
          have g48 : gI σ2 48 i.toNatClampNeg = y := by rw [ee, sI_y]
          have ga : ∀ j, j ≠ 5 → j ≠ 6 → gI σ2 a j = gI σ a j := fun j p q => oo a j (by omega) (by omega) (by omega) (by omega) (by omega)
          have gm : ∀ z, 45 ≤ z → z ≤ 51 → z ≠ 47 → z ≠ 48 → gI σ2 z i.toNatClampNeg = gI σ z i.toNatClampNeg := fun z p q p1 p2 => oo z _ (by omega) (by omega) (by omega) (by omega) (by omega)
          refine ⟨t, by rw [hT2]; exact t1, t2, t3, ?_⟩
          unfold gripOf at *
          rw [g5, g6, g47, g48, ga 0 (by omega) (by omega), ga 1 (by omega) (by omega), ga 2 (by omega) (by omega), ga 3 (by omega) (by omega), ga 4 (by omega) (by omega), ga 7 (by omega) (by omega), ga 8 (by omega) (by omega), gm 45 (by omega) (by omega) (by omega) (by omega), gm 46 (by omega) (by omega) (by omega) (by omega), gm 49 (by omega) (by omega) (by omega) (by omega), gm 50 (by omega) (by omega) (by omega) (by omega), gm 51 (by omega) (by omega) (by omega) (by omega)]
          exact ⟨t4, t5, t6, t7, t8, t9, t10, rfl, rfl, t13, t14, c2, t16, t17⟩
        · have en : nC σ2 = nC σ := by unfold nC; rw [oo 44 1 (by omega) (by omega) (by omega) (by omega) (by omega)]
          refine RS.ct h.2.2.2.2.2.2.2.1 (fun z _ => by rw [hT2]) (fun z _ => by rw [hR2]) (fun b _ q j hj => by rw [hR2]; rw [en] at hj; exact q j hj) (fun z j p q => oo z j (by omega) (by omega) (by omega) (by omega) (by omega)) (fun z p nz q => ?_)
          obtain ⟨k, j, hk, hj, hb⟩ := q
          have ne := sh_nc h.2.2.2.2.2.2.2.1 cl cr ct hk hj hb
          exact funext fun j => oo z j (by omega) (by omega) (by omega) (by omega) (by omega)
        · intro q
          rw [ee, sI_o (by omega), sI_o (by omega), sI_y] at q
          exact absurd q (by decide)
theorem e_miss {σ σ1 σ2 : ha_St} {i n r r' : Int32} (h : Inv σ) (c : missQ σ i n r σ1) (k : mMissQ σ1 i n r' σ2) : r' = r ∧ Inv σ2 := by
  have hC := h.2.2.2.1
  rcases c with ⟨c1, c2, c3⟩ | ⟨a, c1, c2, c2', c3⟩
  · rw [c3] at k
    have n : icV σ i = 0 ∨ inV n 0 50 = 0 := by
      rw [icV_0, inV_iff]
      rw [hC.1] at c1
      by_cases q : 0 ≤ i ∧ i < gI σ 44 1
      · exact Or.inr (fun z => c1 ⟨q, z⟩)
      · exact Or.inl q
    rcases k with ⟨-, k2, k3⟩ | ⟨k1, -⟩ | ⟨k1, -⟩
    · exact ⟨k2.trans c2.symm, by rw [k3]; exact h⟩
    · exact absurd n k1
    · exact absurd n k1
  · obtain ⟨ci, ct, cr, cl⟩ := ct_at hC c1
    have h74 : 74 ≤ a := by obtain ⟨t, -, -, h74, -⟩ := id ct; exact h74
    have e7 : gI σ a 7 = gI σ 51 i.toNatClampNeg ∧ ((gT σ a).1 = 2 ↔ gI σ 45 i.toNatClampNeg = 2) := by
      obtain ⟨t, t1, t2, -, t4, -, -, -, -, -, -, -, -, e7, -⟩ := ct
      refine ⟨e7, ?_⟩
      rw [t1, ← t4]
      exact (kind_tag t2).1.symm
    have no : ∀ τ, gI τ 44 1 = gI σ 44 1 → ¬ (icV τ i = 0 ∨ inV n 0 50 = 0) := by
      intro τ e
      rw [icV_0, inV_iff, e]
      rintro (q | q)
      · exact q ci
      · exact q ⟨c2, c2'⟩
    rcases c3 with ⟨d1, d3, d4⟩ | ⟨d1, d3, d4⟩
    · rw [d4] at k
      rw [e7.2] at d1
      rcases k with ⟨k1, -⟩ | ⟨-, -, k2, k3⟩ | ⟨-, k1, -⟩
      · exact absurd k1 (no σ rfl)
      · exact ⟨k2.trans d3.symm, by rw [k3]; exact h⟩
      · exact absurd d1 k1
    · have o : ∀ z j, ¬ (z = a ∧ j = 7) → gI σ1 z j = gI σ z j := fun z j p => by rw [d4, sI_o p]
      rw [Ne, e7.2] at d1
      rcases k with ⟨k1, -⟩ | ⟨-, k1, -⟩ | ⟨-, -, k2, k3⟩
      · exact absurd k1 (no σ1 (o 44 1 (by omega)))
      · rw [o 45 _ (by omega)] at k1
        exact absurd k1 d1
      · rw [o 51 _ (by omega), ← e7.1] at k2
        refine ⟨k2.trans d3.symm, ?_⟩
        have ee : σ2 = sI (sI σ a 7 n) 51 i.toNatClampNeg n := by rw [k3, d4]
        have oo : ∀ z j, ¬ (z = a ∧ j = 7) → ¬ (z = 51 ∧ j = i.toNatClampNeg) → gI σ2 z j = gI σ z j := fun z j p q => by rw [ee, sI_o q, sI_o p]
        have hT2 : gT σ2 = gT σ := by rw [ee]; rfl
        have hR2 : gR σ2 = gR σ := by rw [ee]; rfl
        have hn2 : gn σ2 = gn σ := by rw [ee]; rfl
        refine Inv.ct h (h.1.same hT2 hR2 hn2) (fun z hz => by rw [hT2] at hz; rw [hn2]; exact h.2.1 z hz) (fun z j nd => ?_) ?_ ?_ ?_
        · unfold dCt at nd
          exact oo z j (by omega) (by omega)
        · refine hC.upd cl cr hT2 hR2 (oo 0 1 (by omega) (by omega)) (oo 44 1 (by omega) (by omega)) (fun z hz ne => funext fun j => oo z j (by omega) (by omega)) (fun z j p q ne => oo z j (by omega) (by omega)) ?_
          obtain ⟨t, t1, t2, t3, t4, t5, t6, t7, t8, t9, t10, t11, t12, t13, t14, t15, t16, t17⟩ := ct
          have g7 : gI σ2 a 7 = n := by rw [ee, sI_o (by omega), sI_y]
          have g51 : gI σ2 51 i.toNatClampNeg = n := by rw [ee, sI_y]
          have ga : ∀ j, j ≠ 7 → gI σ2 a j = gI σ a j := fun j p => oo a j (by omega) (by omega)
          have gm : ∀ z, 45 ≤ z → z ≤ 51 → z ≠ 51 → gI σ2 z i.toNatClampNeg = gI σ z i.toNatClampNeg := fun z p q p1 => oo z _ (by omega) (by omega)
          refine ⟨t, by rw [hT2]; exact t1, t2, t3, ?_⟩
          unfold gripOf at *
          rw [g7, g51, ga 0 (by omega), ga 1 (by omega), ga 2 (by omega), ga 3 (by omega), ga 4 (by omega), ga 5 (by omega), ga 6 (by omega), ga 8 (by omega), gm 45 (by omega) (by omega) (by omega), gm 46 (by omega) (by omega) (by omega), gm 47 (by omega) (by omega) (by omega), gm 48 (by omega) (by omega) (by omega), gm 49 (by omega) (by omega) (by omega), gm 50 (by omega) (by omega) (by omega)]
          exact ⟨t4, t5, t6, t7, t8, t9, t10, t11, t12, rfl, t14, t15, t16, ⟨c2, c2'⟩⟩
        · have en : nC σ2 = nC σ := by unfold nC; rw [oo 44 1 (by omega) (by omega)]
          refine RS.ct h.2.2.2.2.2.2.2.1 (fun z _ => by rw [hT2]) (fun z _ => by rw [hR2]) (fun b _ q j hj => by rw [hR2]; rw [en] at hj; exact q j hj) (fun z j p q => oo z j (by omega) (by omega)) (fun z p nz q => ?_)
          obtain ⟨k, j, hk, hj, hb⟩ := q
          have ne := sh_nc h.2.2.2.2.2.2.2.1 cl cr ct hk hj hb
          exact funext fun j => oo z j (by omega) (by omega)
        · exact h.2.2.2.2.2.2.2.2.1.ag (fun z j u _ => oo z j (by unfold uCV at u; omega) (by unfold uCV at u; omega)) (fun x _ _ => by rw [ee]; rfl)
def undoQ (σ : ha_St) (r : Int32) (σ' : ha_St) : Prop := (gI σ 0 1 ≤ 0 ∧ r = -3 ∧ σ' = σ) ∨ (0 < gI σ 0 1 ∧ r = gI σ 0 1 - 1 ∧ σ' = undoF σ)
def mUndoQ (σ : ha_St) (v : Option Value) (σ' : ha_St) : Prop := (gI σ 44 1 = 0 ∧ v = some (.int (-3)) ∧ σ' = σ) ∨ (gI σ 44 1 ≠ 0 ∧ v = some (.int (gI σ 44 1 - 1)) ∧ σ' = sI σ 44 1 (gI σ 44 1 - 1))
theorem e_undo {σ σ1 σ2 : ha_St} {r : Int32} {v : Option Value} (h : Inv σ) (c : undoQ σ r σ1) (k : mUndoQ σ1 v σ2) : v = some (.int r) ∧ Inv σ2 := by
  have hC := h.2.2.2.1
  rcases c with ⟨c1, c2, c3⟩ | ⟨c1, c2, c3⟩
  · rw [c3] at k
    rw [hC.1] at c1
    have z : gI σ 44 1 = 0 := by have := hC.2.1.1; grind
    rcases k with ⟨-, k2, k3⟩ | ⟨k1, -⟩
    · exact ⟨by rw [k2, c2], by rw [k3]; exact h⟩
    · exact absurd z k1
  · have e1 : gI σ1 44 1 = gI σ 44 1 := by rw [c3]; unfold undoF; rw [sI_o (by omega), gI_sR, sI_o (by omega)]
    rw [hC.1] at c1 c2
    unfold mUndoQ at k
    rw [e1] at k
    rcases k with ⟨k1, -⟩ | ⟨-, k2, k3⟩
    · rw [k1] at c1; exact absurd c1 (by decide)
    · refine ⟨by rw [k2, c2], ?_⟩
      have ee : σ2 = sI (sI (sR (sI σ 0 1 (gI σ 44 1 - 1)) 1 (gI σ 44 1 - 1).toNatClampNeg none) 0 5 1) 44 1 (gI σ 44 1 - 1) := by
        rw [k3, c3]; unfold undoF; rw [hC.1]
      have oo : ∀ z j, ¬ (z = 0 ∧ j = 1) → ¬ (z = 0 ∧ j = 5) → ¬ (z = 44 ∧ j = 1) → gI σ2 z j = gI σ z j := fun z j p q w => by rw [ee, sI_o w, sI_o q, gI_sR, sI_o p]
      have hT2 : gT σ2 = gT σ := by rw [ee]; rfl
      have hn2 : gn σ2 = gn σ := by rw [ee]; rfl
      have hR2 : ∀ z j, gR σ2 z j = if z = 1 ∧ j = (gI σ 44 1 - 1).toNatClampNeg then none else gR σ z j := fun z j => by rw [ee]; rfl
      have g0 : 0 ≤ gI σ 44 1 - 1 := by have := hC.2.1.2; grind
      have gs : nC σ = (gI σ 44 1 - 1).toNatClampNeg + 1 := by
        have := tn_succ (N := 10) g0 (by have := hC.2.1.2; grind)
        unfold nC
        rw [← this]
        congr 1
        grind
      have g44 : gI σ2 44 1 = gI σ 44 1 - 1 := by rw [ee, sI_y]
      have en : nC σ2 = (gI σ 44 1 - 1).toNatClampNeg := by unfold nC; rw [g44]
      have hY2 : LY σ2 := by
        have l := h.1
        unfold LY at *
        rw [hT2, hn2]
        refine ⟨l.1, fun q hq => ?_, l.2.2⟩
        have rn : ∀ q ∈ rfA, q.1 ≠ 1 := by decide
        rw [hR2, if_neg (fun z => rn q hq z.1)]
        exact l.2.1 q hq
      refine Inv.ct h hY2 (fun z hz => by rw [hT2] at hz; rw [hn2]; exact h.2.1 z hz) (fun z j nd => ?_) ⟨?_, ?_, fun i hi => ?_, fun i j a hi hj => ?_⟩ ?_ ?_
      · unfold dCt at nd
        exact oo z j (by omega) (by omega) (by omega)
      · rw [g44, ee, sI_o (by omega), sI_o (by omega), gI_sR, sI_y]
      · unfold MN
        rw [g44]
        exact ⟨g0, by have := hC.2.1.2; grind⟩
      · rw [en] at hi
        obtain ⟨a, a1, a2⟩ := hC.2.2.1 i (by omega)
        refine ⟨a, by rw [hR2, if_neg (by omega)]; exact a1, a2.at' (by rw [hT2]) (funext fun j => ?_) (fun x p q => oo x i (by omega) (by omega) (by omega))⟩
        obtain ⟨t, -, -, h74, -⟩ := a2
        exact oo a j (by omega) (by omega) (by omega)
      · rw [en] at hi hj
        rw [hR2, if_neg (by omega), hR2, if_neg (by omega)]
        exact hC.2.2.2 i j a (by omega) (by omega)
      · refine RS.ct h.2.2.2.2.2.2.2.1 (fun z _ => by rw [hT2]) (fun z hz => funext fun j => by rw [hR2, if_neg (by omega)]) (fun b _ q j hj => ?_) (fun z j p q => oo z j (by omega) (by omega) (by omega)) (fun z p nz q => funext fun j => oo z j (by omega) (by omega) (by omega))
        rw [en] at hj
        rw [hR2, if_neg (by omega)]
        exact q j (by omega)
      · intro q
        rw [ee, sI_o (by omega), sI_y] at q
        exact absurd q (by decide)
