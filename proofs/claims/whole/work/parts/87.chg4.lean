/-! ===== calls that change: the shelves ===== -/
theorem rf_sh : ∀ q ∈ rfA, ¬ (36 ≤ q.1 ∧ q.1 < 44) ∧ q.1 < 74 := by decide
theorem Inv.sh {σ τ : ha_St} {k : Nat} (X : Nat → Prop) (hk : k < 8) (h : Inv σ) (hF : FN τ) (hn : gn σ ≤ gn τ) (hT : kT σ τ) (hR : ∀ z j, z < 74 → z ≠ 36 + k → gR τ z j = gR σ z j) (hL : ∀ x, 13 ≤ x → x ≤ 16 → gL τ x = gL σ x)
    (hI : ∀ a j, a < 74 → ¬ scr a j → ¬ (65 ≤ a ∧ a ≤ 70 ∧ j = k) → ¬ (a = 71 ∧ 60 * k ≤ j ∧ j < 60 * k + 60) → gI τ a j = gI σ a j) (hG : ∀ a, 74 ≤ a → (gT σ a).1 ≠ 0 → ¬ X a → gI τ a = gI σ a)
    (hX : ∀ a, X a → ¬ pT (gT σ a).1 ∧ ∀ l j, l < 8 → l ≠ k → j ≤ 2 → gR σ (36 + l) j ≠ some a) (new : shR τ k) (hD : ∀ j b, 1 ≤ j → j ≤ 2 → gR τ (36 + k) j = some b → ∀ l i, l < 8 → l ≠ k → 1 ≤ i → i ≤ 2 → gR σ (36 + l) i ≠ some b) : Inv τ := by
  obtain ⟨h1, h2, h3, h4, h5, h6, h7, h8, h9, h10⟩ := h
  have tz : ∀ a, a < 74 → gT τ a = gT σ a := by
    intro a ha
    have nz : ∀ a, a < 74 → (tyA.getD a (0, 0)).1 ≠ 0 := by decide
    exact hT a (by rw [h1.1 a ha]; exact nz a ha)
  have hY : LY τ := ⟨fun a ha => by rw [tz a ha]; exact h1.1 a ha, fun q hq => by have r := rf_sh q hq; rw [hR _ _ r.2 (by omega)]; exact h1.2.1 q hq, Nat.le_trans h1.2.2 hn⟩
  have ki : ∀ U : Nat → Nat → Prop, (∀ a j, U a j → a < 74 ∧ ¬ scr a j ∧ ¬ (65 ≤ a ∧ a ≤ 71)) → kI U σ τ := fun U hU a j hu _ => hI a j (hU a j hu).1 (hU a j hu).2.1 (fun q => (hU a j hu).2.2 ⟨q.1, by omega⟩) (fun q => (hU a j hu).2.2 ⟨by omega, by omega⟩)
  have e44 : gI τ 44 1 = gI σ 44 1 := hI 44 1 (by omega) (by unfold scr; omega) (by omega) (by omega)
  have en : nC τ = nC σ := by unfold nC; rw [e44]
  have r1 : ∀ j, gR τ 1 j = gR σ 1 j := fun j => hR 1 j (by omega) (by omega)
  have rc : RC τ := by
    refine ⟨by rw [hI 0 1 (by omega) (by unfold scr; omega) (by omega) (by omega), e44]; exact h4.1, by unfold MN; rw [e44]; exact h4.2.1, fun i hi => ?_, fun i j a hi hj => ?_⟩
    · rw [en] at hi
      obtain ⟨a, a1, a2⟩ := h4.2.2.1 i hi
      obtain ⟨t, t1, t2, h74, -⟩ := id a2
      have nz : (gT σ a).1 ≠ 0 := by rw [t1]; exact pT_nz t2
      exact ⟨a, by rw [r1]; exact a1, a2.at' (hT a nz) (hG a h74 nz (fun q => (hX a q).1 (by rw [t1]; exact t2))) (fun x p q => hI x i (by omega) (by unfold scr; omega) (by omega) (by omega))⟩
    · rw [en] at hi hj
      rw [r1, r1]
      exact h4.2.2.2 i j a hi hj
  refine ⟨hY, hF, ?_, rc, h5.ag (ki _ fun a j u => by unfold uRL at u; unfold scr; omega), h6.ag (ki _ fun a j u => by unfold uRP at u; unfold scr; omega), h7.ag (ki _ fun a j u => by unfold uRT at u; unfold scr; omega), ⟨fun l hl => ?_, ?_⟩, h9.ag (ki _ fun a j u => by unfold uCV at u; unfold scr; omega) hL, h10.ag (ki _ fun a j u => by unfold uPV at u; unfold scr; omega)⟩
  · unfold nOK at *
    rw [hI 9 7 (by omega) (by unfold scr; omega) (by omega) (by omega)]
    exact h3
  · by_cases e : l = k
    · rw [e]; exact new
    · refine (h8.1 l hl).ag hT (funext fun j => hR _ j (by omega) (by omega)) (fun b _ q i hi => by rw [r1]; rw [en] at hi; exact q i hi) (fun x p q => hI x l (by omega) (by unfold scr; omega) (by omega) (by omega)) (fun i hi => hI 71 _ (by omega) (by unfold scr; omega) (by omega) (by omega)) (fun a h74 nz q => hG a h74 nz (fun x => ?_))
      obtain ⟨j, j1, j2⟩ := q
      exact (hX a x).2 l j hl e j1 j2
  · intro l l' j i b hl hl' hj hi q1 q2
    by_cases e : l = k
    · by_cases e' : l' = k
      · rw [e, e']
      · rw [hR _ _ (by omega) (by omega)] at q2
        rw [e] at q1
        exact absurd q2 (hD j b hj.1 hj.2 q1 l' i hl' e' hi.1 hi.2)
    · rw [hR _ _ (by omega) (by omega)] at q1
      by_cases e' : l' = k
      · rw [e'] at q2
        exact absurd q1 (hD i b hi.1 hi.2 q2 l j hl e hj.1 hj.2)
      · rw [hR _ _ (by omega) (by omega)] at q2
        exact h8.2 l l' j i b hl hl' hj hi q1 q2
/-- what is on the shelves is old -/
theorem sh_old {σ : ha_St} (h : RS σ) {l j b : Nat} (hl : l < 8) (hj : j ≤ 2) (hb : gR σ (36 + l) j = some b) : (gT σ b).1 ≠ 0 ∧ 74 ≤ b := by
  obtain ⟨-, w⟩ := h.1 l hl
  have jj : j = 0 ∨ j = 1 ∨ j = 2 := by omega
  rcases w with ⟨-, r0, r1, r2⟩ | ⟨-, r1, r2, x, t', b1, b2, b3, b4, -⟩ | ⟨-, r0, r2, x, n, b1, b2, -, b4, -⟩ | ⟨-, r0, r1, x, n, b1, b2, -, b4, -⟩
  · rcases jj with rfl | rfl | rfl
    · rw [r0] at hb; cases hb
    · rw [r1] at hb; cases hb
    · rw [r2] at hb; cases hb
  · rcases jj with rfl | rfl | rfl
    · cases b1.symm.trans hb; rw [b2]; exact ⟨pT_nz b3, b4⟩
    · rw [r1] at hb; cases hb
    · rw [r2] at hb; cases hb
  · rcases jj with rfl | rfl | rfl
    · rw [r0] at hb; cases hb
    · cases b1.symm.trans hb; rw [b2]; exact ⟨Nat.succ_ne_zero _, b4⟩
    · rw [r2] at hb; cases hb
  · rcases jj with rfl | rfl | rfl
    · rw [r0] at hb; cases hb
    · rw [r1] at hb; cases hb
    · cases b1.symm.trans hb; rw [b2]; exact ⟨Nat.succ_ne_zero _, b4⟩
/-- a shelf bears a new cell -/
theorem Inv.lie {σ τ : ha_St} {k : Nat} (hk : k < 8) (h : Inv σ) (hT0 : ∀ z, z ≠ gn σ → gT τ z = gT σ z) (hn : gn τ = gn σ + 1) (hR : ∀ z j, z < 74 → z ≠ 36 + k → gR τ z j = gR σ z j) (hL : ∀ x, 13 ≤ x → x ≤ 16 → gL τ x = gL σ x)
    (hI : ∀ a j, a ≠ gn σ → ¬ scr a j → ¬ (65 ≤ a ∧ a ≤ 70 ∧ j = k) → ¬ (a = 71 ∧ 60 * k ≤ j ∧ j < 60 * k + 60) → gI τ a j = gI σ a j) (new : shR τ k) (hD : ∀ j b, 1 ≤ j → j ≤ 2 → gR τ (36 + k) j = some b → b = gn σ) : Inv τ := by
  have fr : ∀ z, (gT σ z).1 ≠ 0 → z ≠ gn σ := fun z hz => Nat.ne_of_lt (h.2.1 z hz)
  have g74 := h.1.2.2
  refine Inv.sh (fun _ => False) hk h (fun z hz => ?_) (by omega) (fun z hz => hT0 z (fr z hz)) hR hL (fun a j ha => hI a j (by omega)) (fun a h74 nz _ => funext fun j => hI a j (fr a nz) (by unfold scr; omega) (by omega) (by omega)) (fun a q => q.elim) new (fun j b j1 j2 q l i hl ne i1 i2 w => ?_)
  · rw [hn]
    by_cases e : z = gn σ
    · omega
    · rw [hT0 z e] at hz
      have := h.2.1 z hz
      omega
  · have := hD j b j1 j2 q
    rw [this] at w
    exact absurd rfl (fr _ (sh_old h.2.2.2.2.2.2.2.1 hl i2 w).1)
theorem kp0_v {σ : ha_St} {d w : Int32} {x j : Nat} : gI (kp0 σ d w) x j = if x = 71 ∧ 60 * d.toNatClampNeg ≤ j ∧ j < 60 * d.toNatClampNeg + 60 then 0 else if x = 65 ∧ j = d.toNatClampNeg then w else gI σ x j := by
  unfold kp0 wpF
  rw [gI_rgA]
  rfl
theorem lie_R {σ : ha_St} {a j b : Nat} (z i : Nat) : gR (lieF σ a j b) z i = if z = a ∧ i = j then some b else if z = a ∧ i = 2 then none else if z = a ∧ i = 1 then none else if z = a ∧ i = 0 then none else gR σ z i := rfl
theorem tag_kind {t : Nat} (h : pT t) : mkTag (kindOf t) = t ∧ ((kindOf t = 1 ∨ kindOf t = 3) ↔ (t = 6 ∨ t = 1)) := by
  rcases h with rfl | rfl | rfl | rfl <;> decide
theorem e_make {σ σ1 σ2 : ha_St} {d w n r r' : Int32} (h : Inv σ) (c : makeQ σ d w n r σ1) (m : mMakeQ σ1 d w n r' σ2) : r' = r ∧ Inv σ2 := by
  unfold makeQ at c
  by_cases hd : shOK d
  · rw [sAt_y hd] at c
    simp only [] at c
    have hk := shOK_k hd
    by_cases hw : (w = 3 ∨ w = 4) ∧ n ≤ 60
    · rw [if_pos hw] at c
      have ok : mkOK d w n := ⟨hd, by rcases hw.1 with rfl | rfl <;> decide, hw.2⟩
      by_cases hn : n < 0
      · rw [if_pos hn] at c
        rcases m with ⟨m1, -⟩ | ⟨-, -, m2, m3⟩ | ⟨-, m1, -⟩
        · exact absurd ok m1
        · exact ⟨m2.trans c.1.symm, by rw [m3, c.2]; exact h⟩
        · exact absurd hn (Int32.not_lt.mpr m1)
      · rw [if_neg hn] at c
        rcases m with ⟨m1, -⟩ | ⟨-, m1, -⟩ | ⟨-, m1, m2, m3⟩
        · exact absurd ok m1
        · exact absurd m1 hn
        · refine ⟨m2.trans c.1.symm, ?_⟩
          have g74 := h.1.2.2
          have n60 := tn_le m1 hw.2
          rw [show (60 : Int32).toNatClampNeg = 60 by decide] at n60
          have both : ∀ (t j : Nat), (t = 20 ∧ j = 1 ∧ w = 3) ∨ (t = 22 ∧ j = 2 ∧ w = 4) → σ1 = lieF (sN σ t n.toNatClampNeg) (36 + d.toNatClampNeg) j (gn σ) → Inv σ2 := by
            intro t j htj e1
            have v2 : ∀ a i, gI σ2 a i = if a = 71 ∧ 60 * d.toNatClampNeg ≤ i ∧ i < 60 * d.toNatClampNeg + 60 then 0 else if a = 70 ∧ i = d.toNatClampNeg then n else if a = 65 ∧ i = d.toNatClampNeg then w else if a = gn σ then 0 else gI σ a i := by
              intro a i
              rw [m3, e1]
              unfold wpF
              rw [gI_rgA]
              rfl
            have hR2 : gR σ2 = gR (lieF (sN σ t n.toNatClampNeg) (36 + d.toNatClampNeg) j (gn σ)) := by rw [m3, e1]; rfl
            have hT2 : ∀ z, gT σ2 z = if z = gn σ then (t, n.toNatClampNeg) else gT σ z := fun z => by rw [m3, e1]; rfl
            refine Inv.lie hk h (fun z hz => by rw [hT2, if_neg hz]) (by rw [m3, e1]; rfl) (fun z i hz ne => ?_) (fun x p q => ?_) (fun a i p1 p2 p3 p4 => ?_) ?_ (fun i b i1 i2 q => ?_)
            · rw [hR2, lie_R, if_neg (by omega), if_neg (by omega), if_neg (by omega), if_neg (by omega), gR_sN, if_neg (by omega)]
            · rw [m3, e1]
              funext i
              show gL (sN σ t n.toNatClampNeg) x i = _
              show (if x = gn σ then 0 else gL σ x i) = _
              rw [if_neg (by omega)]
            · rw [v2, if_neg p4, if_neg (by omega), if_neg (by omega), if_neg p1]
            · have z : ∀ i, i < n.toNatClampNeg → gI σ2 (gn σ) i = gI σ2 71 (60 * d.toNatClampNeg + i) := by
                intro i hi
                rw [v2, v2, if_neg (by omega), if_neg (by omega), if_neg (by omega), if_pos rfl, if_pos (by omega)]
              have e70 : gI σ2 70 d.toNatClampNeg = n := by rw [v2, if_neg (by omega), if_pos ⟨rfl, rfl⟩]
              have e65 : gI σ2 65 d.toNatClampNeg = w := by rw [v2, if_neg (by omega), if_neg (by omega), if_pos ⟨rfl, rfl⟩]
              refine ⟨by rw [e70]; exact ⟨m1, hw.2⟩, ?_⟩
              rcases htj with ⟨rfl, rfl, rfl⟩ | ⟨rfl, rfl, rfl⟩
              · refine Or.inr (Or.inr (Or.inl ⟨e65, ?_, ?_, gn σ, n.toNatClampNeg, ?_, by rw [hT2, if_pos rfl], n60, g74, by rw [e70, nI_tn m1], z⟩))
                · rw [hR2, lie_R, if_neg (by omega), if_neg (by omega), if_neg (by omega), if_pos ⟨rfl, rfl⟩]
                · rw [hR2, lie_R, if_neg (by omega), if_pos ⟨rfl, rfl⟩]
                · rw [hR2, lie_R, if_pos ⟨rfl, rfl⟩]
              · refine Or.inr (Or.inr (Or.inr ⟨e65, ?_, ?_, gn σ, n.toNatClampNeg, ?_, by rw [hT2, if_pos rfl], n60, g74, by rw [e70, nI_tn m1], z, fun i => ?_⟩))
                · rw [hR2, lie_R, if_neg (by omega), if_neg (by omega), if_neg (by omega), if_pos ⟨rfl, rfl⟩]
                · rw [hR2, lie_R, if_neg (by omega), if_neg (by omega), if_pos ⟨rfl, rfl⟩]
                · rw [hR2, lie_R, if_pos ⟨rfl, rfl⟩]
                · rw [v2, if_neg (by omega), if_neg (by omega), if_neg (by omega), if_pos rfl]
                  decide
            · rw [hR2, lie_R] at q
              by_cases e : i = j
              · rw [if_pos ⟨rfl, e⟩] at q; cases q; rfl
              · rw [if_neg (by omega)] at q
                by_cases e2 : i = 2
                · rw [if_pos ⟨rfl, e2⟩] at q; cases q
                · rw [if_neg (by omega), if_pos (by omega)] at q; cases q
          rcases hw.1 with e | e
          · rw [if_pos e] at c
            exact both 20 1 (Or.inl ⟨rfl, rfl, e⟩) c.2
          · rw [if_neg (by rw [e]; decide)] at c
            exact both 22 2 (Or.inr ⟨rfl, rfl, e⟩) c.2
    · rw [if_neg hw] at c
      have no : ¬ mkOK d w n := fun q => hw ⟨by have := q.2.1; grind, q.2.2⟩
      rcases m with ⟨-, m2, m3⟩ | ⟨m1, -⟩ | ⟨m1, -⟩
      · exact ⟨m2.trans c.1.symm, by rw [m3, c.2]; exact h⟩
      · exact absurd m1 no
      · exact absurd m1 no
  · rw [sAt_n hd] at c
    rcases m with ⟨-, m2, m3⟩ | ⟨m1, -⟩ | ⟨m1, -⟩
    · exact ⟨m2.trans c.1.symm, by rw [m3, c.2]; exact h⟩
    · exact absurd m1.1 hd
    · exact absurd m1.1 hd
