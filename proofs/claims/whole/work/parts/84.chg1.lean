/-! ===== calls that change: cuts, plan, path ===== -/
theorem Inv.up {σ τ : ha_St} (D : Nat → Nat → Prop) (h : Inv σ) (hT : gT τ = gT σ) (hR : gR τ = gR σ) (hn : gn τ = gn σ) (hL : ∀ a, 9 ≤ a → a ≤ 16 → gL τ a = gL σ a) (hI : ∀ a j, ¬ D a j → gI τ a j = gI σ a j) (d9 : ¬ D 9 7)
    (c1 : (∀ a j, uRC a j → ¬ D a j) ∨ RC τ) (c2 : (∀ a j, uRL a j → ¬ D a j) ∨ RLd τ) (c3 : (∀ a j, uRP a j → ¬ D a j) ∨ RP τ) (c4 : (∀ a j, uRT a j → ¬ D a j) ∨ RT τ) (c5 : (∀ a j, uRS a j → ¬ D a j) ∨ RS τ) (c6 : (∀ a j, uCV a j → ¬ D a j) ∨ CV τ) (c7 : (∀ a j, uPV a j → ¬ D a j) ∨ PV τ) : Inv τ := by
  obtain ⟨h1, h2, h3, h4, h5, h6, h7, h8, h9, h10⟩ := h
  have kt : kT σ τ := fun a _ => by rw [hT]
  have ki : ∀ U : Nat → Nat → Prop, (∀ a j, U a j → ¬ D a j) → kI U σ τ := fun U hU a j hu _ => hI a j (hU a j hu)
  refine ⟨h1.same hT hR hn, fun a ha => ?_, ?_, ?_, ?_, ?_, ?_, ?_, ?_, ?_⟩
  · rw [hT] at ha
    rw [hn]
    exact h2 a ha
  · unfold nOK at *
    rw [hI 9 7 d9]
    exact h3
  · rcases c1 with c | c
    · exact h4.ag kt (by rw [hR]) (ki _ c)
    · exact c
  · rcases c2 with c | c
    · exact h5.ag (ki _ c)
    · exact c
  · rcases c3 with c | c
    · exact h6.ag (ki _ c)
    · exact c
  · rcases c4 with c | c
    · exact h7.ag (ki _ c)
    · exact c
  · rcases c5 with c | c
    · exact h8.ag kt (fun k _ => by rw [hR]) (by rw [hR]) (ki _ c)
    · exact c
  · rcases c6 with c | c
    · exact h9.ag (ki _ c) (fun x p q => hL x (by omega) (by omega))
    · exact c
  · rcases c7 with c | c
    · exact h10.ag (ki _ c)
    · exact c
theorem sI_o {σ : ha_St} {a j x y : Nat} {v : Int32} (h : ¬ (x = a ∧ y = j)) : gI (sI σ a j v) x y = gI σ x y := by rw [gI_sI, if_neg h]
theorem sI_y {σ : ha_St} {a j : Nat} {v : Int32} : gI (sI σ a j v) a j = v := by rw [gI_sI, if_pos ⟨rfl, rfl⟩]
theorem t57n {i : Int32} (h0 : 0 ≤ i) (h1 : i < 16) : (3 * i).toNatClampNeg = 3 * i.toNatClampNeg ∧ (3 * i + 1).toNatClampNeg = 3 * i.toNatClampNeg + 1 ∧ (3 * i + 2).toNatClampNeg = 3 * i.toNatClampNeg + 2 := by
  have l := tn_lt h0 h1
  rw [show (16 : Int32).toNatClampNeg = 16 by decide] at l
  have k := t30n _ (show i.toNatClampNeg < 30 by omega)
  rw [nI_tn h0] at k
  exact k
def dLd (a j : Nat) : Prop := (a = 17 ∧ j = 3) ∨ (18 ≤ a ∧ a ≤ 20) ∨ (a = 44 ∧ j = 17) ∨ a = 57
theorem e_load {σ σ1 σ2 : ha_St} {p q m r r' : Int32} (h : Inv σ) (c : loadQ σ p q m r σ1) (k : mLoadQ σ1 p q m r' σ2) : r' = r ∧ Inv σ2 := by
  have hl := h.2.2.2.2.1
  rcases c with ⟨c1, c2, c3⟩ | ⟨c1, c2, c3, c4⟩ | ⟨c1, c2, c3, c4⟩
  · rcases k with ⟨-, k2, k3⟩ | ⟨k1, -⟩ | ⟨k1, -⟩
    · exact ⟨k2.trans c2.symm, by rw [k3, c3]; exact h⟩
    · exact absurd k1 c1
    · exact absurd k1 c1
  · rw [c4] at k
    rw [hl.1] at c2
    rcases k with ⟨k1, -⟩ | ⟨-, -, k2, k3⟩ | ⟨-, k1, -⟩
    · exact absurd c1 k1
    · exact ⟨k2.trans c3.symm, by rw [k3]; exact h⟩
    · exact absurd (by have := hl.2.1.2; grind) k1
  · have e17 : gI σ1 44 17 = gI σ 44 17 := by rw [c4]; unfold cutAdd; rw [sI_o (by omega), sI_o (by omega), sI_o (by omega), sI_o (by omega)]
    unfold mLoadQ at k
    rw [e17] at k
    rw [hl.1] at c2 c3
    rcases k with ⟨k1, -⟩ | ⟨-, k1, -⟩ | ⟨-, -, k2, k3⟩
    · exact absurd c1 k1
    · rw [k1] at c2; exact absurd c2 (by decide)
    · refine ⟨k2.trans c3.symm, ?_⟩
      have t3 := t57n hl.2.1.1 c2
      have ts := tn_succ hl.2.1.1 c2
      have ee : σ2 = sI (sI (sI (sI (sI (sI (sI (sI σ 18 (gI σ 44 17).toNatClampNeg p) 19 (gI σ 44 17).toNatClampNeg q) 20 (gI σ 44 17).toNatClampNeg m) 17 3 (gI σ 44 17 + 1)) 57 (3 * (gI σ 44 17).toNatClampNeg) p) 57 (3 * (gI σ 44 17).toNatClampNeg + 1) q) 57 (3 * (gI σ 44 17).toNatClampNeg + 2) m) 44 17 (gI σ 44 17 + 1) := by
        rw [k3]
        unfold mLd
        rw [e17, t3.1, t3.2.1, t3.2.2, c4]
        unfold cutAdd
        rw [hl.1]
      refine Inv.up dLd h (by rw [ee]; rfl) (by rw [ee]; rfl) (by rw [ee]; rfl) (fun a _ _ => by rw [ee]; rfl) (fun a j nd => ?_) (by unfold dLd; omega) (Or.inl fun a j u => by unfold uRC at u; unfold dLd; omega) (Or.inr ?_) (Or.inl fun a j u => by unfold uRP at u; unfold dLd; omega) (Or.inl fun a j u => by unfold uRT at u; unfold dLd; omega) (Or.inl fun a j u => by unfold uRS at u; unfold dLd; omega) (Or.inl fun a j u => by unfold uCV at u; unfold dLd; omega) (Or.inl fun a j u => by unfold uPV at u; unfold dLd; omega)
      · unfold dLd at nd
        rw [ee, sI_o (by omega), sI_o (by omega), sI_o (by omega), sI_o (by omega), sI_o (by omega), sI_o (by omega), sI_o (by omega), sI_o (by omega)]
      · have g17 : gI σ2 17 3 = gI σ 44 17 + 1 := by rw [ee, sI_o (by omega), sI_o (by omega), sI_o (by omega), sI_o (by omega), sI_y]
        have g44 : gI σ2 44 17 = gI σ 44 17 + 1 := by rw [ee, sI_y]
        unfold RLd
        rw [g17, g44, ts]
        refine ⟨rfl, ?_, fun l hlt => ?_⟩
        · have a := hl.2.1.1
          grind
        · have o : ∀ x, x = 18 ∨ x = 19 ∨ x = 20 → ∀ y, gI σ2 x y = if y = (gI σ 44 17).toNatClampNeg then (if x = 18 then p else if x = 19 then q else m) else gI σ x y := by
            intro x hx y
            rw [ee, sI_o (by omega), sI_o (by omega), sI_o (by omega), sI_o (by omega), sI_o (by omega)]
            by_cases e : y = (gI σ 44 17).toNatClampNeg
            · rw [if_pos e]
              rcases hx with rfl | rfl | rfl
              · rw [sI_o (by omega), sI_o (by omega), e, sI_y]; rfl
              · rw [sI_o (by omega), e, sI_y]; rfl
              · rw [e, sI_y]; rfl
            · rw [if_neg e, sI_o (by omega), sI_o (by omega), sI_o (by omega)]
          have o57 : ∀ y, gI σ2 57 y = if y = 3 * (gI σ 44 17).toNatClampNeg then p else if y = 3 * (gI σ 44 17).toNatClampNeg + 1 then q else if y = 3 * (gI σ 44 17).toNatClampNeg + 2 then m else gI σ 57 y := by
            intro y
            by_cases e0 : y = 3 * (gI σ 44 17).toNatClampNeg
            · rw [if_pos e0, ee, sI_o (by omega), sI_o (by omega), sI_o (by omega), e0, sI_y]
            · rw [if_neg e0]
              by_cases e1 : y = 3 * (gI σ 44 17).toNatClampNeg + 1
              · rw [if_pos e1, ee, sI_o (by omega), sI_o (by omega), e1, sI_y]
              · rw [if_neg e1]
                by_cases e2 : y = 3 * (gI σ 44 17).toNatClampNeg + 2
                · rw [if_pos e2, ee, sI_o (by omega), e2, sI_y]
                · rw [if_neg e2, ee, sI_o (by omega), sI_o (by omega), sI_o (by omega), sI_o (by omega), sI_o (by omega), sI_o (by omega), sI_o (by omega), sI_o (by omega)]
          rw [o 18 (by omega), o 19 (by omega), o 20 (by omega), o57, o57, o57]
          by_cases e : l = (gI σ 44 17).toNatClampNeg
          · have q0 : (if 3 * l = 3 * (gI σ 44 17).toNatClampNeg then p else if 3 * l = 3 * (gI σ 44 17).toNatClampNeg + 1 then q else if 3 * l = 3 * (gI σ 44 17).toNatClampNeg + 2 then m else gI σ 57 (3 * l)) = p := if_pos (by omega)
            have q1 : (if 3 * l + 1 = 3 * (gI σ 44 17).toNatClampNeg then p else if 3 * l + 1 = 3 * (gI σ 44 17).toNatClampNeg + 1 then q else if 3 * l + 1 = 3 * (gI σ 44 17).toNatClampNeg + 2 then m else gI σ 57 (3 * l + 1)) = q := (if_neg (by omega)).trans (if_pos (by omega))
            have q2 : (if 3 * l + 2 = 3 * (gI σ 44 17).toNatClampNeg then p else if 3 * l + 2 = 3 * (gI σ 44 17).toNatClampNeg + 1 then q else if 3 * l + 2 = 3 * (gI σ 44 17).toNatClampNeg + 2 then m else gI σ 57 (3 * l + 2)) = m := (if_neg (by omega)).trans ((if_neg (by omega)).trans (if_pos (by omega)))
            rw [q0, q1, q2, if_pos e, if_pos e, if_pos e]
            exact ⟨rfl, rfl, rfl, c1⟩
          · rw [if_neg e, if_neg e, if_neg e, if_neg (by omega), if_neg (by omega), if_neg (by omega), if_neg (by omega), if_neg (by omega), if_neg (by omega), if_neg (by omega), if_neg (by omega), if_neg (by omega)]
            exact hl.2.2 l (by omega)
theorem e_unload {σ : ha_St} (h : Inv σ) : gI (sI σ 17 3 0) 44 17 = gI σ 17 3 ∧ Inv (sI (sI σ 17 3 0) 44 17 0) := by
  have hl := h.2.2.2.2.1
  refine ⟨by rw [sI_o (by omega)]; exact hl.1.symm, ?_⟩
  refine Inv.up dLd h rfl rfl rfl (fun _ _ _ => rfl) (fun a j nd => ?_) (by unfold dLd; omega) (Or.inl fun a j u => by unfold uRC at u; unfold dLd; omega) (Or.inr ?_) (Or.inl fun a j u => by unfold uRP at u; unfold dLd; omega) (Or.inl fun a j u => by unfold uRT at u; unfold dLd; omega) (Or.inl fun a j u => by unfold uRS at u; unfold dLd; omega) (Or.inl fun a j u => by unfold uCV at u; unfold dLd; omega) (Or.inl fun a j u => by unfold uPV at u; unfold dLd; omega)
  · unfold dLd at nd
    rw [sI_o (by omega), sI_o (by omega)]
  · unfold RLd
    rw [sI_o (by omega), sI_y, sI_y]
    exact ⟨rfl, ⟨by decide, by decide⟩, fun l hlt => absurd hlt (by rw [tn_0]; omega)⟩
def dPt (a j : Nat) : Prop := a = 32 ∨ a = 33 ∨ a = 34 ∨ (a = 44 ∧ (j = 27 ∨ j = 28)) ∨ a = 63 ∨ a = 64
theorem e_point {σ σ1 σ2 : ha_St} {x y r r' : Int32} (h : Inv σ) (c : pointQ σ x y r σ1) (k : mPointQ σ1 x y r' σ2) : r' = r ∧ Inv σ2 := by
  have hl := h.2.2.2.2.2.2.1
  rcases c with ⟨c1, c2, c3⟩ | ⟨c1, c2, c3, c4⟩ | ⟨c1, c2, c3, c4⟩
  · rcases k with ⟨-, k2, k3⟩ | ⟨k1, -⟩ | ⟨k1, -⟩
    · exact ⟨k2.trans c2.symm, by rw [k3, c3]; exact h⟩
    · exact absurd k1 c1
    · exact absurd k1 c1
  · rw [c4] at k
    rw [hl.1] at c2
    rcases k with ⟨k1, -⟩ | ⟨-, -, k2, k3⟩ | ⟨-, k1, -⟩
    · exact absurd c1 k1
    · exact ⟨k2.trans c3.symm, by rw [k3]; exact h⟩
    · exact absurd (by have := hl.2.1.2; grind) k1
  · have e17 : gI σ1 44 27 = gI σ 44 27 := by rw [c4]; unfold pathAdd; rw [sI_o (by omega), sI_o (by omega), sI_o (by omega)]
    unfold mPointQ at k
    rw [e17] at k
    rw [hl.1] at c2 c3
    rcases k with ⟨k1, -⟩ | ⟨-, k1, -⟩ | ⟨-, -, k2, k3⟩
    · exact absurd c1 k1
    · rw [k1] at c2; exact absurd c2 (by decide)
    · refine ⟨k2.trans c3.symm, ?_⟩
      have ts := tn_succ hl.2.1.1 c2
      have ee : σ2 = sI (sI (sI (sI (sI (sI σ 33 (gI σ 44 27).toNatClampNeg x) 34 (gI σ 44 27).toNatClampNeg y) 32 2 (gI σ 44 27 + 1)) 63 (gI σ 44 27).toNatClampNeg x) 64 (gI σ 44 27).toNatClampNeg y) 44 27 (gI σ 44 27 + 1) := by
        rw [k3]
        unfold mPt
        rw [e17, c4]
        unfold pathAdd
        rw [hl.1]
      refine Inv.up dPt h (by rw [ee]; rfl) (by rw [ee]; rfl) (by rw [ee]; rfl) (fun a _ _ => by rw [ee]; rfl) (fun a j nd => ?_) (by unfold dPt; omega) (Or.inl fun a j u => by unfold uRC at u; unfold dPt; omega) (Or.inl fun a j u => by unfold uRL at u; unfold dPt; omega) (Or.inl fun a j u => by unfold uRP at u; unfold dPt; omega) (Or.inr ?_) (Or.inl fun a j u => by unfold uRS at u; unfold dPt; omega) (Or.inl fun a j u => by unfold uCV at u; unfold dPt; omega) (Or.inl fun a j u => by unfold uPV at u; unfold dPt; omega)
      · unfold dPt at nd
        rw [ee, sI_o (by omega), sI_o (by omega), sI_o (by omega), sI_o (by omega), sI_o (by omega), sI_o (by omega)]
      · have g1 : gI σ2 32 2 = gI σ 44 27 + 1 := by rw [ee, sI_o (by omega), sI_o (by omega), sI_o (by omega), sI_y]
        have g2 : gI σ2 44 27 = gI σ 44 27 + 1 := by rw [ee, sI_y]
        have g3 : gI σ2 32 3 = gI σ 32 3 := by rw [ee, sI_o (by omega), sI_o (by omega), sI_o (by omega), sI_o (by omega), sI_o (by omega), sI_o (by omega)]
        have g4 : gI σ2 44 28 = gI σ 44 28 := by rw [ee, sI_o (by omega), sI_o (by omega), sI_o (by omega), sI_o (by omega), sI_o (by omega), sI_o (by omega)]
        unfold RT
        rw [g1, g2, g3, g4, ts]
        refine ⟨rfl, ?_, hl.2.2.1, fun l hlt => ?_⟩
        · have a := hl.2.1.1
          grind
        · by_cases e : l = (gI σ 44 27).toNatClampNeg
          · rw [ee, e]
            refine ⟨?_, ?_⟩
            · rw [sI_o (by omega), sI_o (by omega), sI_o (by omega), sI_o (by omega), sI_o (by omega), sI_y, sI_o (by omega), sI_o (by omega), sI_y]
            · rw [sI_o (by omega), sI_o (by omega), sI_o (by omega), sI_o (by omega), sI_y, sI_o (by omega), sI_y]
          · rw [ee]
            refine ⟨?_, ?_⟩
            · rw [sI_o (by omega), sI_o (by omega), sI_o (by omega), sI_o (by omega), sI_o (by omega), sI_o (by omega), sI_o (by omega), sI_o (by omega), sI_o (by omega), sI_o (by omega), sI_o (by omega), sI_o (by omega)]
              exact (hl.2.2.2 l (by omega)).1
            · rw [sI_o (by omega), sI_o (by omega), sI_o (by omega), sI_o (by omega), sI_o (by omega), sI_o (by omega), sI_o (by omega), sI_o (by omega), sI_o (by omega), sI_o (by omega), sI_o (by omega), sI_o (by omega)]
              exact (hl.2.2.2 l (by omega)).2
def toolQ (σ : ha_St) (x r : Int32) (σ' : ha_St) : Prop := (¬ (0 ≤ x ∧ x ≤ 20) ∧ r = -1 ∧ σ' = σ) ∨ ((0 ≤ x ∧ x ≤ 20) ∧ r = gI σ 32 2 ∧ σ' = sI (sI σ 32 2 0) 32 3 x)
theorem e_tool {σ σ1 σ2 : ha_St} {x r r' : Int32} (h : Inv σ) (c : toolQ σ x r σ1) (k : mToolQ σ1 x r' σ2) : r' = r ∧ Inv σ2 := by
  have hl := h.2.2.2.2.2.2.1
  rcases c with ⟨c1, c2, c3⟩ | ⟨c1, c2, c3⟩
  · rcases k with ⟨-, k2, k3⟩ | ⟨k1, -⟩
    · exact ⟨k2.trans c2.symm, by rw [k3, c3]; exact h⟩
    · exact absurd k1 c1
  · rcases k with ⟨k1, -⟩ | ⟨-, k2, k3⟩
    · exact absurd c1 k1
    · rw [c3] at k2 k3
      refine ⟨by rw [k2, c2, sI_o (by omega), sI_o (by omega)]; exact hl.1.symm, ?_⟩
      refine Inv.up dPt h (by rw [k3]; rfl) (by rw [k3]; rfl) (by rw [k3]; rfl) (fun a _ _ => by rw [k3]; rfl) (fun a j nd => ?_) (by unfold dPt; omega) (Or.inl fun a j u => by unfold uRC at u; unfold dPt; omega) (Or.inl fun a j u => by unfold uRL at u; unfold dPt; omega) (Or.inl fun a j u => by unfold uRP at u; unfold dPt; omega) (Or.inr ?_) (Or.inl fun a j u => by unfold uRS at u; unfold dPt; omega) (Or.inl fun a j u => by unfold uCV at u; unfold dPt; omega) (Or.inl fun a j u => by unfold uPV at u; unfold dPt; omega)
      · unfold dPt at nd
        rw [k3, sI_o (by omega), sI_o (by omega), sI_o (by omega), sI_o (by omega)]
      · have g1 : gI σ2 32 2 = 0 := by rw [k3, sI_o (by omega), sI_o (by omega), sI_o (by omega), sI_y]
        have g2 : gI σ2 44 27 = 0 := by rw [k3, sI_o (by omega), sI_y]
        have g3 : gI σ2 32 3 = x := by rw [k3, sI_o (by omega), sI_o (by omega), sI_y]
        have g4 : gI σ2 44 28 = x := by rw [k3, sI_y]
        unfold RT
        rw [g1, g2, g3, g4]
        exact ⟨rfl, ⟨by decide, by decide⟩, rfl, fun l hlt => absurd hlt (by rw [tn_0]; omega)⟩
def dSt (a j : Nat) : Prop := (a = 26 ∧ (j = 2 ∨ j = 7)) ∨ a = 27 ∨ a = 28 ∨ (a = 44 ∧ j = 23) ∨ a = 60 ∨ a = 61
theorem okS_eq {σ τ : ha_St} (h : RP σ) (e : gI τ 44 23 = gI σ 44 23) {x y : Int32} : okS σ x y ↔ mOkS τ x y := by
  have a0 := h.2.1.1.1
  have a1 := tn_le h.2.1.1.1 h.2.1.1.2
  rw [show (12 : Int32).toNatClampNeg = 12 by decide] at a1
  unfold okS mOkS mAll
  rw [e, h.1]
  have k : ∀ n : Nat, n ≤ 12 → (0 : Int32) < 1 <<< (Int32.ofNat n &&& 31) := by decide
  have k1 := k _ a1
  rw [nI_tn a0] at k1
  generalize 1 <<< (gI σ 44 23 &&& 31) = b at *
  constructor
  · rintro ⟨h1, h2, h3, h4⟩
    exact ⟨⟨h1, by grind⟩, h3, by grind⟩
  · rintro ⟨⟨h1, h2⟩, h3, h4⟩
    exact ⟨h1, by grind, h3, by grind⟩
theorem stOK_s {σ : ha_St} (h : RP σ) {x y : Int32} (ok : okS σ x y) {S A : Nat → Int32} (hS : ∀ s, s < (gI σ 44 23).toNatClampNeg → S s = gI σ 60 s ∧ A s = gI σ 61 s) (hx : S (gI σ 44 23).toNatClampNeg = x) (hy : A (gI σ 44 23).toNatClampNeg = y) (hl : gI σ 44 23 < 12) : stOK S A ((gI σ 44 23).toNatClampNeg + 1) := by
  have a0 := h.2.1.1.1
  have a1 := tn_lt h.2.1.1.1 hl
  rw [show (12 : Int32).toNatClampNeg = 12 by decide] at a1
  refine ⟨by omega, fun s hs => ?_⟩
  by_cases e : s = (gI σ 44 23).toNatClampNeg
  · rw [e, hx, hy]
    obtain ⟨o1, o2, o3, o4⟩ := ok
    refine ⟨⟨o1, by grind⟩, o3, ?_⟩
    have k : ∀ n : Nat, n ≤ 12 → (1 <<< (Int32.ofNat n &&& 31) : Int32).toNatClampNeg = 2 ^ n := by decide
    rw [h.1] at o4
    have l := tn_lt o3 o4
    have k1 := k _ (Nat.le_of_lt a1)
    rw [nI_tn a0] at k1
    rw [k1] at l
    exact l
  · have e1 := hS s (by omega)
    rw [e1.1, e1.2]
    exact h.2.1.2.2 s (by omega)
theorem e_step {σ σ1 σ2 : ha_St} {x y r r' : Int32} (h : Inv σ) (c : stepQ σ x y r σ1) (k : mStepQ σ1 x y r' σ2) : r' = r ∧ Inv σ2 := by
  have hl := h.2.2.2.2.2.1
  rcases c with ⟨c1, c2, c3⟩ | ⟨c1, c2, c3, c4⟩ | ⟨c1, c2, c3, c4⟩
  · rw [c3] at k
    rw [okS_eq (τ := σ) hl rfl] at c1
    rcases k with ⟨-, k2, k3⟩ | ⟨k1, -⟩ | ⟨k1, -⟩
    · exact ⟨k2.trans c2.symm, by rw [k3]; exact h⟩
    · exact absurd k1 c1
    · exact absurd k1 c1
  · rw [c4] at k
    rw [okS_eq (τ := σ) hl rfl] at c1
    rw [hl.1] at c2
    rcases k with ⟨k1, -⟩ | ⟨-, -, k2, k3⟩ | ⟨-, k1, -⟩
    · exact absurd c1 k1
    · exact ⟨k2.trans c3.symm, by rw [k3]; exact h⟩
    · exact absurd (by have := hl.2.1.1.2; grind) k1
  · have e17 : gI σ1 44 23 = gI σ 44 23 := by rw [c4]; unfold planAdd; rw [sI_o (by omega), sI_o (by omega), sI_o (by omega), sI_o (by omega)]
    have ok := c1
    rw [okS_eq hl e17] at c1
    unfold mStepQ at k
    rw [e17] at k
    rw [hl.1] at c2 c3
    rcases k with ⟨k1, -⟩ | ⟨-, k1, -⟩ | ⟨-, -, k2, k3⟩
    · exact absurd c1 k1
    · rw [k1] at c2; exact absurd c2 (by decide)
    · refine ⟨k2.trans c3.symm, ?_⟩
      have ts := tn_succ hl.2.1.1.1 c2
      have ee : σ2 = sI (sI (sI (sI (sI (sI (sI σ 27 (gI σ 44 23).toNatClampNeg x) 28 (gI σ 44 23).toNatClampNeg y) 26 2 (gI σ 44 23 + 1)) 26 7 0) 60 (gI σ 44 23).toNatClampNeg x) 61 (gI σ 44 23).toNatClampNeg y) 44 23 (gI σ 44 23 + 1) := by
        rw [k3]
        unfold mStep
        rw [e17, c4]
        unfold planAdd
        rw [hl.1]
      refine Inv.up dSt h (by rw [ee]; rfl) (by rw [ee]; rfl) (by rw [ee]; rfl) (fun a _ _ => by rw [ee]; rfl) (fun a j nd => ?_) (by unfold dSt; omega) (Or.inl fun a j u => by unfold uRC at u; unfold dSt; omega) (Or.inl fun a j u => by unfold uRL at u; unfold dSt; omega) (Or.inr ?_) (Or.inl fun a j u => by unfold uRT at u; unfold dSt; omega) (Or.inl fun a j u => by unfold uRS at u; unfold dSt; omega) (Or.inl fun a j u => by unfold uCV at u; unfold dSt; omega) (Or.inr ?_)
      · unfold dSt at nd
        rw [ee, sI_o (by omega), sI_o (by omega), sI_o (by omega), sI_o (by omega), sI_o (by omega), sI_o (by omega), sI_o (by omega)]
      · have g1 : gI σ2 26 2 = gI σ 44 23 + 1 := by rw [ee, sI_o (by omega), sI_o (by omega), sI_o (by omega), sI_o (by omega), sI_y]
        have g2 : gI σ2 44 23 = gI σ 44 23 + 1 := by rw [ee, sI_y]
        have g60 : gI σ2 60 (gI σ 44 23).toNatClampNeg = x := by rw [ee, sI_o (by omega), sI_o (by omega), sI_y]
        have g61 : gI σ2 61 (gI σ 44 23).toNatClampNeg = y := by rw [ee, sI_o (by omega), sI_y]
        have g27 : gI σ2 27 (gI σ 44 23).toNatClampNeg = x := by rw [ee, sI_o (by omega), sI_o (by omega), sI_o (by omega), sI_o (by omega), sI_o (by omega), sI_o (by omega), sI_y]
        have g28 : gI σ2 28 (gI σ 44 23).toNatClampNeg = y := by rw [ee, sI_o (by omega), sI_o (by omega), sI_o (by omega), sI_o (by omega), sI_o (by omega), sI_y]
        have go : ∀ a s, a = 27 ∨ a = 28 ∨ a = 60 ∨ a = 61 → s < (gI σ 44 23).toNatClampNeg → gI σ2 a s = gI σ a s := fun a s ha hs => by
          rw [ee, sI_o (by omega), sI_o (by omega), sI_o (by omega), sI_o (by omega), sI_o (by omega), sI_o (by omega), sI_o (by omega)]
        unfold RP mSt
        rw [g1, g2, ts]
        refine ⟨rfl, ⟨?_, stOK_s hl ok (fun s hs => ⟨go 60 s (by omega) hs, go 61 s (by omega) hs⟩) g60 g61 c2⟩, fun s hs => ?_⟩
        · have a := hl.2.1.1.1
          grind
        · by_cases e : s = (gI σ 44 23).toNatClampNeg
          · rw [e, g27, g28, g60, g61]; exact ⟨rfl, rfl⟩
          · rw [go 27 s (by omega) (by omega), go 28 s (by omega) (by omega), go 60 s (by omega) (by omega), go 61 s (by omega) (by omega)]
            exact hl.2.2 s (by omega)
      · intro q
        exact absurd (by rw [ee, sI_o (by omega), sI_o (by omega), sI_o (by omega), sI_y]) q
