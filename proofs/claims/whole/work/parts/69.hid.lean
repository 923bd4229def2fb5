/-! ===== the hidden motion is one ===== -/
theorem gcd_le_b {a b B : Nat} (ha : a ≤ B) (hb : b ≤ B) : Nat.gcd a b ≤ B := by
  by_cases q : a = 0
  · rw [q, Nat.gcd_zero_left]; exact hb
  · exact Nat.le_trans (Nat.gcd_le_left _ (by omega)) ha
theorem nAb {z b : Int} (h : -b ≤ z ∧ z ≤ b) : z.natAbs ≤ b.toNat := by omega
theorem g3_E {x : I3} {X : V3} {d e : Int64} (hx : e3 x X 72000000) (h1 : d.toInt = (Nat.gcd X.1.natAbs X.2.1.natAbs : Nat)) (h2 : ∀ z b, eI d z b → b < 9223372036854775808 → e.toInt = (Nat.gcd z.natAbs X.2.2.natAbs : Nat)) : e.toInt = (g3 X : Nat) := by
  have hd : Nat.gcd X.1.natAbs X.2.1.natAbs ≤ 72000000 := gcd_le_b (nAb hx.1.2) (nAb hx.2.1.2)
  have k := h2 _ 72000000 ⟨h1, by omega, by omega⟩ (by decide)
  rw [k, Int.natAbs_natCast]
  rfl
theorem cls_D {σ : ha_St} {X : V3} (hx : e3 (nrm σ 2) X 72000000) : (redD σ).toInt = (g3 X : Nat) := by
  refine g3_E hx (euc_E hx.1 hx.2.1 (by decide) (by decide)) (fun z b hz hb => ?_)
  exact euc_E hz hx.2.2 hb (by decide)
theorem eI_ne {x : Int64} {z b : Int} (h : eI x z b) : ¬ x = 0 ↔ ¬ z = 0 := not_congr (eI_0 h)
theorem sg_E {S l : Int64} {X : V3} {b : Int} (hl : eI l (leadV X) b) (h : S.toInt = (g3 X : Nat)) (hg : (g3 X : Int) ≤ 72000000) : (if l < 0 then -S else S).toInt = sgV X := by
  unfold sgV
  by_cases q : l < 0
  · rw [if_pos q, if_pos ((eI_lt hl).mp q)]
    exact (eI_neg (b := 72000000) ⟨h, by omega, by omega⟩ (by decide)).1
  · rw [if_neg q, if_neg (fun z => q ((eI_lt hl).mpr z)), h]
theorem g3_le {x : I3} {X : V3} (hx : e3 x X 72000000) : (g3 X : Int) ≤ 72000000 := by
  have : g3 X ≤ 72000000 := gcd_le_b (gcd_le_b (nAb hx.1.2) (nAb hx.2.1.2)) (nAb hx.2.2.2)
  omega
theorem lead_E {c : I3} {X : V3} {b : Int} (h : e3 c X b) : eI (hidL c) (leadV X) b := by
  unfold hidL leadV
  by_cases q : c.2.2 = 0
  · rw [if_pos q, if_pos ((eI_0 h.2.2).mp q)]
    by_cases q2 : c.1 = 0
    · rw [if_pos q2, if_pos ((eI_0 h.1).mp q2)]; exact h.2.1
    · rw [if_neg q2, if_neg ((eI_ne h.1).mp q2)]; exact h.1
  · rw [if_neg q, if_neg ((eI_ne h.2.2).mp q)]; exact h.2.2
theorem redL_hid {σ : ha_St} : redL σ = hidL (nrm σ 2) := rfl
theorem redS_E {σ : ha_St} {X : V3} (hx : e3 (nrm σ 2) X 72000000) : (redS σ).toInt = sgV X := by
  unfold redS
  rw [redL_hid]
  exact sg_E (lead_E hx) (cls_D hx) (g3_le hx)
/-- the class's parts, as whole numbers -/
theorem cls_hid {σ : ha_St} {X : V3} (hx : e3 (nrm σ 2) X 72000000) (h0 : X ≠ v0) : (gL (redF σ) 2 8).toInt = X.1 / sgV X ∧ (gL (redF σ) 2 9).toInt = X.2.1 / sgV X ∧ (gL (redF σ) 2 10).toInt = X.2.2 / sgV X := by
  have hS := redS_E hx
  have hne : redS σ ≠ 0 := by
    intro q
    rw [q] at hS
    exact sgV_nz h0 hS.symm
  have d := sgV_dvd (X := X)
  unfold redF
  rw [if_neg hne]
  have e := nrm_set3 (σ := σ) (c := 2) (x := gL σ 2 8 / redS σ) (y := gL σ 2 9 / redS σ) (z := gL σ 2 10 / redS σ)
  have e1 : gL (set3 σ 2 (gL σ 2 8 / redS σ) (gL σ 2 9 / redS σ) (gL σ 2 10 / redS σ)) 2 8 = gL σ 2 8 / redS σ := congrArg (fun z : I3 => z.1) e
  have e2 : gL (set3 σ 2 (gL σ 2 8 / redS σ) (gL σ 2 9 / redS σ) (gL σ 2 10 / redS σ)) 2 9 = gL σ 2 9 / redS σ := congrArg (fun z : I3 => z.2.1) e
  have e3' : gL (set3 σ 2 (gL σ 2 8 / redS σ) (gL σ 2 9 / redS σ) (gL σ 2 10 / redS σ)) 2 10 = gL σ 2 10 / redS σ := congrArg (fun z : I3 => z.2.2) e
  rw [e1, e2, e3']
  exact ⟨div_E hx.1 (by decide) hS d.1, div_E hx.2.1 (by decide) hS d.2.1, div_E hx.2.2 (by decide) hS d.2.2⟩
theorem ref_hid {c : I3} {Y : V3} {d e : Int64} {w : Int32} (hw : 0 ≤ w ∧ w ≤ 2) (hc : e3 c Y 72000000) (h1 : gcE (lAbs c.1) (lAbs c.2.1) d) (h2 : gcE (lAbs d) (lAbs c.2.2) e) : (hidC c w / (if hidL c < 0 then -e else e)).toInt = (if w = 0 then Y.1 else if w = 1 then Y.2.1 else Y.2.2) / sgV Y := by
  have hE : e.toInt = (g3 Y : Nat) := by
    refine g3_E hc (gcd_E hc.1 hc.2.1 (by decide) (by decide) h1) (fun z b hz hb => ?_)
    exact gcd_E hz hc.2.2 hb (by decide) h2
  have hS := sg_E (lead_E hc) hE (g3_le hc)
  have dv := sgV_dvd (X := Y)
  unfold hidC
  by_cases q0 : w = 0
  · rw [if_pos q0, if_pos q0]; exact div_E hc.1 (by decide) hS dv.1
  · rw [if_neg q0, if_neg q0]
    by_cases q1 : w = 1
    · rw [if_pos q1, if_pos q1]; exact div_E hc.2.1 (by decide) hS dv.2.1
    · rw [if_neg q1, if_neg q1]; exact div_E hc.2.2 (by decide) hS dv.2.2
theorem hid_same {σ : ha_St} {c : I3} {X Y : V3} {d e : Int64} {w : Int32} (hw : 0 ≤ w ∧ w ≤ 2) (hx : e3 (nrm σ 2) X 72000000) (hc : e3 c Y 72000000) (h0 : X ≠ v0) (k0 : Y ≠ v0) (hp : vc X Y = v0) (h1 : gcE (lAbs c.1) (lAbs c.2.1) d) (h2 : gcE (lAbs d) (lAbs c.2.2) e) :
    (if w = 0 then gL (redF σ) 2 8 else if w = 1 then gL (redF σ) 2 9 else gL (redF σ) 2 10) = hidC c w / (if hidL c < 0 then -e else e) := by
  refine Int64.toInt_inj.mp ?_
  rw [ref_hid hw hc h1 h2]
  have k := cls_hid hx h0
  have r := red_eq hp h0 k0
  have dx := sgV_dvd (X := X)
  have dy := sgV_dvd (X := Y)
  have sx := sgV_nz h0
  have sy := sgV_nz k0
  by_cases q0 : w = 0
  · rw [if_pos q0, if_pos q0, k.1]; exact quo_eq sx sy r.1 dx.1 dy.1
  · rw [if_neg q0, if_neg q0]
    by_cases q1 : w = 1
    · rw [if_pos q1, if_pos q1, k.2.1]; exact quo_eq sx sy r.2.1 dx.2.1 dy.2.1
    · rw [if_neg q1, if_neg q1, k.2.2]; exact quo_eq sx sy r.2.2 dx.2.2 dy.2.2
