/-! ===== the least pull ===== -/
theorem i64_neg_msb {x : Int64} : x < 0 ↔ x.toBitVec.msb = true := by
  rw [Int64.lt_iff_toInt_lt, show x.toInt = x.toBitVec.toInt from rfl, show (0 : Int64).toInt = 0 by decide]
  exact BitVec.toInt_neg_iff.trans (by rw [BitVec.msb_eq_decide]; simp; omega)
theorem xor_sgn {x y : Int64} : (x ^^^ y) < 0 ↔ ¬ (x < 0 ↔ y < 0) := by
  rw [i64_neg_msb, i64_neg_msb, i64_neg_msb, Int64.toBitVec_xor, BitVec.msb_xor]
  cases x.toBitVec.msb <;> cases y.toBitVec.msb <;> decide
/-- the quotient rounded down -/
theorem hFd_p {x y : Int64} {z w b c : Int} (hx : eI x z b) (hy : eI y w c) (hb : b < 4611686018427387904) (hc : c < 9223372036854775808) (hw : 0 < w) : eI (hFd x y) (z / w) (b + 1) := by
  have hsz : (x / y).toInt = z.tdiv w ∧ (z.tdiv w).natAbs ≤ z.natAbs := by
    have e := Int.natAbs_tdiv_le_natAbs z w
    exact ⟨by rw [Int64.toInt_div, hx.1, hy.1, Int.bmod_eq_of_le (by have := hx.2; omega) (by have := hx.2; omega)], e⟩
  have e1 : eI (x / y) (z.tdiv w) b := ⟨hsz.1, by have := hx.2; omega, by have := hx.2; omega⟩
  have hdv : x / y * y = x ↔ w ∣ z := by
    have hm : (x / y * y).toInt = z.tdiv w * w := by
      rw [Int64.toInt_mul, hsz.1, hy.1]
      have k : (z.tdiv w * w).natAbs ≤ z.natAbs := by
        rw [Int.natAbs_mul, Int.natAbs_tdiv]
        exact Nat.div_mul_le_self _ _
      exact Int.bmod_eq_of_le (by have := hx.2; omega) (by have := hx.2; omega)
    rw [← Int64.toInt_inj, hm, hx.1]
    constructor
    · intro q; exact ⟨z.tdiv w, by rw [Int.mul_comm]; exact q.symm⟩
    · intro q; exact Int.tdiv_mul_cancel q
  have te := Int.tdiv_eq_ediv (a := z) (b := w)
  have ny : ¬ y < 0 := fun q => by have := (eI_lt hy).mp q; omega
  unfold hFd
  by_cases q : (x ^^^ y) < 0 ∧ ¬ x / y * y = x
  · rw [if_pos q]
    have hz : z < 0 := by
      have := xor_sgn.mp q.1
      refine (eI_lt hx).mp (Classical.byContradiction (fun n => this ⟨fun a => absurd a n, fun a => absurd a ny⟩))
    rw [if_neg (fun n => by rcases n with n | n; omega; exact q.2 (hdv.mpr n)), Int.sign_eq_one_of_pos hw] at te
    have := eI_sub (c := 1) (y := 1) (w := 1) e1 ⟨by decide, by decide⟩ (by omega)
    rw [te, Int.add_sub_cancel] at this
    exact this
  · rw [if_neg q]
    have hz : 0 ≤ z ∨ w ∣ z := by
      by_cases n : w ∣ z
      · exact Or.inr n
      · refine Or.inl (Classical.byContradiction (fun m => q ⟨xor_sgn.mpr (fun a => ny (a.mp ((eI_lt hx).mpr (by omega)))), fun a => n (hdv.mp a)⟩))
    rw [if_pos hz, Int.add_zero] at te
    rw [te] at e1
    exact e1.mono (by omega)
theorem hFd_m {x y : Int64} {z w b c : Int} (hx : eI x z b) (hy : eI y w c) (hb : b < 4611686018427387904) (hc : c < 9223372036854775808) (hw : w < 0) : eI (hFd x y) ((-z) / (-w)) (b + 1) := by
  have hsz : (x / y).toInt = z.tdiv w ∧ (z.tdiv w).natAbs ≤ z.natAbs := by
    have e := Int.natAbs_tdiv_le_natAbs z w
    exact ⟨by rw [Int64.toInt_div, hx.1, hy.1, Int.bmod_eq_of_le (by have := hx.2; omega) (by have := hx.2; omega)], e⟩
  have e1 : eI (x / y) (z.tdiv w) b := ⟨hsz.1, by have := hx.2; omega, by have := hx.2; omega⟩
  have hdv : x / y * y = x ↔ w ∣ z := by
    have hm : (x / y * y).toInt = z.tdiv w * w := by
      rw [Int64.toInt_mul, hsz.1, hy.1]
      have k : (z.tdiv w * w).natAbs ≤ z.natAbs := by
        rw [Int.natAbs_mul, Int.natAbs_tdiv]
        exact Nat.div_mul_le_self _ _
      exact Int.bmod_eq_of_le (by have := hx.2; omega) (by have := hx.2; omega)
    rw [← Int64.toInt_inj, hm, hx.1]
    constructor
    · intro q; exact ⟨z.tdiv w, by rw [Int.mul_comm]; exact q.symm⟩
    · intro q; exact Int.tdiv_mul_cancel q
  have dn : (-w) ∣ (-z) ↔ w ∣ z := by rw [Int.neg_dvd, Int.dvd_neg]
  have te := Int.tdiv_eq_ediv (a := -z) (b := -w)
  rw [Int.neg_tdiv_neg] at te
  have ny : y < 0 := (eI_lt hy).mpr hw
  unfold hFd
  by_cases q : (x ^^^ y) < 0 ∧ ¬ x / y * y = x
  · rw [if_pos q]
    have hz : ¬ z < 0 := by
      intro n
      exact xor_sgn.mp q.1 ⟨fun _ => ny, fun _ => (eI_lt hx).mpr n⟩
    have hz0 : z ≠ 0 := fun n => q.2 (hdv.mpr (by rw [n]; exact Int.dvd_zero _))
    rw [if_neg (fun n => by rcases n with n | n; omega; exact q.2 (hdv.mpr (dn.mp n))), Int.sign_eq_one_of_pos (by omega)] at te
    have := eI_sub (c := 1) (y := 1) (w := 1) e1 ⟨by decide, by decide⟩ (by omega)
    rw [te, Int.add_sub_cancel] at this
    exact this
  · rw [if_neg q]
    have hz : 0 ≤ -z ∨ (-w) ∣ (-z) := by
      by_cases n : w ∣ z
      · exact Or.inr (dn.mpr n)
      · refine Or.inl (Classical.byContradiction (fun m => q ⟨xor_sgn.mpr (fun a => ?_), fun a => n (hdv.mp a)⟩))
        have := (eI_lt hx).mp (a.mpr ny)
        omega
    rw [if_pos hz, Int.add_zero] at te
    rw [te] at e1
    exact e1.mono (by omega)
/-- the pulls that are left -/
def rng (s : ha_St) (P : Int → Prop) : Prop := (0 ≤ (gL s 17 4).toInt ∧ (gL s 17 5).toInt ≤ 200) ∧ ∀ f : Int, 0 ≤ f → f ≤ 200 → (((gL s 17 4).toInt ≤ f ∧ f ≤ (gL s 17 5).toInt) ↔ P f)
theorem nar_rng {s : ha_St} {P : Int → Prop} {x y : Int64} {z w b c : Int} (h : rng s P) (hx : eI x z b) (hy : eI y w c) (hb : b < 4611686018427387904) (hc : c < 9223372036854775808) : rng (narF s x y) (fun f => P f ∧ z + f * w ≤ 0) := by
  unfold narF
  by_cases q : 0 < y
  · rw [if_pos q]
    have hw := (eI_gt hy).mp q
    have k := hFd_p (eI_neg hx (by omega)) hy hb hc hw
    have g4 : ∀ v, gL (sL s 17 5 v) 17 4 = gL s 17 4 := fun v => by rw [gL_sL, if_neg (by omega)]
    have g5 : ∀ v, gL (sL s 17 5 v) 17 5 = v := fun v => by rw [gL_sL, if_pos ⟨rfl, rfl⟩]
    have hm : ∀ f : Int, f ≤ (-z) / w ↔ z + f * w ≤ 0 := fun f => by rw [Int.le_ediv_iff_mul_le hw]; omega
    by_cases q2 : hFd (-x) y < gL s 17 5
    · rw [if_pos q2]
      have q3 := Int64.lt_iff_toInt_lt.mp q2
      rw [k.1] at q3
      refine ⟨by rw [g4, g5, k.1]; have := h.1; omega, fun f f0 f1 => ?_⟩
      show _ ↔ (P f ∧ z + f * w ≤ 0)
      rw [g4, g5, k.1, ← h.2 f f0 f1, ← hm f]
      omega
    · rw [if_neg q2]
      have q3 := mt Int64.lt_iff_toInt_lt.mpr q2
      rw [k.1] at q3
      refine ⟨by rw [g4, g5]; exact h.1, fun f f0 f1 => ?_⟩
      show _ ↔ (P f ∧ z + f * w ≤ 0)
      rw [g4, g5, ← h.2 f f0 f1, ← hm f]
      omega
  · rw [if_neg q]
    by_cases q1 : y < 0
    · rw [if_pos q1]
      have hw := (eI_lt hy).mp q1
      have k := hFd_m hx hy hb hc hw
      have kn := eI_neg k (by omega)
      have g5 : ∀ v, gL (sL s 17 4 v) 17 5 = gL s 17 5 := fun v => by rw [gL_sL, if_neg (by omega)]
      have g4 : ∀ v, gL (sL s 17 4 v) 17 4 = v := fun v => by rw [gL_sL, if_pos ⟨rfl, rfl⟩]
      have hm : ∀ f : Int, -((-z) / (-w)) ≤ f ↔ z + f * w ≤ 0 := fun f => by
        have := Int.le_ediv_iff_mul_le (a := -f) (b := -z) (c := -w) (by omega)
        rw [Int.neg_mul_neg] at this
        constructor
        · intro a; have := this.mp (by omega); omega
        · intro a; have := this.mpr (by omega); omega
      by_cases q2 : gL s 17 4 < -hFd x y
      · rw [if_pos q2]
        have q3 := Int64.lt_iff_toInt_lt.mp q2
        rw [kn.1] at q3
        refine ⟨by rw [g4, g5, kn.1]; have := h.1; omega, fun f f0 f1 => ?_⟩
        show _ ↔ (P f ∧ z + f * w ≤ 0)
        rw [g4, g5, kn.1, ← h.2 f f0 f1, ← hm f]
        omega
      · rw [if_neg q2]
        have q3 := mt Int64.lt_iff_toInt_lt.mpr q2
        rw [kn.1] at q3
        refine ⟨by rw [g4, g5]; exact h.1, fun f f0 f1 => ?_⟩
        show _ ↔ (P f ∧ z + f * w ≤ 0)
        rw [g4, g5, ← h.2 f f0 f1, ← hm f]
        omega
    · rw [if_neg q1]
      have hw : w = 0 := by
        have a := mt (eI_gt hy).mpr q
        have b := mt (eI_lt hy).mpr q1
        omega
      by_cases q2 : 0 < x
      · rw [if_pos q2]
        have hz := (eI_gt hx).mp q2
        have g4 : gL (sL s 17 5 (-1)) 17 4 = gL s 17 4 := by rw [gL_sL, if_neg (by omega)]
        have g5 : gL (sL s 17 5 (-1)) 17 5 = -1 := by rw [gL_sL, if_pos ⟨rfl, rfl⟩]
        refine ⟨by rw [g4, g5]; exact ⟨h.1.1, by decide⟩, fun f f0 f1 => ?_⟩
        show _ ↔ (P f ∧ z + f * w ≤ 0)
        rw [g4, g5, hw, Int.mul_zero, show (-1 : Int64).toInt = -1 by decide]
        constructor
        · intro a; omega
        · rintro ⟨-, a⟩; omega
      · rw [if_neg q2]
        have hz := mt (eI_gt hx).mpr q2
        refine ⟨h.1, fun f f0 f1 => ?_⟩
        show _ ↔ (P f ∧ z + f * w ≤ 0)
        rw [h.2 f f0 f1, hw, Int.mul_zero]
        exact ⟨fun a => ⟨a, by omega⟩, fun a => a.1⟩
theorem nar_U {s : ha_St} {x y : Int64} : frU s (narF s x y) := by
  unfold narF
  split
  · exact ⟨rfl, rfl, rfl, rfl, fun a ha => funext fun j => by rw [gL_sL, if_neg (fun q => ha q.1)]⟩
  · split
    · exact ⟨rfl, rfl, rfl, rfl, fun a ha => funext fun j => by rw [gL_sL, if_neg (fun q => ha q.1)]⟩
    · split
      · exact ⟨rfl, rfl, rfl, rfl, fun a ha => funext fun j => by rw [gL_sL, if_neg (fun q => ha q.1)]⟩
      · exact ⟨rfl, rfl, rfl, rfl, fun _ _ => rfl⟩
theorem frU_tr {σ σ1 σ2 : ha_St} (h : frU σ σ1) (g : frU σ1 σ2) : frU σ σ2 := ⟨g.1.trans h.1, g.2.1.trans h.2.1, g.2.2.1.trans h.2.2.1, g.2.2.2.1.trans h.2.2.2.1, fun a ha => (g.2.2.2.2 a ha).trans (h.2.2.2.2 a ha)⟩
theorem frU_rf {σ : ha_St} : frU σ σ := ⟨rfl, rfl, rfl, rfl, fun _ _ => rfl⟩
/-- a load of the cut, the clamps together -/
def ldI (σ : ha_St) (i : Nat) : I3 := ((gI σ 18 i).toInt64, (gI σ 19 i).toInt64, (gI σ 20 i).toInt64)
def clI (σ : ha_St) : I3 := (gL σ 16 0, gL σ 16 1, gL σ 16 2)
def okF (σ : ha_St) (Ld : Nat → V3) (Cl : V3) (n : Nat) (f : Int) : Prop := ∀ i, i < n → ∀ k, k < cnt σ 9 → vd (toV (ndS σ 9 k)) (Ld i) + f * vd (toV (ndS σ 9 k)) Cl ≤ 0
theorem pull_rng {σ : ha_St} {Ld : Nat → V3} {Cl : V3} {n : Nat} (hn : (gI σ 17 3).toNatClampNeg = n) (hb : nlB σ 9) (hl : ∀ i, i < n → e3 (ldI σ i) (Ld i) 1000) (hc : e3 (clI σ) Cl 2000) : frU σ (pullS σ) ∧ rng (pullS σ) (okF σ Ld Cl n) := by
  unfold pullS
  rw [hn]
  have h0 : frU σ (sL (sL σ 17 4 0) 17 5 200) := ⟨rfl, rfl, rfl, rfl, fun a ha => funext fun j => by rw [gL_sL, if_neg (fun q => ha q.1), gL_sL, if_neg (fun q => ha q.1)]⟩
  refine itF_ind (f := pullI (gI σ 9 7).toNatClampNeg) (fun i t => frU σ t ∧ rng t (okF σ Ld Cl i)) ⟨h0, ?_⟩ n ?_
  · have g4 : gL (sL (sL σ 17 4 0) 17 5 200) 17 4 = 0 := by rw [gL_sL, if_neg (by omega), gL_sL, if_pos ⟨rfl, rfl⟩]
    have g5 : gL (sL (sL σ 17 4 0) 17 5 200) 17 5 = 200 := by rw [gL_sL, if_pos ⟨rfl, rfl⟩]
    unfold rng
    rw [g4, g5, show (0 : Int64).toInt = 0 by decide, show (200 : Int64).toInt = 200 by decide]
    exact ⟨by omega, fun f f0 f1 => ⟨fun _ i hi => by omega, fun _ => ⟨f0, f1⟩⟩⟩
  · rintro i t hi ⟨ft, rt⟩
    have key := itF_ind (f := pullK i) (fun k u => frU σ u ∧ rng u (fun f => okF σ Ld Cl i f ∧ ∀ j, j < k → vd (toV (ndS σ 9 j)) (Ld i) + f * vd (toV (ndS σ 9 j)) Cl ≤ 0)) (s := t) ⟨ft, rt.1, fun f f0 f1 => (rt.2 f f0 f1).trans ⟨fun a => ⟨a, fun j hj => by omega⟩, fun a => a.1⟩⟩ (gI σ 9 7).toNatClampNeg ?_
    · refine ⟨key.1, key.2.1, fun f f0 f1 => (key.2.2 f f0 f1).trans ⟨fun a => ?_, fun a => ⟨fun x hx => a x (by omega), fun j hj => a i (by omega) j hj⟩⟩⟩
      intro x hx k hk
      by_cases e : x = i
      · rw [e]; exact a.2 k hk
      · exact a.1 x (by omega) k hk
    · rintro k u hk ⟨fu, ru⟩
      have e1 : dotB u 9 k (gI u 18 i).toInt64 (gI u 19 i).toInt64 (gI u 20 i).toInt64 = dtI (ndS σ 9 k) (ldI σ i) := by
        unfold dotB dtI ndS ldI
        rw [fu.2.2.2.1, fu.2.2.2.2 13 (by omega), fu.2.2.2.2 14 (by omega), fu.2.2.2.2 15 (by omega)]
      have e2 : dotB u 9 k (gL u 16 0) (gL u 16 1) (gL u 16 2) = dtI (ndS σ 9 k) (clI σ) := by
        unfold dotB dtI ndS clI
        rw [fu.2.2.2.2 16 (by omega), fu.2.2.2.2 13 (by omega), fu.2.2.2.2 14 (by omega), fu.2.2.2.2 15 (by omega)]
      have d1 : eI (dtI (ndS σ 9 k) (ldI σ i)) (vd (toV (ndS σ 9 k)) (Ld i)) 2592000000000000 := eI_d (hb k hk) (hl i hi) (by decide) (by decide) (by decide)
      have d2 : eI (dtI (ndS σ 9 k) (clI σ)) (vd (toV (ndS σ 9 k)) Cl) 5184000000000000 := eI_d (hb k hk) hc (by decide) (by decide) (by decide)
      unfold pullK
      rw [e1, e2]
      have r := nar_rng ru d1 d2 (by decide) (by decide)
      refine ⟨frU_tr fu nar_U, r.1, fun f f0 f1 => (r.2 f f0 f1).trans ⟨fun a => ⟨a.1.1, fun j hj => ?_⟩, fun a => ⟨⟨a.1, fun j hj => a.2 j (by omega)⟩, a.2 k (by omega)⟩⟩⟩
      by_cases e : j = k
      · rw [e]; exact a.2
      · exact a.1.2 j (by omega)
/-- the class's least pull -/
theorem least_cls {σ : ha_St} {P : Int → Prop} (h : rng (pullS σ) P) : ∃ r : Int32, (if leastV σ < 0 then -4 else leastV σ) = r ∧ ((0 ≤ r.toInt ∧ r.toInt ≤ 200 ∧ P r.toInt ∧ ∀ f : Int, 0 ≤ f → f < r.toInt → ¬ P f) ∨ (r = -4 ∧ ∀ f : Int, 0 ≤ f → f ≤ 200 → ¬ P f)) := by
  unfold leastV
  by_cases q : gL (pullS σ) 17 4 ≤ gL (pullS σ) 17 5
  · rw [if_pos q]
    have q1 := Int64.le_iff_toInt_le.mp q
    have a := h.1
    have e : ((gL (pullS σ) 17 4).toInt32).toInt = (gL (pullS σ) 17 4).toInt := by
      rw [Int64.toInt_toInt32]
      exact Int.bmod_eq_of_le (by omega) (by omega)
    have hn : ¬ (gL (pullS σ) 17 4).toInt32 < 0 := by
      rw [Int32.lt_iff_toInt_lt, e, Int32.toInt_zero]
      omega
    rw [if_neg hn]
    refine ⟨_, rfl, Or.inl ?_⟩
    rw [e]
    refine ⟨a.1, by omega, (h.2 _ a.1 (by omega)).mp ⟨Int.le_refl _, q1⟩, fun f f0 f1 p => ?_⟩
    have := (h.2 f f0 (by omega)).mpr p
    omega
  · rw [if_neg q, if_pos (by decide)]
    have q1 := mt Int64.le_iff_toInt_le.mpr q
    exact ⟨_, rfl, Or.inr ⟨rfl, fun f f0 f1 p => by have := (h.2 f f0 f1).mpr p; omega⟩⟩
