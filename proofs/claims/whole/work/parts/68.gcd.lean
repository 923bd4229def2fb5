/-! ===== common divisors ===== -/
theorem toInt_nn {x : Int64} (h : 0 ≤ x.toInt) : (x.toInt.toNat : Int) = x.toInt := Int.toNat_of_nonneg h
theorem lrem_nn {a b : Int64} (ha : 0 ≤ a.toInt) (hb : 0 ≤ b.toInt) (h : b ≠ 0) : 0 ≤ (a - a / b * b).toInt ∧ (a - a / b * b).toInt.toNat = a.toInt.toNat % b.toInt.toNat := by
  have e := lrem_int (a := a) h
  rw [e, Int.tmod_eq_emod_of_nonneg ha]
  have e2 : a.toInt % b.toInt = ((a.toInt.toNat % b.toInt.toNat : Nat) : Int) := by
    rw [Int.natCast_emod, toInt_nn ha, toInt_nn hb]
  rw [e2]
  exact ⟨Int.natCast_nonneg _, Int.toNat_natCast _⟩
theorem gcd_st (a b : Nat) : Nat.gcd a b = Nat.gcd b (a % b) := by rw [Nat.gcd_comm a b, Nat.gcd_rec b a, Nat.gcd_comm]
theorem eucT_gcd : ∀ {n : Nat} {a b d : Int64}, 0 ≤ a.toInt → 0 ≤ b.toInt → eucT n a b d → d.toInt = (Nat.gcd a.toInt.toNat b.toInt.toNat : Nat)
  | 0, a, b, d, ha, hb, h => by
    rw [h.2, h.1, show (0 : Int64).toInt = 0 by decide, Int.toNat_zero, Nat.gcd_zero_right, toInt_nn ha]
  | n + 1, a, b, d, ha, hb, h => by
    have k := lrem_nn ha hb h.1
    rw [eucT_gcd hb k.1 h.2, k.2, ← gcd_st]
theorem euc_gcd : ∀ (k m : Nat) (a b : Int64), 0 ≤ a.toInt → 0 ≤ b.toInt → b.toInt.toNat < 2 ^ k → 2 * k + 1 ≤ m → (euc m a b).toInt = (Nat.gcd a.toInt.toNat b.toInt.toNat : Nat)
  | k, 0, a, b, _, _, _, hm => by omega
  | k, m + 1, a, b, ha, hb, hk, hm => by
    by_cases q : b = 0
    · rw [show euc (m + 1) a b = if b = 0 then a else euc m b (a - a / b * b) from rfl, if_pos q, q, show (0 : Int64).toInt = 0 by decide, Int.toNat_zero, Nat.gcd_zero_right, toInt_nn ha]
    · rw [show euc (m + 1) a b = if b = 0 then a else euc m b (a - a / b * b) from rfl, if_neg q]
      have k1 := lrem_nn ha hb q
      have hb0 : 0 < b.toInt.toNat := by
        have : b.toInt ≠ 0 := fun z => q (Int64.toInt_inj.mp (by rw [z]; rfl))
        omega
      cases k with
      | zero => omega
      | succ k =>
        cases m with
        | zero => omega
        | succ m =>
          by_cases q2 : a - a / b * b = 0
          · rw [show euc (m + 1) b (a - a / b * b) = if a - a / b * b = 0 then b else euc m (a - a / b * b) (b - b / (a - a / b * b) * (a - a / b * b)) from rfl, if_pos q2, gcd_st, ← k1.2, q2, show (0 : Int64).toInt = 0 by decide, Int.toNat_zero, Nat.gcd_zero_right, toInt_nn hb]
          · rw [show euc (m + 1) b (a - a / b * b) = if a - a / b * b = 0 then b else euc m (a - a / b * b) (b - b / (a - a / b * b) * (a - a / b * b)) from rfl, if_neg q2]
            have k2 := lrem_nn hb k1.1 q2
            have hr0 : 0 < (a - a / b * b).toInt.toNat := by
              have : (a - a / b * b).toInt ≠ 0 := fun z => q2 (Int64.toInt_inj.mp (by rw [z]; rfl))
              have := k1.1
              omega
            have hlt : (a - a / b * b).toInt.toNat < b.toInt.toNat := by rw [k1.2]; exact Nat.mod_lt _ hb0
            have hs : (b - b / (a - a / b * b) * (a - a / b * b)).toInt.toNat < 2 ^ k := by
              rw [k2.2]
              generalize (a - a / b * b).toInt.toNat = r at hr0 hlt
              generalize b.toInt.toNat = y at hk hlt
              have h1 := Nat.mod_lt y hr0
              have h2 := Nat.mod_add_div y r
              have h3 : 1 ≤ y / r := (Nat.one_le_div_iff hr0).mpr (Nat.le_of_lt hlt)
              have h4 : r ≤ r * (y / r) := by
                have := Nat.mul_le_mul_left r h3
                omega
              have h5 : (2 : Nat) ^ (k + 1) = 2 * 2 ^ k := by rw [Nat.pow_succ]; omega
              omega
            rw [euc_gcd k m _ _ k1.1 k2.1 hs (by omega), k2.2, ← gcd_st, k1.2, ← gcd_st]
theorem lAbs_E {x : Int64} {z b : Int} (h : eI x z b) (hb : b < 9223372036854775808) : (lAbs x).toInt = z.natAbs := by
  unfold lAbs
  by_cases q : x < 0
  · rw [if_pos q]
    have h1 := (eI_lt h).mp q
    rw [(eI_neg h hb).1]
    omega
  · rw [if_neg q, h.1]
    have := mt (eI_lt h).mpr q
    omega
/-- both ways to the common divisor come to one -/
theorem gcd_E {x y d : Int64} {z w b c : Int} (hx : eI x z b) (hy : eI y w c) (hb : b < 9223372036854775808) (hc : c < 562949953421312) (h : gcE (lAbs x) (lAbs y) d) : d.toInt = (Nat.gcd z.natAbs w.natAbs : Nat) := by
  obtain ⟨n, h⟩ := h
  have e1 := lAbs_E hx hb
  have e2 := lAbs_E hy (by omega)
  rw [eucT_gcd (by omega) (by omega) h, e1, e2, Int.toNat_natCast, Int.toNat_natCast]
theorem euc_E {x y : Int64} {z w b c : Int} (hx : eI x z b) (hy : eI y w c) (hb : b < 9223372036854775808) (hc : c < 562949953421312) : (euc 100 (lAbs x) (lAbs y)).toInt = (Nat.gcd z.natAbs w.natAbs : Nat) := by
  have e1 := lAbs_E hx hb
  have e2 := lAbs_E hy (by omega)
  rw [euc_gcd 49 100 _ _ (by omega) (by omega) (by rw [e2]; have := hy.2; rw [show (2 : Nat) ^ 49 = 562949953421312 by decide]; omega) (by omega), e1, e2, Int.toNat_natCast, Int.toNat_natCast]
theorem gcd_same {x y d : Int64} {z w b c : Int} (hx : eI x z b) (hy : eI y w c) (hb : b < 9223372036854775808) (hc : c < 562949953421312) (h : gcE (lAbs x) (lAbs y) d) : d = euc 100 (lAbs x) (lAbs y) := Int64.toInt_inj.mp ((gcd_E hx hy hb hc h).trans (euc_E hx hy hb hc).symm)
def g3 (X : V3) : Nat := Nat.gcd (Nat.gcd X.1.natAbs X.2.1.natAbs) X.2.2.natAbs
def leadV (X : V3) : Int := if X.2.2 = 0 then (if X.1 = 0 then X.2.1 else X.1) else X.2.2
def sgV (X : V3) : Int := if leadV X < 0 then -(g3 X : Int) else g3 X
theorem g3_mul (k : Nat) (a b c : Nat) : Nat.gcd (Nat.gcd (k * a) (k * b)) (k * c) = k * Nat.gcd (Nat.gcd a b) c := by rw [Nat.gcd_mul_left, Nat.gcd_mul_left]
theorem g3_par {X Y : V3} (h : vc X Y = v0) : X.1.natAbs * g3 Y = Y.1.natAbs * g3 X ∧ X.2.1.natAbs * g3 Y = Y.2.1.natAbs * g3 X ∧ X.2.2.natAbs * g3 Y = Y.2.2.natAbs * g3 X := by
  have k := v3_0.mp h
  simp only [vc] at k
  have e12 : X.1 * Y.2.1 = X.2.1 * Y.1 := by omega
  have e13 : X.1 * Y.2.2 = X.2.2 * Y.1 := by omega
  have e23 : X.2.1 * Y.2.2 = X.2.2 * Y.2.1 := by omega
  have n : ∀ {a b c d : Int}, a * b = c * d → a.natAbs * b.natAbs = d.natAbs * c.natAbs := fun {a b c d} q => by rw [← Int.natAbs_mul, q, Int.natAbs_mul, Nat.mul_comm]
  unfold g3
  refine ⟨?_, ?_, ?_⟩
  · rw [← g3_mul, ← g3_mul, n e12, n e13, Nat.mul_comm X.1.natAbs Y.1.natAbs]
  · rw [← g3_mul, ← g3_mul, n e12.symm, n e23, Nat.mul_comm Y.2.1.natAbs X.1.natAbs, Nat.mul_comm X.2.1.natAbs Y.2.1.natAbs]
  · rw [← g3_mul, ← g3_mul, n e13.symm, n e23.symm, Nat.mul_comm X.2.2.natAbs Y.2.2.natAbs, Nat.mul_comm Y.2.2.natAbs X.1.natAbs, Nat.mul_comm Y.2.2.natAbs X.2.1.natAbs]
theorem sg_one {x y p q : Int} {a b : Nat} (hp : p ≠ 0) (hq : q ≠ 0) (h1 : x * q = y * p) (h2 : x.natAbs * b = y.natAbs * a) : x * (if q < 0 then -(b : Int) else b) = y * (if p < 0 then -(a : Int) else a) := by
  have h3 : (x.natAbs : Int) * b = (y.natAbs : Int) * a := by exact_mod_cast h2
  by_cases hx : x = 0
  · have hy : y = 0 := by
      rw [hx, Int.zero_mul] at h1
      exact (Int.mul_eq_zero.mp h1.symm).resolve_right hp
    rw [hx, hy, Int.zero_mul, Int.zero_mul]
  · have hy : y ≠ 0 := by
      intro z
      rw [z, Int.zero_mul] at h1
      rcases Int.mul_eq_zero.mp h1 with w | w
      · exact hx w
      · exact hq w
    rcases Int.lt_or_gt_of_ne hx with x1 | x1 <;> rcases Int.lt_or_gt_of_ne hy with y1 | y1
    · rw [Int.ofNat_natAbs_of_nonpos (Int.le_of_lt x1), Int.ofNat_natAbs_of_nonpos (Int.le_of_lt y1)] at h3
      rcases Int.lt_or_gt_of_ne hq with q1 | q1 <;> rcases Int.lt_or_gt_of_ne hp with p1 | p1
      · rw [if_pos q1, if_pos p1]; grind
      · have := Int.mul_pos_of_neg_of_neg x1 q1; have := Int.mul_neg_of_neg_of_pos y1 p1; omega
      · have := Int.mul_neg_of_neg_of_pos x1 q1; have := Int.mul_pos_of_neg_of_neg y1 p1; omega
      · rw [if_neg (by omega), if_neg (by omega)]; grind
    · rw [Int.ofNat_natAbs_of_nonpos (Int.le_of_lt x1), Int.natAbs_of_nonneg (Int.le_of_lt y1)] at h3
      rcases Int.lt_or_gt_of_ne hq with q1 | q1 <;> rcases Int.lt_or_gt_of_ne hp with p1 | p1
      · have := Int.mul_pos_of_neg_of_neg x1 q1; have := Int.mul_neg_of_pos_of_neg y1 p1; omega
      · rw [if_pos q1, if_neg (by omega)]; grind
      · rw [if_neg (by omega), if_pos p1]; grind
      · have := Int.mul_neg_of_neg_of_pos x1 q1; have := Int.mul_pos y1 p1; omega
    · rw [Int.natAbs_of_nonneg (Int.le_of_lt x1), Int.ofNat_natAbs_of_nonpos (Int.le_of_lt y1)] at h3
      rcases Int.lt_or_gt_of_ne hq with q1 | q1 <;> rcases Int.lt_or_gt_of_ne hp with p1 | p1
      · have := Int.mul_neg_of_pos_of_neg x1 q1; have := Int.mul_pos_of_neg_of_neg y1 p1; omega
      · rw [if_pos q1, if_neg (by omega)]; grind
      · rw [if_neg (by omega), if_pos p1]; grind
      · have := Int.mul_pos x1 q1; have := Int.mul_neg_of_neg_of_pos y1 p1; omega
    · rw [Int.natAbs_of_nonneg (Int.le_of_lt x1), Int.natAbs_of_nonneg (Int.le_of_lt y1)] at h3
      rcases Int.lt_or_gt_of_ne hq with q1 | q1 <;> rcases Int.lt_or_gt_of_ne hp with p1 | p1
      · rw [if_pos q1, if_pos p1]; grind
      · have := Int.mul_neg_of_pos_of_neg x1 q1; have := Int.mul_pos y1 p1; omega
      · have := Int.mul_pos x1 q1; have := Int.mul_neg_of_pos_of_neg y1 p1; omega
      · rw [if_neg (by omega), if_neg (by omega)]; grind
theorem lead_nz {X : V3} (h : X ≠ v0) : leadV X ≠ 0 := by
  unfold leadV
  split
  · split
    · intro q; exact h (v3_0.mpr ⟨by assumption, q, by assumption⟩)
    · assumption
  · assumption
theorem par_comp {X Y : V3} (h : vc X Y = v0) (hX : X ≠ v0) (hY : Y ≠ v0) : (X.1 = 0 ↔ Y.1 = 0) ∧ (X.2.1 = 0 ↔ Y.2.1 = 0) ∧ (X.2.2 = 0 ↔ Y.2.2 = 0) := by
  have k := v3_0.mp h
  simp only [vc] at k
  have mz : ∀ {a b : Int}, a ≠ 0 → a * b = 0 → b = 0 := fun ha q => (Int.mul_eq_zero.mp q).resolve_left ha
  refine ⟨⟨fun q => ?_, fun q => ?_⟩, ⟨fun q => ?_, fun q => ?_⟩, ⟨fun q => ?_, fun q => ?_⟩⟩
  · rcases v3_ne hX with z | z | z
    · exact absurd q z
    · exact mz z (by rw [q] at k; have := k.2.2; omega)
    · exact mz z (by rw [q] at k; have := k.2.1; omega)
  · rcases v3_ne hY with z | z | z
    · exact absurd q z
    · exact mz z (by rw [q] at k; have := k.2.2; rw [Int.mul_comm]; omega)
    · exact mz z (by rw [q] at k; have := k.2.1; rw [Int.mul_comm]; omega)
  · rcases v3_ne hX with z | z | z
    · exact mz z (by rw [q] at k; have := k.2.2; omega)
    · exact absurd q z
    · exact mz z (by rw [q] at k; have := k.1; omega)
  · rcases v3_ne hY with z | z | z
    · exact mz z (by rw [q] at k; have := k.2.2; rw [Int.mul_comm]; omega)
    · exact absurd q z
    · exact mz z (by rw [q] at k; have := k.1; rw [Int.mul_comm]; omega)
  · rcases v3_ne hX with z | z | z
    · exact mz z (by rw [q] at k; have := k.2.1; omega)
    · exact mz z (by rw [q] at k; have := k.1; omega)
    · exact absurd q z
  · rcases v3_ne hY with z | z | z
    · exact mz z (by rw [q] at k; have := k.2.1; rw [Int.mul_comm]; omega)
    · exact mz z (by rw [q] at k; have := k.1; rw [Int.mul_comm]; omega)
    · exact absurd q z
theorem lead_par {X Y : V3} (h : vc X Y = v0) (hX : X ≠ v0) (hY : Y ≠ v0) : X.1 * leadV Y = Y.1 * leadV X ∧ X.2.1 * leadV Y = Y.2.1 * leadV X ∧ X.2.2 * leadV Y = Y.2.2 * leadV X := by
  have c := par_comp h hX hY
  have k := v3_0.mp h
  simp only [vc] at k
  have e1 : X.2.1 * Y.2.2 = Y.2.1 * X.2.2 := by rw [Int.mul_comm Y.2.1]; omega
  have e2 : X.1 * Y.2.2 = Y.1 * X.2.2 := by rw [Int.mul_comm Y.1]; omega
  have e3 : X.1 * Y.2.1 = Y.1 * X.2.1 := by rw [Int.mul_comm Y.1]; omega
  unfold leadV
  by_cases z : X.2.2 = 0
  · rw [if_pos z, if_pos (c.2.2.mp z)]
    by_cases y : X.1 = 0
    · rw [if_pos y, if_pos (c.1.mp y)]
      exact ⟨e3, Int.mul_comm _ _, by rw [z, c.2.2.mp z, Int.zero_mul, Int.zero_mul]⟩
    · rw [if_neg y, if_neg (fun q => y (c.1.mpr q))]
      exact ⟨Int.mul_comm _ _, by rw [Int.mul_comm, Int.mul_comm Y.2.1]; exact e3.symm, by rw [z, c.2.2.mp z, Int.zero_mul, Int.zero_mul]⟩
  · rw [if_neg z, if_neg (fun q => z (c.2.2.mpr q))]
    exact ⟨e2, e1, Int.mul_comm _ _⟩
theorem red_eq {X Y : V3} (h : vc X Y = v0) (hX : X ≠ v0) (hY : Y ≠ v0) : X.1 * sgV Y = Y.1 * sgV X ∧ X.2.1 * sgV Y = Y.2.1 * sgV X ∧ X.2.2 * sgV Y = Y.2.2 * sgV X := by
  have g := g3_par h
  have l := lead_par h hX hY
  have x0 := lead_nz hX
  have y0 := lead_nz hY
  exact ⟨sg_one x0 y0 l.1 g.1, sg_one x0 y0 l.2.1 g.2.1, sg_one x0 y0 l.2.2 g.2.2⟩
theorem g3_pos {X : V3} (h : X ≠ v0) : 0 < g3 X := by
  unfold g3
  refine Nat.pos_of_ne_zero (fun q => ?_)
  have a := Nat.gcd_eq_zero_iff.mp q
  have b := Nat.gcd_eq_zero_iff.mp a.1
  exact h (v3_0.mpr ⟨Int.natAbs_eq_zero.mp b.1, Int.natAbs_eq_zero.mp b.2, Int.natAbs_eq_zero.mp a.2⟩)
theorem sgV_nz {X : V3} (h : X ≠ v0) : sgV X ≠ 0 := by
  have := g3_pos h
  unfold sgV
  split <;> omega
theorem sgV_dvd {X : V3} : sgV X ∣ X.1 ∧ sgV X ∣ X.2.1 ∧ sgV X ∣ X.2.2 := by
  have d1 : (g3 X : Int) ∣ X.1 := Int.ofNat_dvd_left.mpr (Nat.dvd_trans (Nat.gcd_dvd_left _ _) (Nat.gcd_dvd_left _ _))
  have d2 : (g3 X : Int) ∣ X.2.1 := Int.ofNat_dvd_left.mpr (Nat.dvd_trans (Nat.gcd_dvd_left _ _) (Nat.gcd_dvd_right _ _))
  have d3 : (g3 X : Int) ∣ X.2.2 := Int.ofNat_dvd_left.mpr (Nat.gcd_dvd_right _ _)
  unfold sgV
  split
  · exact ⟨Int.neg_dvd.mpr d1, Int.neg_dvd.mpr d2, Int.neg_dvd.mpr d3⟩
  · exact ⟨d1, d2, d3⟩
theorem quo_eq {x y s t : Int} (hs : s ≠ 0) (ht : t ≠ 0) (h : x * t = y * s) (d1 : s ∣ x) (d2 : t ∣ y) : x / s = y / t := by
  obtain ⟨a, rfl⟩ := d1
  obtain ⟨b, rfl⟩ := d2
  rw [Int.mul_ediv_cancel_left _ hs, Int.mul_ediv_cancel_left _ ht]
  have e : (s * t) * a = (s * t) * b := by grind
  exact Int.eq_of_mul_eq_mul_left (Int.mul_ne_zero hs ht) e
theorem div_E {x s : Int64} {z t b : Int} (hx : eI x z b) (hb : b < 9223372036854775808) (hs : s.toInt = t) (hd : t ∣ z) : (x / s).toInt = z / t := by
  have e := Int.natAbs_tdiv_le_natAbs z t
  rw [Int64.toInt_div, hx.1, hs, Int.bmod_eq_of_le (by have := hx.2; omega) (by have := hx.2; omega)]
  exact Int.tdiv_eq_ediv_of_dvd hd
