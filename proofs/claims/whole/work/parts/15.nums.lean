/-! ===== numbers of loops ===== -/
theorem tn_int {i : Int32} (h : 0 ≤ i) : (i.toNatClampNeg : Int) = i.toInt := by
  have h1 : (0 : Int) ≤ i.toInt := by simpa using Int32.le_iff_toInt_le.mp h
  show ((i.toInt.toNat : Nat) : Int) = i.toInt
  omega
theorem ti_succ {i N : Int32} (h : i < N) : (i + 1).toInt = i.toInt + 1 := by
  have h1 := Int32.lt_iff_toInt_lt.mp h
  have h2 := Int32.toInt_lt N
  have h3 := Int32.le_toInt i
  have h4 := Int32.toInt_add i 1
  rw [h4, show (1 : Int32).toInt = 1 by decide]
  rw [Int.bmod_eq_of_le (by omega) (by omega)]
theorem tn_0 : (0 : Int32).toNatClampNeg = 0 := by decide
theorem tn_succ {i N : Int32} (h0 : 0 ≤ i) (h : i < N) : (i + 1).toNatClampNeg = i.toNatClampNeg + 1 := by
  have h1 := ti_succ h
  have h2 := tn_int h0
  have h3 : (0 : Int32) ≤ i + 1 := by
    rw [Int32.le_iff_toInt_le, h1, Int32.toInt_zero]
    have := Int32.le_iff_toInt_le.mp h0
    rw [Int32.toInt_zero] at this
    omega
  have h4 := tn_int h3
  omega
theorem tn_lt {i N : Int32} (h0 : 0 ≤ i) (h : i < N) : i.toNatClampNeg < N.toNatClampNeg := by
  have h1 := Int32.lt_iff_toInt_lt.mp h
  have h2 := tn_int h0
  have h3 : (0 : Int32) ≤ N := by
    rw [Int32.le_iff_toInt_le] at h0 ⊢
    omega
  have h4 := tn_int h3
  omega
theorem tn_le {i N : Int32} (h0 : 0 ≤ i) (h : i ≤ N) : i.toNatClampNeg ≤ N.toNatClampNeg := by
  have h1 := Int32.le_iff_toInt_le.mp h
  have h2 := tn_int h0
  have h3 : (0 : Int32) ≤ N := by
    rw [Int32.le_iff_toInt_le] at h0 ⊢
    omega
  have h4 := tn_int h3
  omega
/-- a loop's measure falls -/
def tm (N i : Int32) : Nat := (N.toInt - i.toInt).toNat
theorem tm_lt {i N : Int32} (h : i < N) : tm N (i + 1) < tm N i := by
  have h1 := ti_succ h
  have h2 := Int32.lt_iff_toInt_lt.mp h
  unfold tm
  omega
theorem all_0 {P : Nat → Prop} : ∀ x, x < (0 : Int32).toNatClampNeg → P x := fun x h => by rw [tn_0] at h; omega
theorem all_succ {i N : Int32} (h0 : 0 ≤ i) (h : i < N) {P : Nat → Prop} (ha : ∀ x, x < i.toNatClampNeg → P x) (hi : P i.toNatClampNeg) : ∀ x, x < (i + 1).toNatClampNeg → P x := by
  intro x hx
  rw [tn_succ h0 h] at hx
  by_cases hxe : x = i.toNatClampNeg
  · rw [hxe]; exact hi
  · exact ha x (by omega)
theorem le_succ {i N : Int32} (h0 : 0 ≤ i) (h : i < N) : 0 ≤ i + 1 ∧ i + 1 ≤ N := by grind
theorem eq_end {i N : Int32} (h : i ≤ N) (h2 : ¬ i < N) : i = N := by grind
theorem vpN {i N : Int32} {n : Nat} (h0 : 0 ≤ i) (h1 : i < N) (h2 : N ≤ Int32.ofNat n) (hn : n < 2147483648) : vp_in i n := by
  refine vp32 h0 (N := Int32.ofNat n) (by grind) ?_
  exact nI_toInt (by omega)
