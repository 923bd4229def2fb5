/-! ===== bits; what a set-up does ===== -/
theorem nn_l31 {a : Int32} : 0 ≤ a ↔ a.toBitVec.toNat < 2147483648 := by
  rw [Int32.le_iff_toInt_le, Int32.toInt_zero, show a.toInt = a.toBitVec.toInt from rfl, BitVec.toInt_eq_toNat_cond]
  have := a.toBitVec.isLt
  split <;> omega
theorem or_tn {a b : Int32} (ha : 0 ≤ a) (hb : 0 ≤ b) : 0 ≤ a ||| b ∧ (a ||| b).toNatClampNeg = a.toNatClampNeg ||| b.toNatClampNeg := by
  have h : (a ||| b).toBitVec.toNat = a.toBitVec.toNat ||| b.toBitVec.toNat := by rw [Int32.toBitVec_or, BitVec.toNat_or]
  have h0 : 0 ≤ a ||| b := by
    rw [nn_l31, h]
    exact Nat.or_lt_two_pow (n := 31) (nn_l31.mp ha) (nn_l31.mp hb)
  exact ⟨h0, by rw [← Int32.toNat_toBitVec_of_le h0, h, Int32.toNat_toBitVec_of_le ha, Int32.toNat_toBitVec_of_le hb]⟩
theorem sh_tn : ∀ s : Nat, s < 16 → 0 ≤ (1 : Int32) <<< (Int32.ofNat s &&& 31) ∧ ((1 : Int32) <<< (Int32.ofNat s &&& 31)).toNatClampNeg = 2 ^ s := by decide
theorem and_c {a d : Int32} (ha : 0 ≤ a) (hd : 0 ≤ d) : (a &&& (d ^^^ (-1))) = 0 ↔ ∀ t, a.toNatClampNeg.testBit t = true → d.toNatClampNeg.testBit t = true := by
  rw [← Int32.toBitVec_inj, Int32.toBitVec_and, Int32.toBitVec_xor, ← Int32.toNat_toBitVec_of_le ha, ← Int32.toNat_toBitVec_of_le hd, show (-1 : Int32).toBitVec = BitVec.allOnes 32 by decide, show (0 : Int32).toBitVec = 0#32 by decide]
  generalize a.toBitVec = x
  generalize d.toBitVec = y
  constructor
  · intro h t ht
    have e := congrArg (fun z => z.getLsbD t) h
    simp only [BitVec.getLsbD_and, BitVec.getLsbD_xor, BitVec.getLsbD_allOnes, BitVec.getLsbD_zero] at e
    have hx : x.getLsbD t = true := ht
    have hl : t < 32 := BitVec.lt_of_getLsbD hx
    rw [hx] at e
    simp [hl] at e
    exact e
  · intro h
    refine BitVec.eq_of_getLsbD_eq (fun t ht => ?_)
    simp only [BitVec.getLsbD_and, BitVec.getLsbD_xor, BitVec.getLsbD_allOnes, BitVec.getLsbD_zero]
    by_cases q : x.getLsbD t = true
    · have := h t q
      have hy : y.getLsbD t = true := this
      rw [q, hy]
      simp [ht]
    · simp at q
      rw [q]
      rfl
theorem and1 (x : Int32) : (x &&& 1) = 0 ∨ (x &&& 1) = 1 := by
  have h : (x &&& 1).toBitVec.toNat = x.toBitVec.toNat % 2 := by
    rw [Int32.toBitVec_and, BitVec.toNat_and, show (1 : Int32).toBitVec.toNat = 1 by decide, Nat.and_one_is_mod]
  have : x.toBitVec.toNat % 2 = 0 ∨ x.toBitVec.toNat % 2 = 1 := by omega
  rcases this with q | q
  · refine Or.inl (Int32.toBitVec_inj.mp (BitVec.eq_of_toNat_eq ?_))
    rw [h, q]; rfl
  · refine Or.inr (Int32.toBitVec_inj.mp (BitVec.eq_of_toNat_eq ?_))
    rw [h, q]; rfl
theorem side_on : ∀ x : Nat, x < 64 → 1 ≤ x → ∃ s : Nat, s < 6 ∧ ((Int32.ofNat x >>> (Int32.ofNat s &&& 31)) &&& 1) = 1 := by decide
/-- what a side does, by rows of sides and of what must be ahead -/
def gwS (S A : Nat → Int32) (side : Int32) (s : Nat) (d : Int32) : Int32 := if ((S s >>> (side &&& 31)) &&& 1) = 1 ∧ (A s &&& (d ^^^ (-1))) = 0 then d ||| (1 <<< (Int32.ofNat s &&& 31)) else d
def GW (S A : Nat → Int32) (n : Nat) (d side : Int32) : Int32 := itI (gwS S A side) n d
def stOK (S A : Nat → Int32) (n : Nat) : Prop := n ≤ 12 ∧ ∀ s, s < n → (1 ≤ S s ∧ S s ≤ 63) ∧ 0 ≤ A s ∧ (A s).toNatClampNeg < 2 ^ s
def sub (a b : Nat) : Prop := ∀ t, a.testBit t = true → b.testBit t = true
theorem sub_le {a b : Nat} (h : sub a b) : a ≤ b := by
  have e : a &&& b = a := by
    refine Nat.eq_of_testBit_eq (fun t => ?_)
    rw [Nat.testBit_and]
    by_cases q : a.testBit t = true
    · rw [q, h t q]; rfl
    · simp at q; rw [q]; rfl
  rw [← e]
  exact Nat.and_le_right
theorem gw_pre {S A : Nat → Int32} {n : Nat} {side d : Int32} (h : stOK S A n) (h0 : 0 ≤ d) (hd : d.toNatClampNeg < 2 ^ n) : ∀ m, m ≤ n → 0 ≤ itI (gwS S A side) m d ∧ (itI (gwS S A side) m d).toNatClampNeg < 2 ^ n ∧ sub d.toNatClampNeg (itI (gwS S A side) m d).toNatClampNeg
  | 0, _ => ⟨h0, hd, fun _ q => q⟩
  | m + 1, hm => by
    have ih := gw_pre (side := side) h h0 hd m (by omega)
    show 0 ≤ gwS S A side m (itI (gwS S A side) m d) ∧ (gwS S A side m (itI (gwS S A side) m d)).toNatClampNeg < 2 ^ n ∧ sub d.toNatClampNeg (gwS S A side m (itI (gwS S A side) m d)).toNatClampNeg
    generalize itI (gwS S A side) m d = c at ih
    unfold gwS
    split
    · have k := sh_tn m (by have := h.1; omega)
      have o := or_tn ih.1 k.1
      refine ⟨o.1, ?_, ?_⟩
      · rw [o.2, k.2]
        exact Nat.or_lt_two_pow ih.2.1 (Nat.pow_lt_pow_right (by decide) (by omega))
      · intro t q
        rw [o.2, Nat.testBit_or, ih.2.2 t q]
        rfl
    · exact ih
theorem GW_ok {S A : Nat → Int32} {n : Nat} {side d : Int32} (h : stOK S A n) (h0 : 0 ≤ d) (hd : d.toNatClampNeg < 2 ^ n) : 0 ≤ GW S A n d side ∧ (GW S A n d side).toNatClampNeg < 2 ^ n ∧ sub d.toNatClampNeg (GW S A n d side).toNatClampNeg := gw_pre h h0 hd n (Nat.le_refl _)
theorem gw_mono {S A : Nat → Int32} {n : Nat} {side d : Int32} (h : stOK S A n) (h0 : 0 ≤ d) (hd : d.toNatClampNeg < 2 ^ n) {k : Nat} : ∀ m, k ≤ m → m ≤ n → sub (itI (gwS S A side) k d).toNatClampNeg (itI (gwS S A side) m d).toNatClampNeg
  | 0, hk, _ => by rw [show k = 0 by omega]; exact fun _ q => q
  | m + 1, hk, hm => by
    by_cases e : k = m + 1
    · rw [e]; exact fun _ q => q
    · have ih := gw_mono (side := side) h h0 hd (k := k) m (by omega) (by omega)
      have pr := gw_pre (side := side) h h0 hd m (by omega)
      intro t q
      have q2 := ih t q
      show (gwS S A side m (itI (gwS S A side) m d)).toNatClampNeg.testBit t = true
      generalize itI (gwS S A side) m d = c at q2 pr
      unfold gwS
      split
      · have kk := sh_tn m (by have := h.1; omega)
        rw [(or_tn pr.1 kk.1).2, Nat.testBit_or, q2]
        rfl
      · exact q2
theorem low_miss : ∀ (n d : Nat), d < 2 ^ n → d ≠ 2 ^ n - 1 → ∃ s, s < n ∧ d.testBit s = false ∧ ∀ t, t < s → d.testBit t = true := by
  intro n d hd hne
  have ex : ∃ s, s < n ∧ d.testBit s = false := by
    refine Classical.byContradiction (fun q => hne ?_)
    refine Nat.eq_of_testBit_eq (fun t => ?_)
    rw [Nat.testBit_two_pow_sub_one]
    by_cases ht : t < n
    · simp only [ht, decide_true]
      refine Classical.byContradiction (fun z => q ⟨t, ht, by simpa using z⟩)
    · simp only [ht, decide_false]
      exact Nat.testBit_lt_two_pow (Nat.lt_of_lt_of_le hd (Nat.pow_le_pow_right (by decide) (by omega)))
  have key : ∀ m, (∃ s, s < m ∧ s < n ∧ d.testBit s = false) → ∃ s, s < n ∧ d.testBit s = false ∧ ∀ t, t < s → d.testBit t = true := by
    intro m
    induction m with
    | zero => rintro ⟨s, h, -⟩; omega
    | succ m ih =>
      rintro ⟨s, h1, h2, h3⟩
      by_cases q : ∃ s, s < m ∧ s < n ∧ d.testBit s = false
      · exact ih q
      · have e : s = m := by
          refine Classical.byContradiction (fun z => q ⟨s, by omega, h2, h3⟩)
        refine ⟨s, h2, h3, fun t ht => ?_⟩
        refine Classical.byContradiction (fun z => q ⟨t, by omega, by omega, by simpa using z⟩)
  obtain ⟨s, h1, h2⟩ := ex
  exact key n ⟨s, h1, h1, h2⟩
theorem GW_on {S A : Nat → Int32} {n : Nat} {d : Int32} (h : stOK S A n) (h0 : 0 ≤ d) (hd : d.toNatClampNeg < 2 ^ n) (hne : d.toNatClampNeg ≠ 2 ^ n - 1) : ∃ side : Int32, (0 ≤ side ∧ side < 6) ∧ GW S A n d side ≠ d := by
  obtain ⟨s, hs, hb, hl⟩ := low_miss n _ hd hne
  obtain ⟨⟨a1, a2⟩, a3, a4⟩ := h.2 s hs
  have hS0 : 0 ≤ S s := by grind
  have hSn : (S s).toNatClampNeg < 64 ∧ 1 ≤ (S s).toNatClampNeg := by
    have u := tn_int hS0
    have v1 := Int32.le_iff_toInt_le.mp a1
    have v2 := Int32.le_iff_toInt_le.mp a2
    rw [show (1 : Int32).toInt = 1 by decide] at v1
    rw [show (63 : Int32).toInt = 63 by decide] at v2
    omega
  obtain ⟨x, hx, hq⟩ := side_on _ hSn.1 hSn.2
  rw [nI_tn hS0] at hq
  refine ⟨Int32.ofNat x, ofN6 x hx, fun e => ?_⟩
  have pr := gw_pre (side := Int32.ofNat x) h h0 hd s (by omega)
  have hmo := gw_mono (side := Int32.ofNat x) h h0 hd (k := s + 1) n (by omega) (Nat.le_refl _)
  have hbit : (itI (gwS S A (Int32.ofNat x)) (s + 1) d).toNatClampNeg.testBit s = true := by
    show (gwS S A (Int32.ofNat x) s (itI (gwS S A (Int32.ofNat x)) s d)).toNatClampNeg.testBit s = true
    generalize itI (gwS S A (Int32.ofNat x)) s d = c at pr
    have hsub : (A s &&& (c ^^^ (-1))) = 0 := by
      refine (and_c a3 pr.1).mpr (fun t ht => ?_)
      have hts : t < s := by
        refine Classical.byContradiction (fun z => ?_)
        rw [Nat.testBit_lt_two_pow (Nat.lt_of_lt_of_le a4 (Nat.pow_le_pow_right (by decide) (by omega)))] at ht
        exact absurd ht (by decide)
      exact pr.2.2 t (hl t hts)
    unfold gwS
    rw [if_pos ⟨hq, hsub⟩]
    have kk := sh_tn s (by have := h.1; omega)
    rw [(or_tn pr.1 kk.1).2, Nat.testBit_or, kk.2, Nat.testBit_two_pow_self]
    simp
  have := hmo s hbit
  rw [show itI (gwS S A (Int32.ofNat x)) n d = d from e, hb] at this
  exact absurd this (by decide)
/-- steps still to do -/
def msN (n d : Nat) : Nat := smN (fun t => if d.testBit t = true then 0 else 1) n
theorem msN_le (n d : Nat) : msN n d ≤ n := by
  have := smN_le (f := fun t => if d.testBit t = true then 0 else 1) (g := fun _ => 1) n (fun k _ => by split <;> omega)
  rw [smN_c] at this
  unfold msN
  omega
theorem smN_lt {f g : Nat → Nat} {k : Nat} : ∀ n, (∀ j, j < n → f j ≤ g j) → k < n → f k < g k → smN f n < smN g n
  | 0, _, hk, _ => by omega
  | n + 1, h, hk, hl => by
    show smN f n + f n < smN g n + g n
    by_cases e : k = n
    · have h1 := smN_le (f := f) (g := g) n (fun j hj => h j (by omega))
      rw [← e]
      rw [← e] at h1
      omega
    · have h1 := smN_lt (f := f) (g := g) n (fun j hj => h j (by omega)) (by omega) hl
      have h2 := h n (by omega)
      omega
theorem msN_lt {n a b : Nat} (h : sub a b) (hb : b < 2 ^ n) (hne : a ≠ b) : msN n b < msN n a := by
  have ex : ∃ t, a.testBit t = false ∧ b.testBit t = true := by
    refine Classical.byContradiction (fun q => hne (Nat.eq_of_testBit_eq (fun t => ?_)))
    by_cases z : a.testBit t = true
    · rw [z, h t z]
    · simp at z
      by_cases y : b.testBit t = true
      · exact absurd ⟨t, z, y⟩ q
      · simp at y; rw [z, y]
  obtain ⟨t, h1, h2⟩ := ex
  have ht : t < n := by
    refine Classical.byContradiction (fun z => ?_)
    rw [Nat.testBit_lt_two_pow (Nat.lt_of_lt_of_le hb (Nat.pow_le_pow_right (by decide) (by omega)))] at h2
    exact absurd h2 (by decide)
  unfold msN
  refine smN_lt (k := t) n (fun j _ => ?_) ht ?_
  · by_cases z : a.testBit j = true
    · rw [if_pos z, if_pos (h j z)]; exact Nat.le_refl _
    · rw [if_neg z]; split <;> omega
  · rw [if_pos h2, if_neg (by rw [h1]; decide)]
    decide
