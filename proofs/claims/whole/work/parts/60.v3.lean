/-! ===== mathematics: three numbers ===== -/
abbrev V3 : Type := Int × Int × Int
def vd (a b : V3) : Int := a.1 * b.1 + a.2.1 * b.2.1 + a.2.2 * b.2.2
def vc (a b : V3) : V3 := (a.2.1 * b.2.2 - a.2.2 * b.2.1, a.2.2 * b.1 - a.1 * b.2.2, a.1 * b.2.1 - a.2.1 * b.1)
def v0 : V3 := (0, 0, 0)
def vn (a : V3) : V3 := (-a.1, -a.2.1, -a.2.2)
theorem v3_ext {a b : V3} (h1 : a.1 = b.1) (h2 : a.2.1 = b.2.1) (h3 : a.2.2 = b.2.2) : a = b := Prod.ext h1 (Prod.ext h2 h3)
theorem v3_0 {a : V3} : a = v0 ↔ a.1 = 0 ∧ a.2.1 = 0 ∧ a.2.2 = 0 := ⟨fun h => by rw [h]; exact ⟨rfl, rfl, rfl⟩, fun h => v3_ext h.1 h.2.1 h.2.2⟩
theorem v3_ne {a : V3} (h : a ≠ v0) : a.1 ≠ 0 ∨ a.2.1 ≠ 0 ∨ a.2.2 ≠ 0 := by
  refine Classical.byContradiction (fun q => h (v3_0.mpr ⟨?_, ?_, ?_⟩))
  · exact Classical.byContradiction fun z => q (Or.inl z)
  · exact Classical.byContradiction fun z => q (Or.inr (Or.inl z))
  · exact Classical.byContradiction fun z => q (Or.inr (Or.inr z))
theorem sq_pos {x : Int} (h : x ≠ 0) : 0 < x * x := by
  rcases Int.lt_or_gt_of_ne h with h | h
  · exact Int.mul_pos_of_neg_of_neg h h
  · exact Int.mul_pos h h
theorem sq_nn (x : Int) : 0 ≤ x * x := by
  by_cases h : x = 0
  · rw [h]; decide
  · exact Int.le_of_lt (sq_pos h)
theorem vd_pos {a : V3} (h : a ≠ v0) : 0 < vd a a := by
  unfold vd
  have h1 := sq_nn a.1
  have h2 := sq_nn a.2.1
  have h3 := sq_nn a.2.2
  rcases v3_ne h with q | q | q
  · have := sq_pos q; omega
  · have := sq_pos q; omega
  · have := sq_pos q; omega
theorem vd_comm (a b : V3) : vd a b = vd b a := by unfold vd; grind
theorem vd_n (a b : V3) : vd (vn a) b = -vd a b := by unfold vd vn; grind
theorem vc_anti (a b : V3) : vc a b = vn (vc b a) := by
  unfold vc vn
  exact v3_ext (by grind) (by grind) (by grind)
theorem vn_ne {a : V3} (h : a ≠ v0) : vn a ≠ v0 := by
  intro q
  have e := v3_0.mp q
  simp only [vn] at e
  exact h (v3_0.mpr ⟨by have := e.1; omega, by have := e.2.1; omega, by have := e.2.2; omega⟩)
theorem vc_l (a b : V3) : vd (vc a b) a = 0 := by unfold vd vc; grind
theorem vc_r (a b : V3) : vd (vc a b) b = 0 := by unfold vd vc; grind
theorem vc_self (a : V3) : vc a a = v0 := v3_ext (by unfold vc v0; grind) (by unfold vc v0; grind) (by unfold vc v0; grind)
theorem vc_sw {a b : V3} (h : vc a b ≠ v0) : vc b a ≠ v0 := by
  rw [vc_anti b a]
  exact vn_ne h
/-- both along a third that isn't 0: along each other -/
theorem par_tr {a b n : V3} (h1 : vc a n = v0) (h2 : vc b n = v0) (hn : n ≠ v0) : vc a b = v0 := by
  have a1 := v3_0.mp h1
  have b1 := v3_0.mp h2
  unfold vc at a1 b1
  obtain ⟨p1, p2, p3⟩ := a1
  obtain ⟨r1, r2, r3⟩ := b1
  obtain ⟨x1, x2, x3⟩ := a
  obtain ⟨y1, y2, y3⟩ := b
  obtain ⟨z1, z2, z3⟩ := n
  simp only at p1 p2 p3 r1 r2 r3
  have key : ∀ z u : Int, z ≠ 0 → z * u = 0 → u = 0 := fun z u hz h => (Int.mul_eq_zero.mp h).resolve_left hz
  refine v3_0.mpr ⟨?_, ?_, ?_⟩ <;> simp only [vc]
  · rcases v3_ne hn with q | q | q <;> simp only at q <;> exact key _ _ q (by grind)
  · rcases v3_ne hn with q | q | q <;> simp only at q <;> exact key _ _ q (by grind)
  · rcases v3_ne hn with q | q | q <;> simp only at q <;> exact key _ _ q (by grind)
/-- across both: along the cross -/
theorem par_of {a n m : V3} (h1 : vd a n = 0) (h2 : vd a m = 0) : vc a (vc n m) = v0 := by
  unfold vd at h1 h2
  refine v3_0.mpr ⟨?_, ?_, ?_⟩ <;> simp only [vc] <;> grind
theorem par_dot {a n g : V3} (h : vc a n = v0) : vd n n * vd a g = vd a n * vd n g := by
  have p := v3_0.mp h
  unfold vc at p
  unfold vd
  grind
/-- not 0, along each other: the product isn't 0 -/
theorem par_nz {a n : V3} (h : vc a n = v0) (ha : a ≠ v0) (hn : n ≠ v0) : vd a n ≠ 0 := by
  intro q
  have h1 := par_dot (g := a) h
  rw [q, Int.zero_mul] at h1
  rcases Int.mul_eq_zero.mp h1 with z | z
  · have := vd_pos hn; omega
  · have := vd_pos ha; omega
theorem det_dep {a b c w : V3} (hw : w ≠ v0) (h1 : vd a w = 0) (h2 : vd b w = 0) (h3 : vd c w = 0) : vd (vc a b) c = 0 := by
  have k1 : vd (vc a b) c * w.1 = 0 := by unfold vd vc at *; grind
  have k2 : vd (vc a b) c * w.2.1 = 0 := by unfold vd vc at *; grind
  have k3 : vd (vc a b) c * w.2.2 = 0 := by unfold vd vc at *; grind
  rcases v3_ne hw with q | q | q
  · exact (Int.mul_eq_zero.mp k1).resolve_right q
  · exact (Int.mul_eq_zero.mp k2).resolve_right q
  · exact (Int.mul_eq_zero.mp k3).resolve_right q
theorem four {a b c w g : V3} : vd (vc b c) w * vd a g + vd (vc c a) w * vd b g + vd (vc a b) w * vd c g = vd (vc a b) c * vd w g := by unfold vd vc; grind
theorem det_nz {a b w : V3} (hw : w ≠ v0) (h1 : vd a w = 0) (h2 : vd b w = 0) (h : vc a b ≠ v0) : vd (vc a b) w ≠ 0 := by
  refine par_nz (?_ : vc (vc a b) w = v0) h hw
  rw [vc_anti]
  rw [par_of (a := w) (n := a) (m := b) (by rw [vd_comm]; exact h1) (by rw [vd_comm]; exact h2)]
  rfl
/-- three facets through one generator: there are none -/
theorem facet3_w {n1 n2 n3 w a b : V3} (hw : w ≠ v0) (h1 : vd n1 w = 0) (h2 : vd n2 w = 0) (h3 : vd n3 w = 0) (p12 : vc n1 n2 ≠ v0)
    (A B C : Int) (hA : A ≠ 0) (hB : B ≠ 0) (hC : C ≠ 0) (hz : ∀ g, A * vd n1 g + B * vd n2 g + C * vd n3 g = 0) (sAB : 0 < A * B)
    (ge1 : 0 ≤ vd n1 a) (ge2 : 0 ≤ vd n2 a) (ge3 : vd n3 a = 0) (ge4 : 0 ≤ vd n1 b) (ge5 : 0 ≤ vd n2 b) (ge6 : vd n3 b = 0) : vc a b = v0 := by
  have key : ∀ x y : Int, 0 ≤ x → 0 ≤ y → A * x + B * y = 0 → x = 0 ∧ y = 0 := by
    intro x y hx hy h
    rcases Int.lt_or_gt_of_ne hA with q | q
    · have hb : B < 0 := by
        rcases Int.lt_or_gt_of_ne hB with z | z
        · exact z
        · have := Int.mul_neg_of_neg_of_pos q z; omega
      have u := Int.mul_nonpos_of_nonpos_of_nonneg (Int.le_of_lt q) hx
      have v := Int.mul_nonpos_of_nonpos_of_nonneg (Int.le_of_lt hb) hy
      have u0 : A * x = 0 := by omega
      have v0 : B * y = 0 := by omega
      exact ⟨(Int.mul_eq_zero.mp u0).resolve_left hA, (Int.mul_eq_zero.mp v0).resolve_left hB⟩
    · have hb : 0 < B := by
        rcases Int.lt_or_gt_of_ne hB with z | z
        · have := Int.mul_neg_of_pos_of_neg q z; omega
        · exact z
      have u := Int.mul_nonneg (Int.le_of_lt q) hx
      have v := Int.mul_nonneg (Int.le_of_lt hb) hy
      have u0 : A * x = 0 := by omega
      have v0 : B * y = 0 := by omega
      exact ⟨(Int.mul_eq_zero.mp u0).resolve_left hA, (Int.mul_eq_zero.mp v0).resolve_left hB⟩
  have ka := key _ _ ge1 ge2 (by have := hz a; rw [ge3, Int.mul_zero] at this; omega)
  have kb := key _ _ ge4 ge5 (by have := hz b; rw [ge6, Int.mul_zero] at this; omega)
  refine par_tr (n := vc n1 n2) ?_ ?_ p12
  · exact par_of (by rw [vd_comm]; exact ka.1) (by rw [vd_comm]; exact ka.2)
  · exact par_of (by rw [vd_comm]; exact kb.1) (by rw [vd_comm]; exact kb.2)
/-- a side of the cone of the rows W -/
def fct (W : Nat → V3) (n : Nat) (N : V3) : Prop := (∀ k, k < n → 0 ≤ vd N (W k)) ∧ (∃ k, k < n ∧ vd N (W k) ≠ 0) ∧ ∃ i j, i < j ∧ j < n ∧ vd N (W i) = 0 ∧ vd N (W j) = 0 ∧ vc (W i) (W j) ≠ v0
theorem facet3 {W : Nat → V3} {n : Nat} {n1 n2 n3 w : V3} (f1 : fct W n n1) (f2 : fct W n n2) (f3 : fct W n n3) (hw : w ≠ v0) (h1 : vd n1 w = 0) (h2 : vd n2 w = 0) (h3 : vd n3 w = 0)
    (p12 : vc n1 n2 ≠ v0) (p23 : vc n2 n3 ≠ v0) (p31 : vc n3 n1 ≠ v0) : False := by
  have hA := det_nz hw h2 h3 p23
  have hB := det_nz hw h3 h1 p31
  have hC := det_nz hw h1 h2 p12
  have hz : ∀ g, vd (vc n2 n3) w * vd n1 g + vd (vc n3 n1) w * vd n2 g + vd (vc n1 n2) w * vd n3 g = 0 := by
    intro g
    rw [four, det_dep hw h1 h2 h3, Int.zero_mul]
  generalize vd (vc n2 n3) w = A at hA hz
  generalize vd (vc n3 n1) w = B at hB hz
  generalize vd (vc n1 n2) w = C at hC hz
  obtain ⟨g1, ⟨k1, hk1, e1⟩, i1, j1, l1, m1, z1, y1, c1⟩ := f1
  obtain ⟨g2, -, i2, j2, l2, m2, z2, y2, c2⟩ := f2
  obtain ⟨g3, -, i3, j3, l3, m3, z3, y3, c3⟩ := f3
  by_cases sAB : 0 < A * B
  · by_cases sC : 0 < A * C
    · have hp := g1 k1 hk1
      have hq := g2 k1 hk1
      have hr := g3 k1 hk1
      have hzz := hz (W k1)
      have t1 : A * (A * vd n1 (W k1) + B * vd n2 (W k1) + C * vd n3 (W k1)) = 0 := by rw [hzz, Int.mul_zero]
      have t2 : A * A * vd n1 (W k1) + A * B * vd n2 (W k1) + A * C * vd n3 (W k1) = 0 := by grind
      have u1 := Int.mul_pos (sq_pos hA) (show 0 < vd n1 (W k1) by omega)
      have u2 := Int.mul_nonneg (Int.le_of_lt sAB) hq
      have u3 := Int.mul_nonneg (Int.le_of_lt sC) hr
      omega
    · exact c3 (facet3_w hw h1 h2 h3 p12 A B C hA hB hC hz sAB (g1 _ (by omega)) (g2 _ (by omega)) z3 (g1 _ (by omega)) (g2 _ (by omega)) y3)
  · have sAB' : A * B < 0 := by
      have : A * B ≠ 0 := Int.mul_ne_zero hA hB
      omega
    by_cases sC : 0 < A * C
    · exact c2 (facet3_w (n1 := n1) (n2 := n3) (n3 := n2) hw h1 h3 h2 (vc_sw p31) A C B hA hC hB (fun g => by have := hz g; omega) sC (g1 _ (by omega)) (g3 _ (by omega)) z2 (g1 _ (by omega)) (g3 _ (by omega)) y2)
    · have sC' : A * C < 0 := by
        have : A * C ≠ 0 := Int.mul_ne_zero hA hC
        omega
      have sBC : 0 < B * C := by
        have h := Int.mul_pos_of_neg_of_neg sAB' sC'
        have e : A * B * (A * C) = A * A * (B * C) := by grind
        rw [e] at h
        have hs := sq_pos hA
        refine Classical.byContradiction (fun q => ?_)
        have := Int.mul_nonpos_of_nonneg_of_nonpos (Int.le_of_lt hs) (show B * C ≤ 0 by omega)
        omega
      exact c1 (facet3_w (n1 := n2) (n2 := n3) (n3 := n1) hw h2 h3 h1 p23 B C A hB hC hA (fun g => by have := hz g; omega) sBC (g2 _ (by omega)) (g3 _ (by omega)) z1 (g2 _ (by omega)) (g3 _ (by omega)) y1)
/-! sums -/
def smN (f : Nat → Nat) : Nat → Nat
  | 0 => 0
  | n + 1 => smN f n + f n
theorem smN_le {f g : Nat → Nat} : ∀ n, (∀ k, k < n → f k ≤ g k) → smN f n ≤ smN g n
  | 0, _ => Nat.le_refl _
  | n + 1, h => by
    have h1 := smN_le n (fun k hk => h k (by omega))
    have h2 := h n (by omega)
    show smN f n + f n ≤ smN g n + g n
    omega
theorem smN_add {f g : Nat → Nat} : ∀ n, smN (fun k => f k + g k) n = smN f n + smN g n
  | 0 => rfl
  | n + 1 => by
    have h1 := smN_add (f := f) (g := g) n
    show smN (fun k => f k + g k) n + (f n + g n) = (smN f n + f n) + (smN g n + g n)
    omega
theorem smN_c (c : Nat) : ∀ n, smN (fun _ => c) n = n * c
  | 0 => by rw [Nat.zero_mul]; rfl
  | n + 1 => by
    show smN (fun _ => c) n + c = _
    rw [smN_c c n, Nat.succ_mul]
theorem smN_sw {f : Nat → Nat → Nat} (m : Nat) : ∀ n, smN (fun k => smN (f k) m) n = smN (fun i => smN (fun k => f k i) n) m
  | 0 => by
    show 0 = smN (fun i => 0) m
    rw [smN_c, Nat.mul_zero]
  | n + 1 => by
    show smN (fun k => smN (f k) m) n + smN (f n) m = smN (fun i => smN (fun k => f k i) n + f n i) m
    rw [smN_sw m n, ← smN_add]
theorem smN_1 {f : Nat → Nat} : ∀ n, 1 ≤ smN f n → ∃ k, k < n ∧ f k ≠ 0
  | 0, h => absurd (show 1 ≤ 0 from h) (by decide)
  | n + 1, h => by
    by_cases q : f n = 0
    · have h' : 1 ≤ smN f n + f n := h
      rw [q] at h'
      obtain ⟨k, hk, e⟩ := smN_1 (f := f) n (by omega)
      exact ⟨k, by omega, e⟩
    · exact ⟨n, by omega, q⟩
theorem smN_2 {f : Nat → Nat} (hf : ∀ k, f k ≤ 1) : ∀ n, 2 ≤ smN f n → ∃ k l, k < l ∧ l < n ∧ f k ≠ 0 ∧ f l ≠ 0
  | 0, h => absurd (show 2 ≤ 0 from h) (by decide)
  | n + 1, h => by
    have h' : 2 ≤ smN f n + f n := h
    by_cases q : f n = 0
    · obtain ⟨k, l, h1, h2, h3⟩ := smN_2 hf n (by omega)
      exact ⟨k, l, h1, by omega, h3⟩
    · have := hf n
      obtain ⟨k, hk, e⟩ := smN_1 n (show 1 ≤ smN f n by omega)
      exact ⟨k, n, hk, by omega, e, q⟩
theorem smN_3 {f : Nat → Nat} (hf : ∀ k, f k ≤ 1) : ∀ n, 3 ≤ smN f n → ∃ k l m, k < l ∧ l < m ∧ m < n ∧ f k ≠ 0 ∧ f l ≠ 0 ∧ f m ≠ 0
  | 0, h => absurd (show 3 ≤ 0 from h) (by decide)
  | n + 1, h => by
    have h' : 3 ≤ smN f n + f n := h
    by_cases q : f n = 0
    · obtain ⟨k, l, m, h1, h2, h3, h4⟩ := smN_3 hf n (by omega)
      exact ⟨k, l, m, h1, h2, by omega, h4⟩
    · have := hf n
      obtain ⟨k, l, hk, hl, e1, e2⟩ := smN_2 hf n (show 2 ≤ smN f n by omega)
      exact ⟨k, l, n, hk, hl, by omega, e1, e2, q⟩
theorem smN_g1 {f : Nat → Nat} {k : Nat} (h : f k = 1) : ∀ n, k < n → 1 ≤ smN f n
  | 0, hk => by omega
  | n + 1, hk => by
    show 1 ≤ smN f n + f n
    by_cases q : k = n
    · rw [← q, h]; omega
    · have := smN_g1 h n (by omega); omega
theorem smN_g2 {f : Nat → Nat} {k l : Nat} (hkl : k < l) (h : f k = 1) (h2 : f l = 1) : ∀ n, l < n → 2 ≤ smN f n
  | 0, hk => by omega
  | n + 1, hk => by
    show 2 ≤ smN f n + f n
    by_cases q : l = n
    · have := smN_g1 h n (by omega)
      rw [← q, h2]
      rw [← q] at this
      omega
    · have := smN_g2 hkl h h2 n (by omega); omega
/-- sides are at most as many as rows -/
theorem fct_count {W : Nat → V3} {n F : Nat} {N : Nat → V3} (hW : ∀ k, k < n → W k ≠ v0) (hf : ∀ k, k < F → fct W n (N k)) (hp : ∀ k l, k < l → l < F → vc (N k) (N l) ≠ v0) : F ≤ n := by
  have d : ∀ k i, (if vd (N k) (W i) = 0 then 1 else 0 : Nat) ≤ 1 := fun k i => by split <;> omega
  have r : smN (fun _ => 2) F ≤ smN (fun k => smN (fun i => if vd (N k) (W i) = 0 then 1 else 0) n) F := by
    refine smN_le F (fun k hk => ?_)
    obtain ⟨-, -, i, j, h1, h2, h3, h4, -⟩ := hf k hk
    exact smN_g2 (f := fun i => if vd (N k) (W i) = 0 then 1 else 0) h1 (if_pos h3) (if_pos h4) n h2
  have c : smN (fun i => smN (fun k => if vd (N k) (W i) = 0 then 1 else 0) F) n ≤ smN (fun _ => 2) n := by
    refine smN_le n (fun i hi => Classical.byContradiction (fun q => ?_))
    have q3 : 3 ≤ smN (fun k => if vd (N k) (W i) = 0 then 1 else 0) F := Nat.not_le.mp q
    obtain ⟨k, l, m, h1, h2, h3, e1, e2, e3⟩ := smN_3 (f := fun k => if vd (N k) (W i) = 0 then 1 else 0) (fun k => d k i) F q3
    have g : ∀ x, (if vd (N x) (W i) = 0 then 1 else 0 : Nat) ≠ 0 → vd (N x) (W i) = 0 := fun x hx => Classical.byContradiction (fun z => hx (if_neg z))
    exact facet3 (hf k (by omega)) (hf l (by omega)) (hf m h3) (hW i hi) (g k e1) (g l e2) (g m e3) (hp k l h1 (by omega)) (hp l m h2 h3) (vc_sw (hp k m (by omega) h3))
  rw [smN_sw] at r
  rw [smN_c] at r c
  omega
