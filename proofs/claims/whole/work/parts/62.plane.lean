/-! ===== mathematics: cones of rank 2 and less ===== -/
def alR (g w : V3) : Prop := vc g w = v0 ∧ 0 < vd g w
def btR (a b g : V3) : Prop := vd (vc a b) g = 0 ∧ 0 ≤ vd (vc a b) (vc g b) ∧ 0 ≤ vd (vc a b) (vc a g)
def refIn (W : Nat → V3) (n : Nat) (g : V3) : Prop := g = v0 ∨ ∃ i, i < n ∧ (alR g (W i) ∨ ∃ j, j < i ∧ vc (W i) (W j) ≠ v0 ∧ btR (W i) (W j) g)
def br (N a b : V3) : Int := vd N (vc a b)
theorem br_sw (N a b : V3) : br N a b = -br N b a := by unfold br vd vc; grind
theorem br_n (N a b : V3) : br (vn N) a b = -br N a b := by unfold br vd vc vn; grind
theorem br_l (N a b : V3) : vd (vc N a) b = br N a b := by unfold br vd vc; grind
theorem br_x (N a b : V3) : br N a b = vd b (vc N a) := by unfold br vd vc; grind
theorem plk (N a b c u : V3) : br N a c * br N b u = br N a b * br N c u + br N b c * br N a u := by unfold br vd vc; grind
theorem btR_sw {a b g : V3} (h : btR a b g) : btR b a g := by
  obtain ⟨h1, h2, h3⟩ := h
  refine ⟨?_, ?_, ?_⟩
  · rw [vc_anti, vd_n, h1]; rfl
  · rw [vc_anti b a, vd_n]
    have e : vd (vc a b) (vc g a) = -vd (vc a b) (vc a g) := by unfold vd vc; grind
    rw [e]
    omega
  · rw [vc_anti b a, vd_n]
    have e : vd (vc a b) (vc b g) = -vd (vc a b) (vc g b) := by unfold vd vc; grind
    rw [e]
    omega
theorem nonneg_of_mul {a b : Int} (ha : 0 < a) (h : 0 ≤ b * a) : 0 ≤ b := by
  refine Classical.byContradiction (fun q => ?_)
  have := Int.mul_neg_of_neg_of_pos (show b < 0 by omega) ha
  omega
theorem nearest {W : Nat → V3} {N g : V3} : ∀ m, (∃ i, i < m ∧ 0 < br N (W i) g) → ∃ i, i < m ∧ 0 < br N (W i) g ∧ ∀ k, k < m → 0 < br N (W k) g → 0 ≤ br N (W k) (W i)
  | 0, ⟨i, hi, _⟩ => absurd hi (Nat.not_lt_zero _)
  | m + 1, ⟨i0, hi0, h0⟩ => by
    have self : ∀ a, br N a a = 0 := fun a => by have := br_sw N a a; omega
    by_cases q : ∃ i, i < m ∧ 0 < br N (W i) g
    · obtain ⟨i, hi, hp, ha⟩ := nearest m q
      by_cases z : 0 < br N (W m) g
      · by_cases y : 0 ≤ br N (W m) (W i)
        · refine ⟨i, by omega, hp, fun k hk hkp => ?_⟩
          by_cases e : k = m
          · rw [e]; exact y
          · exact ha k (by omega) hkp
        · refine ⟨m, by omega, z, fun k hk hkp => ?_⟩
          by_cases e : k = m
          · rw [e, self]; exact Int.le_refl _
          · have h1 := ha k (by omega) hkp
            have h2 : 0 < br N (W i) (W m) := by rw [br_sw]; omega
            have p := plk N (W k) (W i) (W m) g
            have u1 := Int.mul_nonneg h1 (Int.le_of_lt z)
            have u2 := Int.mul_pos h2 hkp
            exact nonneg_of_mul hp (by omega)
      · refine ⟨i, by omega, hp, fun k hk hkp => ?_⟩
        by_cases e : k = m
        · rw [e] at hkp; exact absurd hkp z
        · exact ha k (by omega) hkp
    · have e0 : i0 = m := by
        refine Classical.byContradiction (fun z => q ⟨i0, by omega, h0⟩)
      rw [e0] at h0
      refine ⟨m, by omega, h0, fun k hk hkp => ?_⟩
      by_cases e : k = m
      · rw [e, self]; exact Int.le_refl _
      · exact absurd ⟨k, by omega, hkp⟩ q
/-- in one plane, not along: then the bracket tells -/
theorem br_par {N a b : V3} (hN : N ≠ v0) (ha : vd N a = 0) (hb : vd N b = 0) (h : br N a b = 0) : vc a b = v0 := by
  refine Classical.byContradiction (fun q => ?_)
  have hp : vc N (vc a b) = v0 := par_of ha hb
  exact par_nz hp hN q h
theorem onward {W : Nat → V3} {n : Nat} {N g : V3} (hN : N ≠ v0) (hW : ∀ k, k < n → W k ≠ v0) (hp : ∀ k, k < n → vd N (W k) = 0) (hg : vd N g = 0) (hg0 : g ≠ v0) (hno : ¬ refIn W n g) (he : ∃ i, i < n ∧ 0 < br N (W i) g) :
    ∃ i, i < n ∧ 0 < br N (W i) g ∧ ∀ k, k < n → br N (W i) (W k) ≤ 0 := by
  obtain ⟨i, hi, hip, hia⟩ := nearest n he
  refine ⟨i, hi, hip, fun k hk => ?_⟩
  rcases Int.lt_trichotomy (br N (W k) g) 0 with q | q | q
  · refine Classical.byContradiction (fun z => hno (Or.inr ?_))
    have zp : 0 < br N (W i) (W k) := by omega
    have hne : vc (W i) (W k) ≠ v0 := by
      intro y
      unfold br at zp
      rw [y] at zp
      exact absurd zp (by unfold vd v0; simp)
    have hcp : vc (vc (W i) (W k)) N = v0 := by rw [vc_anti, par_of (hp i hi) (hp k hk)]; rfl
    have hd : 0 < vd (vc (W i) (W k)) N := by rw [vd_comm]; exact zp
    have hnn := vd_pos hN
    have tr : ∀ X, 0 ≤ vd N X → 0 ≤ vd (vc (W i) (W k)) X := fun X hX => sgn_of hd hnn (par_dot hcp).symm hX
    have bt : btR (W i) (W k) g := by
      refine ⟨?_, tr _ ?_, tr _ (Int.le_of_lt hip)⟩
      · have e := par_dot (g := g) hcp
        rw [hg, Int.mul_zero] at e
        exact (Int.mul_eq_zero.mp e).resolve_left (by omega)
      · have e : vd N (vc g (W k)) = -br N (W k) g := br_sw N g (W k)
        rw [e]
        omega
    rcases Nat.lt_trichotomy k i with y | y | y
    · exact ⟨i, hi, Or.inr ⟨k, y, hne, bt⟩⟩
    · rw [y] at hne; exact absurd (vc_self _) hne
    · exact ⟨k, hk, Or.inr ⟨i, y, vc_sw hne, btR_sw bt⟩⟩
  · have hpar : vc (W k) g = v0 := br_par hN (hp k hk) hg q
    have hnz := par_nz hpar (hW k hk) hg0
    have hneg : vd (W k) g < 0 := by
      rcases Int.lt_or_gt_of_ne hnz with y | y
      · exact y
      · refine absurd (Or.inr ⟨k, hk, Or.inl ⟨?_, ?_⟩⟩) hno
        · rw [vc_anti, hpar]; rfl
        · rw [vd_comm]; exact y
    have e := par_dot (g := vc N (W i)) hpar
    rw [← br_x, ← br_x] at e
    have h1 := Int.mul_neg_of_neg_of_pos hneg hip
    have h2 := vd_pos hg0
    refine Classical.byContradiction (fun z => ?_)
    have := Int.mul_nonneg (Int.le_of_lt h2) (show 0 ≤ br N (W i) (W k) by omega)
    omega
  · have h1 := hia k hk q
    rw [br_sw] at h1
    omega
def clsIn2 (W : Nat → V3) (n : Nat) (N g : V3) : Prop := vd N g = 0 ∧ ∀ i, i < n → (allP W n (vc N (W i)) → 0 ≤ vd (vc N (W i)) g) ∧ (¬ allP W n (vc N (W i)) → allM W n (vc N (W i)) → vd (vc N (W i)) g ≤ 0)
/-- what lies in the cone isn't behind a plane that bears it -/
theorem ref_ge {W : Nat → V3} {n : Nat} {g m : V3} (h : refIn W n g) (hm : allP W n m) : 0 ≤ vd m g := by
  rcases h with h | ⟨i, hi, h | ⟨j, hj, hc, h⟩⟩
  · rw [h]; unfold vd v0; simp
  · have hw : W i ≠ v0 := by
      intro q
      have := h.2
      rw [q] at this
      exact absurd this (by unfold vd v0; simp)
    have e := par_dot (g := m) h.1
    rw [vd_comm m g]
    exact sgn_of (a := vd g (W i)) h.2 (vd_pos hw) e.symm (by rw [vd_comm]; exact hm i hi)
  · have hp := vd_pos hc
    have e : vd (vc (W i) (W j)) (vc (W i) (W j)) * vd m g = vd (vc (W i) (W j)) (vc g (W j)) * vd m (W i) + vd (vc (W i) (W j)) (vc (W i) g) * vd m (W j) + vd (vc (W i) (W j)) g * vd m (vc (W i) (W j)) := by unfold vd vc; grind
    rw [h.1, Int.zero_mul, Int.add_zero] at e
    have u1 := Int.mul_nonneg h.2.1 (hm i hi)
    have u2 := Int.mul_nonneg h.2.2 (hm j (by omega))
    refine Classical.byContradiction (fun q => ?_)
    have := Int.mul_neg_of_pos_of_neg hp (show vd m g < 0 by omega)
    omega
theorem ref_zero {W : Nat → V3} {n : Nat} {g m : V3} (h : refIn W n g) (hm : ∀ k, k < n → vd m (W k) = 0) : vd m g = 0 := by
  have h1 := ref_ge (m := m) h (fun k hk => by rw [hm k hk]; exact Int.le_refl _)
  have h2 := ref_ge (m := vn m) h (fun k hk => by rw [vd_n, hm k hk]; decide)
  rw [vd_n] at h2
  omega
theorem plane_eq {W : Nat → V3} {n a b : Nat} {N g : V3} (ha : a < n) (hb : b < n) (hN : vc (W a) (W b) = N) (hN0 : N ≠ v0) (hW : ∀ k, k < n → W k ≠ v0) (hp : ∀ k, k < n → vd N (W k) = 0) : refIn W n g ↔ clsIn2 W n N g := by
  constructor
  · intro h
    refine ⟨ref_zero h hp, fun i hi => ⟨fun q => ref_ge h q, fun _ q => ?_⟩⟩
    have := ref_ge h (allM_n.mp q)
    rw [vd_n] at this
    omega
  · rintro ⟨h1, h2⟩
    refine Classical.byContradiction (fun hno => ?_)
    have hg0 : g ≠ v0 := fun q => hno (Or.inl q)
    by_cases q1 : ∃ i, i < n ∧ 0 < br N (W i) g
    · obtain ⟨i, hi, hip, hia⟩ := onward hN0 hW hp h1 hg0 hno q1
      have hM : allM W n (vc N (W i)) := fun k hk => by rw [br_l]; exact hia k hk
      have hnP : ¬ allP W n (vc N (W i)) := by
        intro z
        have z0 : ∀ k, k < n → vc (W k) (W i) = v0 := fun k hk => by
          have y1 := z k hk
          rw [br_l] at y1
          have y2 := hia k hk
          exact br_par hN0 (hp k hk) (hp i hi) (by rw [br_sw]; omega)
        exact hN0 (by rw [← hN]; exact par_tr (z0 a ha) (z0 b hb) (hW i hi))
      have := (h2 i hi).2 hnP hM
      rw [br_l] at this
      omega
    · by_cases q2 : ∃ i, i < n ∧ 0 < br (vn N) (W i) g
      · obtain ⟨i, hi, hip, hia⟩ := onward (N := vn N) (vn_ne hN0) hW (fun k hk => vd_vn0 (hp k hk)) (vd_vn0 h1) hg0 hno q2
        have hP : allP W n (vc N (W i)) := fun k hk => by
          have := hia k hk
          rw [br_n] at this
          rw [br_l]
          omega
        have := (h2 i hi).1 hP
        rw [br_l] at this
        rw [br_n] at hip
        omega
      · have z0 : ∀ k, k < n → vc (W k) g = v0 := fun k hk => by
          refine br_par hN0 (hp k hk) h1 ?_
          have y1 : ¬ 0 < br N (W k) g := fun z => q1 ⟨k, hk, z⟩
          have y2 : ¬ 0 < br (vn N) (W k) g := fun z => q2 ⟨k, hk, z⟩
          rw [br_n] at y2
          omega
        exact hN0 (by rw [← hN]; exact par_tr (z0 a ha) (z0 b hb) hg0)
/-- rank 1 -/
theorem line_all {W : Nat → V3} {n : Nat} (hW : ∀ k, k < n → W k ≠ v0) (hn : 0 < n) (hp : ∀ k, 1 ≤ k → k < n → vc (W 0) (W k) = v0) : ∀ i j, i < n → j < n → vc (W i) (W j) = v0 := by
  have h0 : ∀ k, k < n → vc (W k) (W 0) = v0 := by
    intro k hk
    by_cases q : k = 0
    · rw [q]; exact vc_self _
    · rw [vc_anti, hp k (by omega) hk]; rfl
  exact fun i j hi hj => par_tr (h0 i hi) (h0 j hj) (hW 0 hn)
theorem line_eq {W : Nat → V3} {n : Nat} {g : V3} (hW : ∀ k, k < n → W k ≠ v0) (hn : 0 < n) (hp : ∀ k, 1 ≤ k → k < n → vc (W 0) (W k) = v0) : refIn W n g ↔ vc g (W 0) = v0 ∧ (allP W n (W 0) → 0 ≤ vd (W 0) g) := by
  have hall := line_all hW hn hp
  constructor
  · intro h
    refine ⟨?_, fun q => ref_ge h q⟩
    rcases h with h | ⟨i, hi, h | ⟨j, hj, hc, -⟩⟩
    · rw [h]; exact v3_0.mpr ⟨by unfold vc v0; simp, by unfold vc v0; simp, by unfold vc v0; simp⟩
    · exact par_tr h.1 (hall 0 i hn hi) (hW i hi)
    · exact absurd (hall i j hi (by omega)) hc
  · rintro ⟨h1, h2⟩
    by_cases hg : g = v0
    · exact Or.inl hg
    · have hnz := par_nz h1 hg (hW 0 hn)
      rcases Int.lt_or_gt_of_ne hnz with q | q
      · have hnP : ¬ allP W n (W 0) := by
          intro z
          have := h2 z
          rw [vd_comm] at this
          omega
        have : ∃ k, k < n ∧ vd (W 0) (W k) < 0 := by
          refine Classical.byContradiction (fun z => hnP (fun k hk => ?_))
          refine Classical.byContradiction (fun y => z ⟨k, hk, by omega⟩)
        obtain ⟨k, hk, hneg⟩ := this
        refine Or.inr ⟨k, hk, Or.inl ⟨par_tr h1 (hall k 0 hk hn) (hW 0 hn), ?_⟩⟩
        have e := par_dot (g := W k) h1
        have u := Int.mul_pos_of_neg_of_neg q hneg
        rw [← e] at u
        have p := vd_pos (hW 0 hn)
        refine Classical.byContradiction (fun z => ?_)
        have := Int.mul_nonpos_of_nonneg_of_nonpos (Int.le_of_lt p) (show vd g (W k) ≤ 0 by omega)
        omega
      · exact Or.inr ⟨0, hn, Or.inl ⟨h1, q⟩⟩
