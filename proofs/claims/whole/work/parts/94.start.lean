/-! ===== the store behind the constructors ===== -/
def s00 : ha_St := (fun _ _ => 0, fun _ _ => 0, fun _ _ => none, fun _ => (0, 0), 0)
def s01 : ha_St := heldI (sN s00 11 0) 0
def s02 : ha_St := modI (sN s01 12 0) 44
def s03 : ha_St := sN s02 21 1
theorem s01_n : gn s01 = 44 := by decide +kernel
theorem s02_n : gn s02 = 73 := by decide +kernel
theorem s03_n : gn s03 = 74 := by decide +kernel
theorem s03_T : ∀ a, a < 74 → gT s03 a = tyA.getD a (0, 0) := by decide +kernel
theorem s03_R : ∀ q ∈ rfA, gR s03 q.1 q.2.1 = some q.2.2 := by decide +kernel
theorem s03_Y : LY s03 := ⟨s03_T, s03_R, by rw [s03_n]; exact Nat.le_refl _⟩
theorem s03_I : gI s03 0 1 = 0 ∧ gI s03 44 1 = 0 ∧ gI s03 0 5 = 1 ∧ gI s03 9 7 = 0 ∧ gI s03 17 3 = 0 ∧ gI s03 44 17 = 0 ∧ gI s03 26 2 = 0 ∧ gI s03 44 23 = 0 ∧ gI s03 26 6 = 0 ∧ gI s03 32 2 = 0 ∧ gI s03 44 27 = 0 ∧ gI s03 32 3 = 0 ∧ gI s03 44 28 = 0 := by decide +kernel
theorem s03_sh : ∀ k, k < 8 → gI s03 70 k = 0 ∧ gI s03 65 k = 0 ∧ gR s03 (36 + k) 0 = none ∧ gR s03 (36 + k) 1 = none ∧ gR s03 (36 + k) 2 = none := by decide +kernel
theorem s03_Inv (hF : FN s03) : Inv s03 := by
  obtain ⟨i1, i2, i3, i4, i5, i6, i7, i8, i9, i10, i11, i12, i13⟩ := s03_I
  have n0 : nC s03 = 0 := by unfold nC; rw [i2]; exact tn_0
  refine ⟨s03_Y, hF, ?_, ?_, ?_, ?_, ?_, ⟨fun k hk => ?_, ?_⟩, ?_, ?_⟩
  · unfold nOK; rw [i4]; decide
  · refine ⟨by rw [i1, i2], by unfold MN; rw [i2]; decide, fun i hi => ?_, fun i j a hi => ?_⟩
    · rw [n0] at hi; exact absurd hi (Nat.not_lt_zero _)
    · rw [n0] at hi; exact absurd hi (Nat.not_lt_zero _)
  · unfold RLd
    rw [i5, i6, tn_0]
    exact ⟨rfl, by decide, fun l hl => absurd hl (Nat.not_lt_zero _)⟩
  · unfold RP mSt
    rw [i7, i8, tn_0]
    exact ⟨rfl, ⟨by decide, by omega, fun s hs => absurd hs (Nat.not_lt_zero _)⟩, fun s hs => absurd hs (Nat.not_lt_zero _)⟩
  · unfold RT
    rw [i10, i11, i12, i13, tn_0]
    exact ⟨rfl, by decide, rfl, fun l hl => absurd hl (Nat.not_lt_zero _)⟩
  · have q := s03_sh k hk
    exact ⟨by rw [q.1]; decide, Or.inl q.2⟩
  · intro k l j i b hk hl hj hi q1 q2
    have q := s03_sh k hk
    have jj : j = 1 ∨ j = 2 := by omega
    rcases jj with rfl | rfl
    · rw [q.2.2.2.1] at q1; cases q1
    · rw [q.2.2.2.2] at q1; cases q1
  · intro q
    rw [i3] at q
    exact absurd q (by decide)
  · intro _ μ h
    rw [i7, tn_0] at h ⊢
    have h0 : μ 0 = 0 := by
      have := h.1
      rw [show (gAl 0).toNatClampNeg = 0 by decide] at this
      exact this
    refine ⟨by rw [i9, h0], fun j hj => ?_⟩
    rw [h0, tn_0] at hj
    exact absurd hj (Nat.not_lt_zero _)
