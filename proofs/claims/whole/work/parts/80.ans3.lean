/-! ===== answers: set-ups, rows told, the tool ===== -/
theorem Inv_P {σ σ1 : ha_St} (h : Inv σ) (f : frP σ σ1) (v : PV σ1) : Inv σ1 := by
  have kt : kT σ σ1 := fun a _ => by rw [f.1]
  have ki : ∀ U : Nat → Nat → Prop, (∀ a j, U a j → ¬ (29 ≤ a ∧ a ≤ 31) ∧ ¬ (a = 26 ∧ 6 ≤ j)) → kI U σ σ1 := fun U hU a j hu _ => f.2.2.2.2 a j (hU a j hu).1 (hU a j hu).2
  refine ⟨h.1.same f.1 f.2.1 f.2.2.1, fun a ha => by rw [f.2.2.1]; rw [f.1] at ha; exact h.2.1 a ha, ?_, h.2.2.2.1.ag kt (by rw [f.2.1]) (ki _ (fun a j u => by unfold uRC at u; omega)), h.2.2.2.2.1.ag (ki _ (fun a j u => by unfold uRL at u; omega)), h.2.2.2.2.2.1.ag (ki _ (fun a j u => by unfold uRP at u; omega)), h.2.2.2.2.2.2.1.ag (ki _ (fun a j u => by unfold uRT at u; omega)), h.2.2.2.2.2.2.2.1.ag kt (fun k _ => by rw [f.2.1]) (by rw [f.2.1]) (ki _ (fun a j u => by unfold uRS at u; omega)), h.2.2.2.2.2.2.2.2.1.ag (ki _ (fun a j u => by unfold uCV at u; omega)) (fun x _ _ => by rw [f.2.2.2.1]), v⟩
  unfold nOK
  rw [f.2.2.2.2 9 7 (by omega) (by omega)]
  exact h.2.2.1
theorem few_Inv {σ σ1 : ha_St} (h : Inv σ) (c : fewQ σ σ1) : Inv σ1 ∧ gI σ1 26 7 ≠ 0 := by
  have k := few_PV h.2.2.2.2.2.1.G.1 h.2.2.2.2.2.2.2.2.2 c
  exact ⟨Inv_P h k.1 k.2.2, k.2.1⟩
theorem mf_sagr {σ σ2 : ha_St} (m : mfQ σ σ2) : sagr σ σ2 := sagr_J m.1.J
/-- the plan kept, by the reference's table -/
theorem plan_T {σ σ2 : ha_St} (h : Inv σ) (h7 : gI σ 26 7 ≠ 0) (m : mfQ σ σ2) : gI σ 26 6 = gI σ2 62 0 ∧ rowsP (WK σ2) (gI σ2 62) (gI σ2 62 0).toNatClampNeg σ ∧ gI σ2 62 0 ≤ 12 ∧ 0 ≤ gI σ2 62 0 := by
  have g := h.2.2.2.2.2.1.G
  have ms := h.2.2.2.2.2.1.2.1
  have hT := (mfT_G ms.1.1).mp m.2
  have k := h.2.2.2.2.2.2.2.2.2 h7 (gI σ2 62) (by rw [g.2, h.2.2.2.2.2.1.1]; exact hT)
  have e : WK σ2 = GW (gI σ 60) (gI σ 61) (gI σ 44 23).toNatClampNeg := by rw [wkS_c (mfQ_st m)]; rfl
  have b := (mSt_PLN ms σ ⟨rfl, rfl, rfl⟩).2.2 σ2 m
  rw [e, ← g.2]
  exact ⟨k.1, k.2, b.2, b.1⟩
theorem e_setups {σ σ1 σ2 : ha_St} (h : Inv σ) (c : fewQ σ σ1) (m : mfQ σ1 σ2) : gI σ1 26 6 = gI σ2 62 0 ∧ Inv σ2 := by
  have i1 := few_Inv h c
  exact ⟨(plan_T i1.1 i1.2 m).1, i1.1.ag (mf_sagr m)⟩
theorem setup_Inv {σ σ1 : ha_St} {i w r : Int32} (h : Inv σ) (c : setupQ σ i w r σ1) : Inv σ1 := by
  rcases c with ⟨-, -, e⟩ | ⟨-, c, -⟩
  · rw [e]; exact h
  · exact (few_Inv h c).1
theorem e_setup {σ σ1 σ2 : ha_St} {i w r r' : Int32} (h : Inv σ) (c : setupQ σ i w r σ1) (m : mSetupQ σ1 i w r' σ2) : r = r' ∧ Inv σ2 := by
  have i1 := setup_Inv h c
  rcases c with ⟨c1, c2, c3⟩ | ⟨c1, c2, c3⟩ <;> rcases m with ⟨m1, m2, m3⟩ | ⟨m1, m2, m3⟩
  · rw [c2, m2, m3]; exact ⟨rfl, i1⟩
  · exact absurd m1 c1
  · exact absurd c1 m1
  · have j1 := few_Inv h c2
    have p := plan_T j1.1 j1.2 m2
    refine ⟨?_, i1.ag (mf_sagr m2)⟩
    rw [p.1] at c3
    rcases c3 with ⟨a1, a2⟩ | ⟨a1, a2⟩ <;> rcases m3 with ⟨b1, b2⟩ | ⟨b1, d, q, b2, b3, b4⟩
    · rw [a2, b2]
    · exact absurd ⟨b1, Int32.lt_of_lt_of_le b1 p.2.2.1⟩ a1
    · exact absurd a1.1 b1
    · obtain ⟨dd, qq, x1, x2, x3, x4⟩ := p.2.1 i.toNatClampNeg (tn_lt c1.1 b1)
      have ed := gPath_det x1 (mPath_G.mp b2)
      subst ed
      have eq := gsf_det x2 b3
      subst eq
      rw [a2, b4, x3, x4]
/-! rows told -/
theorem dv6_i {x : Int32} (h : 0 ≤ x) : ∀ n, 0 ≤ dv6 n x ∧ (dv6 n x).toNatClampNeg = x.toNatClampNeg / 6 ^ n
  | 0 => ⟨h, by rw [Nat.pow_zero, Nat.div_one]; rfl⟩
  | n + 1 => by
    have ih := dv6_i h n
    show 0 ≤ dv6 n x / 6 ∧ (dv6 n x / 6).toNatClampNeg = _
    generalize dv6 n x = y at ih
    have ty := tn_int ih.1
    have e : (y / 6).toInt = y.toInt / 6 := by
      have hl := Int32.toInt_lt y
      have h0 : 0 ≤ y.toInt := by have := Int32.le_iff_toInt_le.mp ih.1; rw [Int32.toInt_zero] at this; exact this
      rw [Int32.toInt_div, show (6 : Int32).toInt = 6 by decide, Int.tdiv_eq_ediv_of_nonneg h0, Int.bmod_eq_of_le (by omega) (by omega)]
    have h0 : 0 ≤ y / 6 := by
      rw [Int32.le_iff_toInt_le, e, Int32.toInt_zero]
      omega
    refine ⟨h0, ?_⟩
    have t2 := tn_int h0
    rw [e] at t2
    rw [Nat.pow_succ, ← Nat.div_div_eq_div_mul, ← ih.2]
    omega
theorem pw6_n : ∀ n : Nat, n ≤ 10 → 0 ≤ pw6 n ∧ (pw6 n).toNatClampNeg = 6 ^ n := by decide
theorem dv_pw {x n : Int32} (hx : 0 ≤ x) (hn : 1 ≤ n ∧ n ≤ 10) : dv6 n.toNatClampNeg x = 0 ↔ x < pw6 n.toNatClampNeg := by
  have h0 : 0 ≤ n := by grind
  have hl : n.toNatClampNeg ≤ 10 := by
    have := tn_le h0 hn.2
    rw [show (10 : Int32).toNatClampNeg = 10 by decide] at this
    exact this
  have d := dv6_i hx n.toNatClampNeg
  have p := pw6_n _ hl
  rw [tn_lt_iff hx p.1, p.2]
  have pp : 0 < 6 ^ n.toNatClampNeg := Nat.pow_pos (by decide)
  rw [← Nat.div_eq_zero_iff_lt pp, ← d.2]
  constructor
  · intro q; rw [q]; rfl
  · intro q; rw [← nI_tn d.1, q]; rfl
theorem told_R {σ : ha_St} (h : Inv σ) {x : Int32} : ∀ k, tdR σ x k = mdR σ x k
  | 0 => rfl
  | k + 1 => by
    have g := h.2.2.2.2.2.1.G.2
    have e : AFT σ = WK σ := by rw [AFT_G, g]; rfl
    show (AFT σ _ _, _) = (WK σ _ _, _)
    rw [told_R h k, e]
theorem e_told {σ : ha_St} {x n r r' : Int32} (h : Inv σ) (c : toldQ σ x n r) (m : mToldQ σ x n r') : r = r' := by
  have al : allOf σ = mAll σ := by unfold allOf mAll; rw [h.2.2.2.2.2.1.1]
  have eq : ((0 ≤ x ∧ 1 ≤ n ∧ n ≤ 10) ∧ dv6 n.toNatClampNeg x = 0) ↔ ((0 ≤ x ∧ 1 ≤ n ∧ n ≤ 10) ∧ x < pw6 n.toNatClampNeg) := and_congr_right (fun z => dv_pw z.1 z.2)
  rcases c with ⟨c1, c2⟩ | ⟨c1, q, c2, c3⟩ <;> rcases m with ⟨m1, m2⟩ | ⟨m1, m2⟩
  · rw [c2, m2]
  · exact absurd (eq.mpr m1) c1
  · exact absurd (eq.mp c1) m1
  · unfold tdP at c2
    unfold mtP at m2
    simp only [told_R h, al] at c2
    rcases c2 with ⟨a1, a2, a3, a4⟩ | ⟨a1, a2⟩ <;> rcases m2 with ⟨b1, b2, b3, b4⟩ | ⟨b1, b2⟩
    · rw [c3, if_neg (Int32.not_lt.mpr a1)]
      have x1 : ¬ q.toNatClampNeg < r'.toNatClampNeg := fun z => b4 _ z a3
      have x2 : ¬ r'.toNatClampNeg < q.toNatClampNeg := fun z => a4 _ z b3
      rw [← nI_tn a1, ← nI_tn b1, show q.toNatClampNeg = r'.toNatClampNeg by omega]
    · exact absurd a3 (b2 _ (tn_le a1 a2))
    · exact absurd b3 (a2 _ (tn_le b1 b2))
    · rw [c3, a1, b1]; decide
/-! the tool -/
theorem lin_eq {σ : ha_St} (h : Inv σ) : lines σ = mLines σ ∧ ∀ i, lineTo σ i = mTo σ i := by
  unfold lines mLines lineTo mTo
  rw [h.2.2.2.2.2.2.1.1]
  exact ⟨rfl, fun _ => rfl⟩
theorem near_eq {σ : ha_St} (h : Inv σ) {c a : Nat} (hc : ctR σ c a) (hn : gI σ 44 27 ≠ 0) {i : Int32} (h0 : 0 ≤ i) (h1 : i < mLines σ) : nearI σ i a ↔ mNI σ c i := by
  have rt := h.2.2.2.2.2.2.1
  obtain ⟨t, -, -, -, -, -, -, -, -, h3, -, h5, h6, -⟩ := hc
  have hi : i.toNatClampNeg < (gI σ 44 27).toNatClampNeg ∧ (mTo σ i).toNatClampNeg < (gI σ 44 27).toNatClampNeg := by
    have b := rt.2.1
    unfold mLines at h1
    unfold mTo
    by_cases q : gI σ 44 27 = 1
    · rw [if_pos q] at h1 ⊢
      exact ⟨tn_lt h0 (by rw [q]; exact h1), tn_lt h0 (by rw [q]; exact h1)⟩
    · rw [if_neg q] at h1 ⊢
      exact ⟨tn_lt h0 (by grind), tn_lt (by grind) (by grind)⟩
  unfold nearI mNI nearA mNear
  rw [(lin_eq h).2 i, (rt.2.2.2 _ hi.1).1, (rt.2.2.2 _ hi.1).2, (rt.2.2.2 _ hi.2).1, (rt.2.2.2 _ hi.2).2, h5, h6, h3, rt.2.2.1]
theorem first_eq {σ : ha_St} (h : Inv σ) {c a : Nat} (hc : ctR σ c a) (hn : gI σ 44 27 ≠ 0) {q r : Int32} (f : firstN σ a q) (m : mFN σ c r) : (if q < 0 then -2 else q) = r ∧ (0 ≤ q ↔ 0 ≤ r) := by
  have l := (lin_eq h).1
  unfold firstN at f
  rw [l] at f
  have ne := fun {i : Int32} (h0 : 0 ≤ i) (h1 : i < mLines σ) => near_eq h hc hn h0 h1
  rcases f with ⟨a1, a2, a3, a4⟩ | ⟨a1, a2⟩ <;> rcases m with ⟨b1, b2, b3, b4⟩ | ⟨b1, b2⟩
  · rw [if_neg (Int32.not_lt.mpr a1)]
    have x1 : ¬ q < r := fun z => b4 q a1 z ((ne a1 a2).mp a3)
    have x2 : ¬ r < q := fun z => a4 r b1 z ((ne b1 b2).mpr b3)
    have : q = r := by grind
    exact ⟨this, by rw [this]⟩
  · exact absurd ((ne a1 a2).mp a3) (b2 q a1 a2)
  · exact absurd ((ne b1 b2).mpr b3) (a2 r b1 b2)
  · rw [a1, b1]; decide
theorem e_meets {σ : ha_St} {i r r' : Int32} (h : Inv σ) (c : meetsQ σ i r) (m : mMeetsQ σ i r') : r = r' := by
  have hC := h.2.2.2.1
  have e2 := h.2.2.2.2.2.2.1.1
  rcases c with ⟨c1, c2⟩ | ⟨a, c1, c2⟩ <;> rcases m with ⟨m1, m2⟩ | ⟨m1, m2⟩
  · rw [c2, m2]
  · rw [hC.1] at c1
    exact absurd (icV_0.mpr c1) m1
  · exact absurd (ct_at hC c1).1 (icV_0.mp m1)
  · rw [e2] at c2
    rcases c2 with ⟨x1, x2⟩ | ⟨x1, q, x2, x3⟩ <;> rcases m2 with ⟨y1, y2⟩ | ⟨y1, y2⟩
    · rw [x2, y2]
    · exact absurd x1 y1
    · exact absurd y1 x1
    · rw [x3]
      exact (first_eq h (ct_at hC c1).2.1 x1 x2 y2).1
theorem first_ex {σ : ha_St} {c : Nat} : ∃ r, mFN σ c r := by
  by_cases q : ∃ i : Int32, 0 ≤ i ∧ i < mLines σ ∧ mNI σ c i
  · have key : ∀ m : Nat, (∃ i : Int32, (0 ≤ i ∧ i < mLines σ ∧ mNI σ c i) ∧ i.toNatClampNeg < m) → ∃ r, mFN σ c r := by
      intro m
      induction m with
      | zero => rintro ⟨i, -, hi⟩; omega
      | succ m ih =>
        rintro ⟨i, hi, hm⟩
        by_cases z : ∃ i : Int32, (0 ≤ i ∧ i < mLines σ ∧ mNI σ c i) ∧ i.toNatClampNeg < m
        · exact ih z
        · refine ⟨i, Or.inl ⟨hi.1, hi.2.1, hi.2.2, fun x x0 x1 y => z ⟨x, ⟨x0, Int32.lt_trans x1 hi.2.1, y⟩, ?_⟩⟩⟩
          have := tn_lt x0 x1
          omega
    obtain ⟨i, hi⟩ := q
    exact key _ ⟨i, hi, Nat.lt_succ_self _⟩
  · exact ⟨-2, Or.inr ⟨rfl, fun i h0 h1 z => q ⟨i, h0, h1, z⟩⟩⟩
theorem e_met {σ : ha_St} {r r' : Int32} (h : Inv σ) (c : (gI σ 32 2 = 0 ∧ r = -3) ∨ (gI σ 32 2 ≠ 0 ∧ bitsP (metP σ) (gI σ 0 1).toNatClampNeg r)) (m : (gI σ 44 27 = 0 ∧ r' = -3) ∨ (gI σ 44 27 ≠ 0 ∧ bitsP (mMetP σ) (gI σ 44 1).toNatClampNeg r')) : r = r' := by
  have hC := h.2.2.2.1
  rw [h.2.2.2.2.2.2.1.1, hC.1] at c
  rcases c with ⟨c1, c2⟩ | ⟨c1, c2⟩ <;> rcases m with ⟨m1, m2⟩ | ⟨m1, m2⟩
  · rw [c2, m2]
  · exact absurd c1 m1
  · exact absurd m1 c1
  · refine bitsP_det (bitsP_c (fun k hk => ?_) c2) m2
    obtain ⟨a, ha, hct⟩ := hC.2.2.1 k hk
    constructor
    · rintro ⟨a', q, h1, h2, h3⟩
      cases ha.symm.trans h1
      obtain ⟨r0, hr0⟩ := first_ex (σ := σ) (c := k)
      exact ⟨r0, hr0, (first_eq h hct c1 h2 hr0).2.mp h3⟩
    · rintro ⟨q, h2, h3⟩
      rcases h2 with ⟨b1, b2, b3, b4⟩ | ⟨b1, -⟩
      · refine ⟨a, q, ha, Or.inl ⟨b1, by rw [(lin_eq h).1]; exact b2, (near_eq h hct c1 b1 b2).mpr b3, fun i i0 i1 z => b4 i i0 i1 ((near_eq h hct c1 i0 (Int32.lt_trans i1 b2)).mp z)⟩, h3⟩
      · rw [b1] at h3; exact absurd h3 (by decide)
