/-! ===== the reference's faces bound the same cone ===== -/
theorem sc3_1 {c : I3} : sc3 1 c = c := by
  unfold sc3
  rw [show (1 : Int32).toInt64 = 1 by decide]
  exact Prod.ext (by grind) (Prod.ext (by grind) (by grind))
theorem sc3_m {c : I3} : sc3 (-1) c = (-c.1, -c.2.1, -c.2.2) := by
  unfold sc3
  rw [show (-1 : Int32).toInt64 = -1 by decide]
  exact Prod.ext (by grind) (Prod.ext (by grind) (by grind))
theorem sq_key {A C : V3} (h : vc A C = v0) : vd A C * (C.1 * C.1) = A.1 * C.1 * vd C C ∧ vd A C * (C.2.1 * C.2.1) = A.2.1 * C.2.1 * vd C C ∧ vd A C * (C.2.2 * C.2.2) = A.2.2 * C.2.2 * vd C C := by
  have k := v3_0.mp h
  simp only [vc] at k
  unfold vd
  refine ⟨?_, ?_, ?_⟩ <;> grind
theorem pos_key {S a c d x : Int} (hd : 0 < d) (h : 0 < a * S * c) (e : x * (c * c) = a * c * d) : 0 < S * x := by
  have hc : c ≠ 0 := by
    intro q
    rw [q, Int.mul_zero] at h
    omega
  have h1 := Int.mul_pos h hd
  have e2 : S * x * (c * c) = a * S * c * d := by
    have : S * (x * (c * c)) = S * (a * c * d) := by rw [e]
    grind
  have h2 := sq_pos hc
  refine Classical.byContradiction (fun q => ?_)
  have := Int.mul_nonpos_of_nonpos_of_nonneg (show S * x ≤ 0 by omega) (Int.le_of_lt h2)
  omega
theorem smF_V {a c : I3} {A C : V3} {s : Int32} {S : Int} (ha : e3 a A 72000000) (hc : e3 c C 72000000) (hs : eI s.toInt64 S 1) (h : smF a s.toInt64 c) : vc A C = v0 ∧ 0 < S * vd A C := by
  have m : ∀ {x y : Int64} {z w : Int}, eI x z 72000000 → eI y w 72000000 → eI (x * y) (z * w) 5184000000000000 := fun h g => eI_mul h g (by decide)
  have t : ∀ {x y : Int64} {z w : Int}, eI x z 72000000 → eI y w 72000000 → eI (x * s.toInt64 * y) (z * S * w) 5184000000000000 := fun h g => eI_mul (c := 72000000) (eI_mul h hs (by decide)) g (by decide)
  obtain ⟨⟨⟨q1, q2⟩, q3⟩, qp⟩ := h
  have k1 := (eI_eq (m ha.1 hc.2.1) (m ha.2.1 hc.1)).mp q1
  have k2 := (eI_eq (m ha.2.1 hc.2.2) (m ha.2.2 hc.2.1)).mp q2
  have k3 := (eI_eq (m ha.2.2 hc.1) (m ha.1 hc.2.2)).mp q3
  have hv : vc A C = v0 := v3_0.mpr ⟨by simp only [vc]; omega, by simp only [vc]; omega, by simp only [vc]; omega⟩
  refine ⟨hv, ?_⟩
  have sk := sq_key hv
  have hC : C ≠ v0 := by
    intro q
    have e := v3_0.mp q
    rcases qp with z | z | z
    · have := (eI_gt (t ha.1 hc.1)).mp z
      rw [e.1, Int.mul_zero] at this; omega
    · have := (eI_gt (t ha.2.1 hc.2.1)).mp z
      rw [e.2.1, Int.mul_zero] at this; omega
    · have := (eI_gt (t ha.2.2 hc.2.2)).mp z
      rw [e.2.2, Int.mul_zero] at this; omega
  have hp := vd_pos hC
  rcases qp with z | z | z
  · exact pos_key hp ((eI_gt (t ha.1 hc.1)).mp z) sk.1
  · exact pos_key hp ((eI_gt (t ha.2.1 hc.2.1)).mp z) sk.2.1
  · exact pos_key hp ((eI_gt (t ha.2.2 hc.2.2)).mp z) sk.2.2
theorem gdE {g a : I3} {G A : V3} (hg : e3 g G 401000) (ha : e3 a A 72000000) : eI (dtI g a) (vd A G) 86616000000000 := by
  rw [vd_comm]
  exact eI_d hg ha (by decide) (by decide) (by decide)
theorem trI {c u v : I3} : tr3 c u v = dtI c (crI u v) := rfl
theorem dt3I {c u : I3} : dt3 c u = dtI c u := rfl
theorem fc_FF {ρ φ : Nat → Int64} {L : List I3} {F : Int32} {g : I3} {G : V3} (hB : lB L) (h : rhoL ρ L) (h3 : r3 (WL L) L.length) (hg : e3 g G 401000) (hP : fcP ρ (Int32.ofNat L.length) F φ (Int32.ofNat L.length)) (hS : fcS ρ (Int32.ofNat L.length) F φ) :
    AL F (fun f => 0 ≤ dtR g φ f) ↔ FF (WL L) L.length G := by
  have hl := hB.1
  have hs := r3_spn h3
  have eF : ∀ f, 0 ≤ f → f < F → ∃ A, e3 (fc φ f) A 72000000 ∧ ∃ x y, x < L.length ∧ y < L.length ∧ vc (WL L x) (WL L y) ≠ v0 ∧ A = vc (WL L x) (WL L y) ∧ allP (WL L) L.length A := by
    intro f f0 f1
    obtain ⟨x, y, s, hxy, hne, hsd, hs0, e⟩ := hS f f0 f1
    have hx' : 0 ≤ x ∧ x < Int32.ofNat L.length := ⟨by grind, hxy.2.2⟩
    have hy' : 0 ≤ y ∧ y < Int32.ofNat L.length := ⟨hxy.1, by grind⟩
    have ec := crE hB h hx' hy'
    have hnv : vc (WL L x.toNatClampNeg) (WL L y.toNatClampNeg) ≠ v0 := fun z => hne ((e3_0 ec).mpr z)
    rcases hsd with ⟨es, q⟩ | ⟨es, q1, q2⟩ | ⟨es, -⟩
    · rw [es, sc3_1] at e
      rw [e]
      exact ⟨_, ec, _, _, tn_oN hl hx'.1 hx'.2, tn_oN hl hy'.1 hy'.2, hnv, rfl, (sdP_P hB h ec).mp q⟩
    · rw [es, sc3_m] at e
      rw [e]
      have e2 := e3_neg ec (by decide)
      rw [← vc_anti] at e2
      refine ⟨_, e2, _, _, tn_oN hl hy'.1 hy'.2, tn_oN hl hx'.1 hx'.2, vc_sw hnv, rfl, ?_⟩
      rw [allP_sw]
      exact (sdM_M hB h ec).mp q2
    · exact absurd es hs0
  constructor
  · intro hA i j hi hj hc ha
    have key : ∀ (f s : Int32) (c : I3) (C : V3) (S : Int), e3 c C 72000000 → eI s.toInt64 S 1 → (0 ≤ f ∧ f < F) → (fc φ f = sc3 s c ∨ smF (fc φ f) s.toInt64 c) → (s = 1 ∧ S = 1 ∧ C = vc (WL L i) (WL L j) ∨ s = -1 ∧ S = -1 ∧ C = vc (WL L j) (WL L i)) → 0 ≤ vd (vc (WL L i) (WL L j)) G := by
      intro f s c C S ec es hf hor hcase
      have hd := hA f hf.1 hf.2
      have hd' : 0 ≤ dtI g (fc φ f) := hd
      rcases hor with q | q
      · rcases hcase with ⟨s1, -, e⟩ | ⟨s1, -, e⟩
        · rw [q, s1, sc3_1] at hd'
          have := (eI_le (gdE hg ec)).mp hd'
          rw [e] at this
          exact this
        · rw [q, s1, sc3_m] at hd'
          have := (eI_le (gdE hg (e3_neg ec (by decide)))).mp hd'
          rw [e, ← vc_anti] at this
          exact this
      · obtain ⟨A, eA, -⟩ := eF f hf.1 hf.2
        have k := smF_V eA ec es q
        have hdA := (eI_le (gdE hg eA)).mp hd'
        have hC0 : C ≠ v0 := by
          rcases hcase with ⟨-, -, e⟩ | ⟨-, -, e⟩
          · rw [e]; exact hc
          · rw [e]; exact vc_sw hc
        have pd := par_dot (g := G) k.1
        have hcc := vd_pos hC0
        rcases hcase with ⟨-, s1, e⟩ | ⟨-, s1, e⟩
        · rw [s1, Int.one_mul] at k
          rw [← e]
          exact sgn_of hcc k.2 pd hdA
        · rw [s1] at k
          have hk : vd A C < 0 := by have := k.2; omega
          have : 0 ≤ -vd C G := sgn_of (a := vd C C) (b := -vd A C) hcc (by omega) (by rw [pd]; grind) hdA
          rw [vc_anti, ← e, vd_n]
          exact this
    rcases Nat.lt_trichotomy j i with hji | hji | hji
    · have hi' : 0 ≤ Int32.ofNat i ∧ Int32.ofNat i < Int32.ofNat L.length := ⟨oN_nn (by omega), (oN_lt (by omega) hl).mpr hi⟩
      have hj' : 0 ≤ Int32.ofNat j ∧ Int32.ofNat j < Int32.ofNat L.length := ⟨oN_nn (by omega), (oN_lt (by omega) hl).mpr hj⟩
      have ec := crE hB h hi' hj'
      rw [oN_tn (by omega), oN_tn (by omega)] at ec
      obtain ⟨f, hf, hor⟩ := hP (Int32.ofNat i) (Int32.ofNat j) ⟨hj'.1, (oN_lt (by omega) (by omega)).mpr hji, hi'.2⟩ (fun z => hc ((e3_0 ec).mp z)) 1 (Or.inl ⟨rfl, (sdP_P hB h ec).mpr ha⟩) (by decide)
      exact key f 1 _ _ 1 ec ⟨by decide, by decide⟩ hf hor (Or.inl ⟨rfl, rfl, rfl⟩)
    · rw [hji, vc_self] at hc
      exact absurd rfl hc
    · have hi' : 0 ≤ Int32.ofNat i ∧ Int32.ofNat i < Int32.ofNat L.length := ⟨oN_nn (by omega), (oN_lt (by omega) hl).mpr hi⟩
      have hj' : 0 ≤ Int32.ofNat j ∧ Int32.ofNat j < Int32.ofNat L.length := ⟨oN_nn (by omega), (oN_lt (by omega) hl).mpr hj⟩
      have ec := crE hB h hj' hi'
      rw [oN_tn (by omega), oN_tn (by omega)] at ec
      have hM : allM (WL L) L.length (vc (WL L j) (WL L i)) := allP_sw.mp ha
      have hnP : ¬ allP (WL L) L.length (vc (WL L j) (WL L i)) := by
        intro z
        obtain ⟨k, hk, y⟩ := hs _ (vc_sw hc)
        have := z k hk
        have := hM k hk
        omega
      obtain ⟨f, hf, hor⟩ := hP (Int32.ofNat j) (Int32.ofNat i) ⟨hi'.1, (oN_lt (by omega) (by omega)).mpr hji, hj'.2⟩ (fun z => vc_sw hc ((e3_0 ec).mp z)) (-1) (Or.inr (Or.inl ⟨rfl, fun z => hnP ((sdP_P hB h ec).mp z), (sdM_M hB h ec).mpr hM⟩)) (by decide)
      exact key f (-1) _ _ (-1) ec ⟨by decide, by decide⟩ hf hor (Or.inr ⟨rfl, rfl, rfl⟩)
  · intro hF f f0 f1
    obtain ⟨A, eA, x, y, hx, hy, hne, e, ha⟩ := eF f f0 f1
    show 0 ≤ dtI g (fc φ f)
    refine (eI_le (gdE hg eA)).mpr ?_
    rw [e] at ha ⊢
    exact hF x y hx hy hne ha
/-- THE REFERENCE'S GOAL: it lies in the cone -/
theorem goal_ref {σ : ha_St} {L : List I3} {g : I3} {G : V3} (hB : lB L) (hm : mR σ L) (hrk : rkQ (gL σ 52) (gI σ 44 9) (gI σ 44 12)) (hf : gI σ 44 12 = 3 → fcP (gL σ 52) (gI σ 44 9) (gI σ 44 13) (gL σ 54) (gI σ 44 9) ∧ fcS (gL σ 52) (gI σ 44 9) (gI σ 44 13) (gL σ 54)) (hg : e3 g G 401000) :
    gInG σ g ↔ coneP (WL L) L.length G := by
  have hl := hB.1
  have h : rhoL (gL σ 52) L := hm.2.2
  rw [hm.2.1] at hrk hf
  have hS := rk_S hB h hrk
  have h0 : g = zer ↔ G = v0 := e3_0 hg
  unfold gInG coneP
  rw [hm.2.1]
  by_cases e3' : gI σ 44 12 = 3
  · have hr3 : r3 (WL L) L.length := by
      rcases hS with ⟨-, q⟩ | ⟨q, -⟩ | ⟨q, -⟩ | ⟨q, -⟩
      · exact q
      · rw [e3'] at q; exact absurd q (by decide)
      · rw [e3'] at q; exact absurd q (by decide)
      · rw [e3'] at q; exact absurd q (by decide)
    have k := fc_FF hB h hr3 hg (hf e3').1 (hf e3').2
    constructor
    · rintro (q | ⟨-, -, q⟩ | ⟨-, q, -⟩)
      · refine Or.inl ⟨hr3, fun i j _ _ _ _ => ?_⟩
        rw [h0.mp q]
        unfold vd v0
        simp
      · exact Or.inl ⟨hr3, k.mp q⟩
      · exact absurd e3' q
    · rintro (⟨-, q⟩ | ⟨q, -⟩)
      · by_cases z : g = zer
        · exact Or.inl z
        · exact Or.inr (Or.inl ⟨z, e3', k.mpr q⟩)
      · exact absurd hr3 q
  · have hr3 : ¬ r3 (WL L) L.length := by
      rcases hS with ⟨q, -⟩ | ⟨-, q, -⟩ | ⟨-, q, -⟩ | ⟨-, q, -⟩
      · exact absurd q e3'
      · exact q
      · exact q
      · exact q
    have al : ∀ i : Int32, 0 ≤ i → i < Int32.ofNat L.length → (alQ g (gL σ 52) i ↔ alR G (WL L i.toNatClampNeg)) := by
      intro i i0 i1
      have er := (hB.2 _ (tn_oN hl i0 i1)).1
      rw [← fcL hl h i0 i1] at er
      have m : ∀ {x y : Int64} {z w : Int}, eI x z 401000 → eI y w 6000 → eI (x * y) (z * w) 2406000000 := fun h g => eI_mul h g (by decide)
      have ed : eI (dtR g (gL σ 52) i) (vd G (WL L i.toNatClampNeg)) 7218000000 := by rw [dtL]; exact eI_d hg er (by decide) (by decide) (by decide)
      unfold alQ alR
      rw [← eI_gt ed, v3_0]
      refine and_congr_left (fun _ => ?_)
      rw [show q0 (gL σ 52) i = (fc (gL σ 52) i).1 from rfl, show q1 (gL σ 52) i = (fc (gL σ 52) i).2.1 from rfl, show q2 (gL σ 52) i = (fc (gL σ 52) i).2.2 from rfl]
      rw [eI_eq (m hg.1 er.2.1) (m hg.2.1 er.1), eI_eq (m hg.2.1 er.2.2) (m hg.2.2 er.2.1), eI_eq (m hg.2.2 er.1) (m hg.1 er.2.2)]
      simp only [vc]
      constructor
      · rintro ⟨⟨a, b⟩, c⟩; exact ⟨by omega, by omega, by omega⟩
      · rintro ⟨a, b, c⟩; exact ⟨⟨by omega, by omega⟩, by omega⟩
    have bt : ∀ i j : Int32, 0 ≤ i → i < Int32.ofNat L.length → 0 ≤ j → j < Int32.ofNat L.length → (btQ (crR (gL σ 52) i j) g (gL σ 52) i j ↔ btR (WL L i.toNatClampNeg) (WL L j.toNatClampNeg) G) := by
      intro i j i0 i1 j0 j1
      have ec := crE hB h ⟨i0, i1⟩ ⟨j0, j1⟩
      have er := (hB.2 _ (tn_oN hl i0 i1)).1
      rw [← fcL hl h i0 i1] at er
      have es := (hB.2 _ (tn_oN hl j0 j1)).1
      rw [← fcL hl h j0 j1] at es
      have x1 : eI (dt3 (crR (gL σ 52) i j) g) (vd (vc (WL L i.toNatClampNeg) (WL L j.toNatClampNeg)) G) 86616000000000 := by rw [dt3I]; exact eI_d ec hg (by decide) (by decide) (by decide)
      have y1 : e3 (crI g (fc (gL σ 52) j)) (vc G (WL L j.toNatClampNeg)) 4812000000 := e3_c hg es (by decide) (by decide) (by decide)
      have y2 : e3 (crI (fc (gL σ 52) i) g) (vc (WL L i.toNatClampNeg) G) 4812000000 := e3_c er hg (by decide) (by decide) (by decide)
      have x2 : eI (tr3 (crR (gL σ 52) i j) g (fc (gL σ 52) j)) (vd (vc (WL L i.toNatClampNeg) (WL L j.toNatClampNeg)) (vc G (WL L j.toNatClampNeg))) 1039392000000000000 := by rw [trI]; exact eI_d ec y1 (by decide) (by decide) (by decide)
      have x3 : eI (tr3 (crR (gL σ 52) i j) (fc (gL σ 52) i) g) (vd (vc (WL L i.toNatClampNeg) (WL L j.toNatClampNeg)) (vc (WL L i.toNatClampNeg) G)) 1039392000000000000 := by rw [trI]; exact eI_d ec y2 (by decide) (by decide) (by decide)
      unfold btQ btR
      rw [eI_0 x1, eI_le x2, eI_le x3]
    have ri : (∃ i, (0 ≤ i ∧ i < Int32.ofNat L.length) ∧ goI g (gL σ 52) i) ↔ ∃ i, i < L.length ∧ (alR G (WL L i) ∨ ∃ j, j < i ∧ vc (WL L i) (WL L j) ≠ v0 ∧ btR (WL L i) (WL L j) G) := by
      constructor
      · rintro ⟨i, ⟨i0, i1⟩, q | ⟨j, ⟨j0, j1⟩, q1, q2⟩⟩
        · exact ⟨_, tn_oN hl i0 i1, Or.inl ((al i i0 i1).mp q)⟩
        · have j2 : j < Int32.ofNat L.length := by grind
          exact ⟨_, tn_oN hl i0 i1, Or.inr ⟨_, tn_lt j0 j1, fun z => q1 ((e3_0 (crE hB h ⟨i0, i1⟩ ⟨j0, j2⟩)).mpr z), (bt i j i0 i1 j0 j2).mp q2⟩⟩
      · rintro ⟨i, i1, q | ⟨j, j1, q1, q2⟩⟩
        · have hi' : 0 ≤ Int32.ofNat i ∧ Int32.ofNat i < Int32.ofNat L.length := ⟨oN_nn (by omega), (oN_lt (by omega) hl).mpr i1⟩
          refine ⟨_, hi', Or.inl ((al _ hi'.1 hi'.2).mpr ?_)⟩
          rw [oN_tn (by omega)]
          exact q
        · have hi' : 0 ≤ Int32.ofNat i ∧ Int32.ofNat i < Int32.ofNat L.length := ⟨oN_nn (by omega), (oN_lt (by omega) hl).mpr i1⟩
          have hj' : 0 ≤ Int32.ofNat j ∧ Int32.ofNat j < Int32.ofNat L.length := ⟨oN_nn (by omega), (oN_lt (by omega) hl).mpr (by omega)⟩
          have ec := crE hB h hi' hj'
          have b := bt _ _ hi'.1 hi'.2 hj'.1 hj'.2
          rw [oN_tn (by omega), oN_tn (by omega)] at ec b
          exact ⟨_, hi', Or.inr ⟨Int32.ofNat j, ⟨hj'.1, (oN_lt (by omega) (by omega)).mpr j1⟩, fun z => q1 ((e3_0 ec).mp z), b.mpr q2⟩⟩
    rw [ri]
    constructor
    · rintro (q | ⟨-, q, -⟩ | ⟨-, -, q⟩)
      · exact Or.inr ⟨hr3, Or.inl (h0.mp q)⟩
      · exact absurd q e3'
      · exact Or.inr ⟨hr3, Or.inr q⟩
    · rintro (⟨q, -⟩ | ⟨-, q | q⟩)
      · exact absurd q hr3
      · exact Or.inl (h0.mpr q)
      · by_cases z : g = zer
        · exact Or.inl z
        · exact Or.inr (Or.inr ⟨z, e3', q⟩)
