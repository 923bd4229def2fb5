/-! ===== answers: the best three ===== -/
theorem wF_ft {s : ha_St} {a b c ta tb tc : Nat} : ftI (weighF s a b c ta tb tc) = ftI s ∧ gL (weighF s a b c ta tb tc) 21 6 = gL s 21 6 ∧ gL (weighF s a b c ta tb tc) 21 7 = gL s 21 7 ∧ gI (weighF s a b c ta tb tc) = gI s := by
  have fo : ∀ (t : ha_St) (r x y z : Nat), z ≠ r → gL (fillF t r x y) z = gL t z := by
    intro t r x y z hz
    funext j
    unfold fillF
    simp only [gL_sL]
    rw [if_neg (fun q => hz q.1), if_neg (fun q => hz q.1), if_neg (fun q => hz q.1)]
  have gi : ∀ (t : ha_St) (r x y : Nat), gI (fillF t r x y) = gI t := fun _ _ _ _ => rfl
  have w22 : gL (weigh1 s a b c ta tb tc) 22 = gL s 22 := by
    unfold weigh1
    rw [fo _ 25 _ _ 22 (by omega), fo _ 24 _ _ 22 (by omega), fo _ 23 _ _ 22 (by omega)]
  have w21 : gL (weigh1 s a b c ta tb tc) 21 = gL s 21 := by
    unfold weigh1
    rw [fo _ 25 _ _ 21 (by omega), fo _ 24 _ _ 21 (by omega), fo _ 23 _ _ 21 (by omega)]
  have wg : gI (weigh1 s a b c ta tb tc) = gI s := by unfold weigh1; rw [gi, gi, gi]
  have k : ∀ (u : ha_St) (x y : Int64), ftI (sL (sL u 21 5 x) 21 4 y) = ftI u ∧ gL (sL (sL u 21 5 x) 21 4 y) 21 6 = gL u 21 6 ∧ gL (sL (sL u 21 5 x) 21 4 y) 21 7 = gL u 21 7 ∧ gI (sL (sL u 21 5 x) 21 4 y) = gI u := by
    intro u x y
    refine ⟨?_, ?_, ?_, rfl⟩
    · unfold ftI
      rw [gL_sL, if_neg (by omega), gL_sL, if_neg (by omega), gL_sL, if_neg (by omega), gL_sL, if_neg (by omega), gL_sL, if_neg (by omega), gL_sL, if_neg (by omega)]
    · rw [gL_sL, if_neg (by omega), gL_sL, if_neg (by omega)]
    · rw [gL_sL, if_neg (by omega), gL_sL, if_neg (by omega)]
  unfold weighF weigh2
  have k1 := k (weigh1 s a b c ta tb tc) (lAbs (detF (weigh1 s a b c ta tb tc) 23 24 25)) (lAbs (detF (weigh1 s a b c ta tb tc) 22 24 25) * (gI (weigh1 s a b c ta tb tc) a 7).toInt64 + lAbs (detF (weigh1 s a b c ta tb tc) 23 22 25) * (gI (weigh1 s a b c ta tb tc) b 7).toInt64 + lAbs (detF (weigh1 s a b c ta tb tc) 23 24 22) * (gI (weigh1 s a b c ta tb tc) c 7).toInt64)
  have e22 : ftI (weigh1 s a b c ta tb tc) = ftI s := by unfold ftI; rw [w22]
  rw [e22, w21, wg] at k1
  rw [wg]
  exact k1
def bR (σ s : ha_St) (f : I3) (t : BT) : Prop := frX 21 26 σ s ∧ ftI s = f ∧ ((gI s 21 8 < 0 ∧ t.1 = -4) ∨ (0 ≤ t.1 ∧ gI s 21 8 = t.1 ∧ gL s 21 6 = t.2.1 ∧ gL s 21 7 = t.2.2))
theorem i3_nn {i j k : Int32} (hi : 0 ≤ i ∧ i < 10) (hj : 0 ≤ j ∧ j < 10) (hk : 0 ≤ k ∧ k < 10) : 0 ≤ i + 10 * j + 100 * k := by
  rw [Int32.le_iff_toInt_le, Int32.lt_iff_toInt_lt] at hi hj hk
  rw [show (10 : Int32).toInt = 10 by decide, show (0 : Int32).toInt = 0 by decide] at hi hj hk
  rw [Int32.le_iff_toInt_le, Int32.toInt_add, Int32.toInt_add, Int32.toInt_mul, Int32.toInt_mul, show (10 : Int32).toInt = 10 by decide, show (0 : Int32).toInt = 0 by decide, show (100 : Int32).toInt = 100 by decide]
  rw [Int.bmod_eq_of_le (n := 10 * j.toInt) (by omega) (by omega), Int.bmod_eq_of_le (n := 100 * k.toInt) (by omega) (by omega), Int.bmod_eq_of_le (n := i.toInt + 10 * j.toInt) (by omega) (by omega), Int.bmod_eq_of_le (by omega) (by omega)]
  omega
theorem try_R {σ s : ha_St} (h : RC σ) {f : I3} {t : BT} (r : bR σ s f t) (i j k : Int32) : bR σ (tryF s i j k) f (bsS σ f i j k t) := by
  have pe : ∀ x, pAt s x = pAt σ x := fun x => frX_pAt r.1 (by omega)
  have nn : ∀ x, cpP σ x → 0 ≤ x ∧ x < 10 := fun x q => ⟨q.1.1, Int32.lt_of_lt_of_le q.1.2 h.2.1.2⟩
  by_cases hp : cpP σ i ∧ cpP σ j ∧ cpP σ k
  · obtain ⟨a, pa⟩ := p_ex h hp.1
    obtain ⟨b, pb⟩ := p_ex h hp.2.1
    obtain ⟨c, pc⟩ := p_ex h hp.2.2
    have ka := p_at h pa
    have kb := p_at h pb
    have kc := p_at h pc
    have w := wg_v r.1 r.2.1 ka.2.1 kb.2.1 kc.2.1
    have we : wgF s a b c = weighF s a b c (gT σ a).1 (gT σ b).1 (gT σ c).1 := by unfold wgF; rw [r.1.1]
    have o := wF_ft (s := s) (a := a) (b := b) (c := c) (ta := (gT σ a).1) (tb := (gT σ b).1) (tc := (gT σ c).1)
    have te : tryF s i j k = if gL (wgF s a b c) 21 5 = 0 then wgF s a b c else remF (wgF s a b c) (i + 10 * j + 100 * k) := by
      unfold tryF
      rw [pe, pe, pe, pa, pb, pc]
    rw [te, we, w.1]
    have rs : bR σ (weighF s a b c (gT σ a).1 (gT σ b).1 (gT σ c).1) f t := by
      refine ⟨r.1.tr wF_X, by rw [o.1]; exact r.2.1, ?_⟩
      rw [o.2.2.2, o.2.1, o.2.2.1]
      exact r.2.2
    by_cases z : mB σ i.toNatClampNeg j.toNatClampNeg k.toNatClampNeg = 0
    · rw [if_pos z, bsS_n (fun q => q.2.2.2.1 z)]
      exact rs
    · rw [if_neg z]
      unfold remF
      rw [w.1, w.2]
      generalize weighF s a b c (gT σ a).1 (gT σ b).1 (gT σ c).1 = u at rs
      by_cases q : bsC σ f i j k t
      · rw [bsS_y q, if_pos]
        · refine ⟨((rs.1.tr (frX_sI (by omega) (by omega))).tr (frX_sL (by omega) (by omega))).tr (frX_sL (by omega) (by omega)), ?_, Or.inr ⟨i3_nn (nn i hp.1) (nn j hp.2.1) (nn k hp.2.2), ?_, ?_, ?_⟩⟩
          · rw [← rs.2.1]
            unfold ftI
            rw [gL_sL, if_neg (by omega), gL_sL, if_neg (by omega), gL_sL, if_neg (by omega), gL_sL, if_neg (by omega), gL_sL, if_neg (by omega), gL_sL, if_neg (by omega)]
            rfl
          · rw [gI_sL, gI_sL, gI_sI, if_pos ⟨rfl, rfl⟩]
          · rw [gL_sL, if_neg (by omega), gL_sL, if_pos ⟨rfl, rfl⟩]
          · rw [gL_sL, if_pos ⟨rfl, rfl⟩]
        · rcases rs.2.2 with ⟨g, -⟩ | ⟨g0, g1, g2, g3⟩
          · exact Or.inl g
          · right
            rw [g2, g3]
            exact Int64.not_le.mp (fun y => q.2.2.2.2 ⟨g0, y⟩)
      · rw [bsS_n q, if_neg]
        · exact rs
        · rintro (y | y)
          · rcases rs.2.2 with ⟨-, g⟩ | ⟨g0, g1, -⟩
            · exact q ⟨hp.1, hp.2.1, hp.2.2, z, fun x => by rw [g] at x; exact absurd x.1 (by decide)⟩
            · rw [g1] at y
              exact absurd y (Int32.not_lt.mpr g0)
          · rcases rs.2.2 with ⟨-, g⟩ | ⟨g0, g1, g2, g3⟩
            · exact q ⟨hp.1, hp.2.1, hp.2.2, z, fun x => by rw [g] at x; exact absurd x.1 (by decide)⟩
            · rw [g2, g3] at y
              exact q ⟨hp.1, hp.2.1, hp.2.2, z, fun x => absurd y (Int64.not_lt.mpr x.2)⟩
  · have te : tryF s i j k = s := by
      unfold tryF
      rw [pe, pe, pe]
      cases ea : pAt σ i with
      | none => rfl
      | some a =>
        cases eb : pAt σ j with
        | none => rfl
        | some b =>
          cases ec : pAt σ k with
          | none => rfl
          | some c => exact absurd ⟨(p_at h ea).1, (p_at h eb).1, (p_at h ec).1⟩ hp
    rw [te, bsS_n (fun q => hp ⟨q.1, q.2.1, q.2.2.1⟩)]
    exact r
theorem it_R {σ : ha_St} {f : I3} {F : Nat → ha_St → ha_St} {K : Nat → BT → BT} (st : ∀ n s t, bR σ s f t → bR σ (F n s) f (K n t)) : ∀ n s t, bR σ s f t → bR σ (itF F n s) f (itG K n t)
  | 0, _, _, r => r
  | n + 1, s, t, r => st n _ _ (it_R st n s t r)
theorem best_R {σ : ha_St} (h : RC σ) {x y d : Int32} (hd : 0 ≤ d ∧ d < 8) : bR σ (bestF σ x y d) (fe3 x y d) (mbF σ (fe3 x y d) (gI σ 44 1).toNatClampNeg) := by
  unfold bestF mbF
  rw [h.1]
  refine it_R (fun c s t r => ?_) _ _ _ ?_
  · unfold bk1 mb1
    refine it_R (fun c' s t r => ?_) _ _ _ r
    unfold bk2 mb2
    refine it_R (fun c'' s t r => ?_) _ _ _ r
    exact try_R h r _ _ _
  · refine ⟨aim_fr.tr (frX_sI (by omega) (by omega)), ?_, Or.inl ⟨?_, rfl⟩⟩
    · rw [← aim_v (σ := σ) hd]
      rfl
    · unfold best0
      rw [gI_sI, if_pos ⟨rfl, rfl⟩]
      decide
theorem mb_s {σ τ : ha_St} (s : sagr σ τ) (f : I3) (n : Nat) : mbF τ f n = mbF σ f n := by
  have fs := feat_s s
  have e : bsS τ f = bsS σ f := by
    funext i j k t
    have c : bsC τ f i j k t ↔ bsC σ f i j k t := by unfold bsC; rw [fs.2.2.2.1, fs.2.2.2.1, fs.2.2.2.1, fs.2.1, fs.2.2.1]
    by_cases q : bsC σ f i j k t
    · rw [bsS_y q, bsS_y (c.mpr q), fs.2.1, fs.2.2.1]
    · rw [bsS_n q, bsS_n (mt c.mp q)]
  have e3 : mb3 τ f = mb3 σ f := by funext i j n t; unfold mb3; rw [e]
  have e2 : mb2 τ f = mb2 σ f := by funext c i n t; unfold mb2; rw [e3]
  have e1 : mb1 τ f = mb1 σ f := by funext c i t; unfold mb1; rw [e2]
  unfold mbF
  rw [e1]
theorem bestQ_s {σ σ1 : ha_St} {x y d r : Int32} (c : bestQ σ x y d r σ1) : sagr σ σ1 := by
  rcases c with ⟨-, -, rfl⟩ | ⟨-, -, hf, -⟩
  · exact ⟨rfl, rfl, Nat.le_refl _, fun _ _ _ => rfl, fun _ _ _ => rfl⟩
  · exact sagr_Y hf
theorem e_best {σ σ1 σ2 : ha_St} {x y d r r' : Int32} (h : Inv σ) (c : bestQ σ x y d r σ1) (m : mBestQ σ1 x y d r' σ2) : r' = r ∧ Inv σ2 := by
  have s := bestQ_s c
  have i1 := h.ag s
  rcases m with ⟨m1, m2, m3⟩ | ⟨m1, m2, m3⟩
  · rcases c with ⟨-, c2, -⟩ | ⟨c1, -⟩
    · exact ⟨m2.trans c2.symm, by rw [m3]; exact i1⟩
    · exact absurd c1 m1
  · rcases c with ⟨c1, -⟩ | ⟨c1, c2, c3, c4⟩
    · exact absurd m1 c1
    · refine ⟨?_, i1.ag (sagr_J m2)⟩
      have b := best_R h.2.2.2.1 (x := x) (y := y) c1.2
      rw [m3, c4, mb_s s, s.2.2.2.1 44 1 (by unfold scr; omega), c2]
      rcases b.2.2 with ⟨b1, b2⟩ | ⟨b1, b2, -⟩
      · rw [if_pos b1, b2]
      · rw [b2, if_neg (Int32.not_lt.mpr b1)]
