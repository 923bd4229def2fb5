/-! ===== answers: what lies on the shelves ===== -/
theorem sAt_y {d : Int32} (h : shOK d) : sAt d = some (36 + d.toNatClampNeg) := by unfold sAt; rw [if_pos ⟨h.1, h.l⟩]
theorem sAt_n {d : Int32} (h : ¬ shOK d) : sAt d = none := by
  unfold sAt
  rw [if_neg]
  intro q
  exact h ⟨q.1, by have := q.2; grind⟩
theorem RS.SH {σ : ha_St} (h : RS σ) (hY : LY σ) : SH σ := by
  intro k hk
  obtain ⟨-, h⟩ := h.1 k hk
  rcases h with ⟨-, r0, r1, r2⟩ | ⟨-, r1, r2, b, t, b1, b2, b3, -⟩ | ⟨-, r1, r2, b, n, b1, b2, b3, -⟩ | ⟨-, r1, r2, b, n, b1, b2, b3, -, -, -, b7⟩
  · refine ⟨⟨ty_sh hY hk, fun b q => ?_, fun b q => ?_, fun b q => ?_⟩, fun q e => ?_⟩
    · rw [r0] at q; cases q
    · rw [r1] at q; cases q
    · rw [r2] at q; cases q
    · exact r1
  · refine ⟨⟨ty_sh hY hk, fun c q => ?_, fun c q => ?_, fun c q => ?_⟩, fun q e => r1⟩
    · cases b1.symm.trans q; exact ⟨t, b2, b3⟩
    · rw [r1] at q; cases q
    · rw [r2] at q; cases q
  · refine ⟨⟨ty_sh hY hk, fun c q => ?_, fun c q => ?_, fun c q => ?_⟩, fun q e => ?_⟩
    · rw [r1] at q; cases q
    · cases b1.symm.trans q; exact ⟨n, b3, b2⟩
    · rw [r2] at q; cases q
    · rw [r2] at e; cases e
  · refine ⟨⟨ty_sh hY hk, fun c q => ?_, fun c q => ?_, fun c q => ?_⟩, fun q e => r2⟩
    · rw [r1] at q; cases q
    · rw [r2] at q; cases q
    · cases b1.symm.trans q; exact ⟨n, b3, b2, b7⟩
theorem Inv.SH {σ : ha_St} (h : Inv σ) : SH σ := h.2.2.2.2.2.2.2.1.SH h.1
theorem inV_sh {d : Int32} : inV d 0 7 = 0 ↔ ¬ shOK d := inV_iff
/-- the three cases of a shelf -/
theorem sh_cases {σ : ha_St} {d : Int32} (h : RS σ) (hd : shOK d) : (gI σ 65 d.toNatClampNeg = 0 ∧ bareP σ (36 + d.toNatClampNeg)) ∨ (gI σ 65 d.toNatClampNeg = 1 ∧ ¬ bareP σ (36 + d.toNatClampNeg) ∧ gR σ (36 + d.toNatClampNeg) 1 = none ∧ gR σ (36 + d.toNatClampNeg) 2 = none ∧ ∃ b t, gR σ (36 + d.toNatClampNeg) 0 = some b ∧ gT σ b = (t, 0) ∧ pT t ∧ 74 ≤ b ∧ kindOf t = gI σ 67 d.toNatClampNeg ∧ gI σ b 4 = gI σ 66 d.toNatClampNeg ∧ gripOf σ b t = gI σ 68 d.toNatClampNeg ∧ gI σ b 3 = gI σ 69 d.toNatClampNeg) ∨ (gI σ 65 d.toNatClampNeg = 3 ∧ ¬ bareP σ (36 + d.toNatClampNeg) ∧ gR σ (36 + d.toNatClampNeg) 0 = none ∧ gR σ (36 + d.toNatClampNeg) 2 = none ∧ ∃ b n, gR σ (36 + d.toNatClampNeg) 1 = some b ∧ gT σ b = (20, n) ∧ n ≤ 60 ∧ 74 ≤ b ∧ gI σ 70 d.toNatClampNeg = Int32.ofNat n ∧ ∀ i, i < n → gI σ b i = gI σ 71 (60 * d.toNatClampNeg + i)) ∨ (gI σ 65 d.toNatClampNeg = 4 ∧ ¬ bareP σ (36 + d.toNatClampNeg) ∧ gR σ (36 + d.toNatClampNeg) 0 = none ∧ gR σ (36 + d.toNatClampNeg) 1 = none ∧ ∃ b n, gR σ (36 + d.toNatClampNeg) 2 = some b ∧ gT σ b = (22, n) ∧ n ≤ 60 ∧ 74 ≤ b ∧ gI σ 70 d.toNatClampNeg = Int32.ofNat n ∧ (∀ i, i < n → gI σ b i = gI σ 71 (60 * d.toNatClampNeg + i)) ∧ ∀ i, fits .byte (.int (gI σ b i)) = true) := by
  obtain ⟨-, k⟩ := h.1 _ (shOK_k hd)
  rcases k with ⟨e, r0, r1, r2⟩ | ⟨e, r1, r2, b, t, b1, b2, b3, b4, b5, b6, b7, b8, -⟩ | ⟨e, r1, r2, b, n, b1, b2⟩ | ⟨e, r1, r2, b, n, b1, b2⟩
  · exact Or.inl ⟨e, r0, r1, r2⟩
  · exact Or.inr (Or.inl ⟨e, (fun q => by have := q.1; rw [b1] at this; cases this), r1, r2, b, t, b1, b2, b3, b4, b5, b6, b7, b8⟩)
  · exact Or.inr (Or.inr (Or.inl ⟨e, (fun q => by have := q.2.1; rw [b1] at this; cases this), r1, r2, b, n, b1, b2⟩))
  · exact Or.inr (Or.inr (Or.inr ⟨e, (fun q => by have := q.2.2; rw [b1] at this; cases this), r1, r2, b, n, b1, b2⟩))
theorem lc_n {σ : ha_St} {d : Int32} (h : ¬ shOK d) : lcV σ d = -1 := by unfold lcV; rw [if_pos (inV_sh.mpr h)]
theorem lc_v {σ : ha_St} {d e : Int32} (h : shOK d) (he : gI σ 65 d.toNatClampNeg = e) : lcV σ d = if e = 0 then -11 else if e = 1 then 0 else -12 := by unfold lcV; rw [if_neg (mt inV_sh.mp (fun z => z h)), he]
theorem e_weight {σ : ha_St} {d : Int32} (h : Inv σ) : mWeight σ d = weightV σ d := by
  unfold mWeight weightV
  by_cases hd : shOK d
  · rw [sAt_y hd]
    simp only []
    rcases sh_cases h.2.2.2.2.2.2.2.1 hd with ⟨e, r⟩ | ⟨e, nb, r1, r2, b, t, b1, b2, b3, b4, b5, b6, b7, b8⟩ | ⟨e, nb, r1, r2, b, n, b1, -⟩ | ⟨e, nb, r1, r2, b, n, b1, -⟩
    · rw [lc_v hd e, if_neg (by decide), if_pos r]
      rfl
    · rw [lc_v hd e, if_pos (by decide), if_neg nb, b1]
      simp only []
      unfold mWgS
      rw [← b5, ← b7, ← b8, b2]
      unfold weighsOf gripOf
      rcases b3 with rfl | rfl | rfl | rfl
      · rw [if_pos (by decide), if_neg (by decide), if_pos (by decide), if_neg (by decide), if_neg (by decide), if_pos rfl]
        grind
      · rw [if_neg (by decide), if_pos (by decide), if_pos (by decide), if_neg (by decide), if_neg (by decide), if_pos rfl]
        grind
      · rw [if_neg (by decide), if_neg (by decide), if_pos (by decide), if_neg (by decide), if_pos rfl]
        grind
      · rw [if_neg (by decide), if_pos (by decide), if_neg (by decide), if_neg (by decide), if_neg (by decide), if_neg (by decide)]
        grind
    · rw [lc_v hd e, if_neg (by decide), if_neg nb, r1]
      rfl
    · rw [lc_v hd e, if_neg (by decide), if_neg nb, r1]
      rfl
  · rw [sAt_n hd, lc_n hd]
    rfl
theorem e_toss {σ σ1 : ha_St} {d : Int32} (h : Inv σ) (g : gro σ σ1) : mToss σ1 d = tossV σ d ∧ Inv σ1 := by
  refine ⟨?_, h.ag (sagr_G g)⟩
  have e1 : mToss σ1 d = mToss σ d := by
    obtain ⟨x, -, rfl⟩ := g
    rfl
  rw [e1]
  unfold mToss tossV
  by_cases hd : shOK d
  · rw [sAt_y hd]
    simp only []
    rcases sh_cases h.2.2.2.2.2.2.2.1 hd with ⟨e, r⟩ | ⟨e, nb, r1, r2, b, t, b1, b2, b3, b4, b5, b6, b7, b8⟩ | ⟨e, nb, r1, r2, b, n, b1, -⟩ | ⟨e, nb, r1, r2, b, n, b1, -⟩
    · rw [lc_v hd e, if_neg (by decide), if_pos r]
      rfl
    · rw [lc_v hd e, if_pos (by decide), if_neg nb, b1]
      simp only []
      unfold failV
      rw [← b5, b2, b6]
      rcases b3 with rfl | rfl | rfl | rfl
      · rw [if_neg (by decide), if_pos (by decide)]
      · rw [if_pos (by decide), if_neg (by decide)]
      · rw [if_neg (by decide), if_pos (by decide)]
      · rw [if_pos (by decide), if_neg (by decide)]
    · rw [lc_v hd e, if_neg (by decide), if_neg nb, r1]
      rfl
    · rw [lc_v hd e, if_neg (by decide), if_neg nb, r1]
      rfl
  · rw [sAt_n hd, lc_n hd]
    rfl
def lawE (σ : ha_St) (d i r : Int32) (σ1 : ha_St) : Prop := (r = 0 ∧ ∃ x1 s1, eleQ σ d i x1 s1 ∧ σ1 = sL s1 73 0 x1) ∨ (r = 1 ∧ eleX σ d i IAE σ1) ∨ (r = 2 ∧ eleX σ d i ISE σ1)
theorem lawE_s {σ σ1 : ha_St} {d i r : Int32} (h : lawE σ d i r σ1) : sagr σ σ1 := by
  rcases h with ⟨-, v, s, ⟨a, -, -, -, rfl⟩, rfl⟩ | ⟨-, ⟨-, -, g⟩ | ⟨e, -⟩⟩ | ⟨-, ⟨e, -⟩ | ⟨-, -, g⟩⟩
  · exact sagr_73
  · exact sagr_G g
  · exact absurd e IAE_ne
  · exact absurd e.symm IAE_ne
  · exact sagr_G g
theorem toI_ofN {n : Nat} (h : n ≤ 60) : (Int32.ofNat n).toInt = n := by
  rw [Int32.toInt_ofNat', show Int32.size = 4294967296 by rfl, Int.bmod_eq_of_le (by omega) (by omega)]
theorem plc_1 {i : Int32} {n : Nat} (hn : n ≤ 60) (N : Int32) (e : N = Int32.ofNat n) : (0 ≤ i ∧ 0 ≤ (1 : Int32) ∧ (1 : Int32) ≤ Int32.ofNat n ∧ i ≤ Int32.ofNat n - 1) ↔ (0 ≤ i ∧ i ≤ N - 1) := by
  have k := toI_ofN hn
  have k1 : (Int32.ofNat n - 1).toInt = n - 1 := by
    rw [Int32.toInt_sub, k, show (1 : Int32).toInt = 1 by decide, Int.bmod_eq_of_le (by omega) (by omega)]
  rw [e]
  constructor
  · exact fun q => ⟨q.1, q.2.2.2⟩
  · intro q
    refine ⟨q.1, by decide, ?_, q.2⟩
    have q0 := Int32.le_iff_toInt_le.mp q.1
    have q1 := Int32.le_iff_toInt_le.mp q.2
    rw [k1] at q1
    rw [show (0 : Int32).toInt = 0 by decide] at q0
    rw [Int32.le_iff_toInt_le, k, show (1 : Int32).toInt = 1 by decide]
    omega
theorem ele_ok {σ : ha_St} {d i : Int32} (h : RS σ) (hd : shOK d) : (plcP σ (36 + d.toNatClampNeg) i 1 ↔ mElOK σ d i) ∧ (mElOK σ d i → valOf σ (36 + d.toNatClampNeg) i = (gI σ 71 (60 * d.toNatClampNeg + i.toNatClampNeg)).toInt64) := by
  have pn : ∀ n : Nat, n ≤ 60 → gI σ 70 d.toNatClampNeg = Int32.ofNat n → mElOK σ d i → i.toNatClampNeg < n := by
    intro n hn e q
    obtain ⟨-, q0, q1⟩ := q
    have k := plc_in (N := n) (n := 1) ((plc_1 hn _ e).mpr ⟨q0, q1⟩) hn
    rw [show (1 : Int32).toNatClampNeg = 1 by decide] at k
    omega
  unfold plcP
  rcases sh_cases h hd with ⟨e, r⟩ | ⟨e, nb, r1, r2, b, t, b1, b2, b3, b4, b5, b6, b7, b8⟩ | ⟨e, nb, r1, r2, b, n, b1, b2, b3, b4, b5, b6⟩ | ⟨e, nb, r1, r2, b, n, b1, b2, b3, b4, b5, b6, b7⟩
  · have no : ¬ mElOK σ d i := fun q => by have := q.1; rw [e] at this; exact absurd this (by decide)
    rw [shLen_0 r.2.1 r.2.2]
    exact ⟨⟨fun q => absurd q.2.2.1 (by decide), fun q => absurd q no⟩, fun q => absurd q no⟩
  · have no : ¬ mElOK σ d i := fun q => by have := q.1; rw [e] at this; exact absurd this (by decide)
    rw [shLen_0 r1 r2]
    exact ⟨⟨fun q => absurd q.2.2.1 (by decide), fun q => absurd q no⟩, fun q => absurd q no⟩
  · rw [shLen_1 b1 b2]
    refine ⟨(plc_1 b3 _ b5).trans ⟨fun q => ⟨by rw [e]; decide, q⟩, fun q => q.2⟩, fun q => ?_⟩
    unfold valOf
    rw [b1]
    simp only []
    rw [b6 _ (pn n b3 b5 q)]
  · rw [shLen_2 r2 b1 b2]
    refine ⟨(plc_1 b3 _ b5).trans ⟨fun q => ⟨by rw [e]; decide, q⟩, fun q => q.2⟩, fun q => ?_⟩
    unfold valOf
    rw [r2]
    simp only []
    rw [b1]
    simp only []
    rw [b6 _ (pn n b3 b5 q)]
theorem e_element {σ σ1 σ2 : ha_St} {d i r : Int32} {x : Int64} (h : Inv σ) (c : lawE σ d i r σ1) (m : mEleQ σ1 d i x σ2) : gI σ2 44 0 = r ∧ (r = 0 → gL σ2 73 0 = x) ∧ Inv σ2 := by
  have s := lawE_s c
  have i1 := h.ag s
  have gg : ∀ a, 65 ≤ a → a ≤ 71 → gI σ1 a = gI σ a := fun a p q => funext fun j => s.2.2.2.1 a j (by unfold scr; omega)
  have mo : mElOK σ1 d i ↔ mElOK σ d i := by unfold mElOK; rw [gg 65 (by omega) (by omega), gg 70 (by omega) (by omega)]
  have ek := fun hd => ele_ok (σ := σ) (d := d) (i := i) h.2.2.2.2.2.2.2.1 hd
  rcases m with ⟨m1, m2⟩ | ⟨m1, m2, m3⟩ | ⟨m1, m2, m3, m4⟩
  · refine ⟨?_, ?_, by rw [m2]; exact i1.ag (sagr_J frJ_th)⟩
    all_goals rcases c with ⟨er, v, s1, ⟨a, c1, -⟩, -⟩ | ⟨er, -⟩ | ⟨-, ⟨e, -⟩ | ⟨-, ⟨a, c1, -⟩, -⟩⟩
    · rw [sAt_n m1] at c1; cases c1
    · rw [er, m2, gI_sI, if_pos ⟨rfl, rfl⟩]
    · exact absurd e.symm IAE_ne
    · rw [sAt_n m1] at c1; cases c1
    · rw [sAt_n m1] at c1; cases c1
    · rw [er]; exact fun z => absurd z (by decide)
    · exact absurd e.symm IAE_ne
    · rw [sAt_n m1] at c1; cases c1
  · rw [mo] at m2
    refine ⟨?_, ?_, by rw [m3]; exact i1.ag (sagr_J frJ_th)⟩
    all_goals rcases c with ⟨er, v, s1, ⟨a, c1, c2, -⟩, -⟩ | ⟨-, ⟨-, c1, -⟩ | ⟨e, -⟩⟩ | ⟨er, -⟩
    · rw [sAt_y m1] at c1; cases c1; exact absurd ((ek m1).1.mp c2) m2
    · rw [sAt_y m1] at c1; cases c1
    · exact absurd e IAE_ne
    · rw [er, m3, gI_sI, if_pos ⟨rfl, rfl⟩]
    · rw [sAt_y m1] at c1; cases c1; exact absurd ((ek m1).1.mp c2) m2
    · rw [sAt_y m1] at c1; cases c1
    · exact absurd e IAE_ne
    · rw [er]; exact fun z => absurd z (by decide)
  · rw [mo] at m2
    refine ⟨?_, ?_, by rw [m3]; exact i1.ag (sagr_J frJ_th)⟩
    all_goals rcases c with ⟨er, v, s1, ⟨a, c1, c2, c3, c4⟩, c5⟩ | ⟨-, ⟨-, c1, -⟩ | ⟨e, -⟩⟩ | ⟨-, ⟨e, -⟩ | ⟨-, ⟨a, c1, c2⟩, -⟩⟩
    · rw [er, m3, gI_sI, if_pos ⟨rfl, rfl⟩]
    · rw [sAt_y m1] at c1; cases c1
    · exact absurd e IAE_ne
    · exact absurd e.symm IAE_ne
    · rw [sAt_y m1] at c1; cases c1; exact absurd ((ek m1).1.mpr m2) c2
    · intro _
      rw [sAt_y m1] at c1
      cases c1
      rw [m3, gL_sI, c5, gL_sL, if_pos ⟨rfl, rfl⟩, c3, (ek m1).2 m2, m4, gg 71 (by omega) (by omega)]
    · rw [sAt_y m1] at c1; cases c1
    · exact absurd e IAE_ne
    · exact absurd e.symm IAE_ne
    · rw [sAt_y m1] at c1; cases c1; exact absurd ((ek m1).1.mpr m2) c2
