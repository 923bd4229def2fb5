/-! ===== the reference's ranks, faces and goals as mathematics ===== -/
def WL (L : List I3) : Nat → V3 := fun k => toV (L.getD k zer)
def lB (L : List I3) : Prop := L.length ≤ 30 ∧ ∀ k, k < L.length → e3 (L.getD k zer) (WL L k) 6000 ∧ WL L k ≠ v0
def rhoL (ρ : Nat → Int64) (L : List I3) : Prop := ∀ k, k < L.length → (ρ (3 * k), ρ (3 * k + 1), ρ (3 * k + 2)) = L.getD k zer
theorem oN_lt {a b : Nat} (ha : a ≤ 30) (hb : b ≤ 30) : Int32.ofNat a < Int32.ofNat b ↔ a < b := by
  rw [Int32.lt_iff_toInt_lt, show (Int32.ofNat a).toInt = (a : Int) from nI_toInt (by omega), show (Int32.ofNat b).toInt = (b : Int) from nI_toInt (by omega)]
  omega
theorem oN_nn {a : Nat} (ha : a ≤ 30) : 0 ≤ Int32.ofNat a := by
  rw [Int32.le_iff_toInt_le, show (Int32.ofNat a).toInt = (a : Int) from nI_toInt (by omega), Int32.toInt_zero]
  omega
theorem oN_tn {a : Nat} (ha : a ≤ 30) : (Int32.ofNat a).toNatClampNeg = a := (i32s a (by omega)).2.2
theorem tn_oN {i : Int32} {n : Nat} (hn : n ≤ 30) (h0 : 0 ≤ i) (h : i < Int32.ofNat n) : i.toNatClampNeg < n := by
  have := tn_lt h0 h
  rw [oN_tn hn] at this
  exact this
theorem fcL {ρ : Nat → Int64} {L : List I3} (hL : L.length ≤ 30) (h : rhoL ρ L) {i : Int32} (h0 : 0 ≤ i) (h1 : i < Int32.ofNat L.length) : fc ρ i = L.getD i.toNatClampNeg zer := by
  have hk := tn_oN hL h0 h1
  have e := t30n i.toNatClampNeg (by omega)
  rw [nI_tn h0] at e
  rw [← h _ hk]
  unfold fc q0 q1 q2
  rw [e.1, e.2.1, e.2.2]
theorem crL {ρ : Nat → Int64} {i j : Int32} : crR ρ i j = crI (fc ρ i) (fc ρ j) := rfl
theorem dtL {c : I3} {ρ : Nat → Int64} {k : Int32} : dtR c ρ k = dtI c (fc ρ k) := rfl
theorem crE {ρ : Nat → Int64} {L : List I3} (hB : lB L) (h : rhoL ρ L) {i j : Int32} (hi : 0 ≤ i ∧ i < Int32.ofNat L.length) (hj : 0 ≤ j ∧ j < Int32.ofNat L.length) : e3 (crR ρ i j) (vc (WL L i.toNatClampNeg) (WL L j.toNatClampNeg)) 72000000 := by
  rw [crL, fcL hB.1 h hi.1 hi.2, fcL hB.1 h hj.1 hj.2]
  exact e3_c (hB.2 _ (tn_oN hB.1 hi.1 hi.2)).1 (hB.2 _ (tn_oN hB.1 hj.1 hj.2)).1 (by decide) (by decide) (by decide)
theorem dtE {ρ : Nat → Int64} {L : List I3} (hB : lB L) (h : rhoL ρ L) {c : I3} {C : V3} (hc : e3 c C 72000000) {k : Int32} (hk : 0 ≤ k ∧ k < Int32.ofNat L.length) : eI (dtR c ρ k) (vd C (WL L k.toNatClampNeg)) 1296000000000 := by
  rw [dtL, fcL hB.1 h hk.1 hk.2]
  exact eI_d hc (hB.2 _ (tn_oN hB.1 hk.1 hk.2)).1 (by decide) (by decide) (by decide)
theorem det_sw (a b c : V3) : vd (vc a b) c = -vd (vc b a) c := by unfold vd vc; grind
theorem det_cy (a b c : V3) : vd (vc a b) c = vd (vc b c) a := by unfold vd vc; grind
theorem r3_sort {W : Nat → V3} {n : Nat} (h : r3 W n) : ∃ i j k, k < j ∧ j < i ∧ i < n ∧ vd (vc (W i) (W j)) (W k) ≠ 0 := by
  obtain ⟨a, b, c, ha, hb, hc, q⟩ := h
  have sw : ∀ x y z, vd (vc (W x) (W y)) (W z) ≠ 0 → vd (vc (W y) (W x)) (W z) ≠ 0 := fun x y z h g => h (by rw [det_sw, g]; rfl)
  have cy : ∀ x y z, vd (vc (W x) (W y)) (W z) ≠ 0 → vd (vc (W y) (W z)) (W x) ≠ 0 := fun x y z h g => h (by rw [det_cy, g])
  have ab : a ≠ b := by
    intro e
    rw [e, vc_self] at q
    exact q (by unfold vd v0; simp)
  have bc : b ≠ c := by
    intro e
    have q2 := cy _ _ _ q
    rw [e, vc_self] at q2
    exact q2 (by unfold vd v0; simp)
  have ca : c ≠ a := by
    intro e
    have q2 := cy _ _ _ (cy _ _ _ q)
    rw [e, vc_self] at q2
    exact q2 (by unfold vd v0; simp)
  rcases Nat.lt_or_gt_of_ne ab with h1 | h1 <;> rcases Nat.lt_or_gt_of_ne bc with h2 | h2 <;> rcases Nat.lt_or_gt_of_ne ca with h3 | h3
  · omega
  · exact ⟨c, b, a, by omega, by omega, hc, sw _ _ _ (cy _ _ _ q)⟩
  · exact ⟨b, a, c, by omega, by omega, hb, sw _ _ _ q⟩
  · exact ⟨b, c, a, by omega, by omega, hb, cy _ _ _ q⟩
  · exact ⟨a, c, b, by omega, by omega, ha, sw _ _ _ (cy _ _ _ (cy _ _ _ q))⟩
  · exact ⟨c, a, b, by omega, by omega, hc, cy _ _ _ (cy _ _ _ q)⟩
  · exact ⟨a, b, c, by omega, by omega, ha, q⟩
  · omega
theorem R3_r3 {ρ : Nat → Int64} {L : List I3} (hB : lB L) (h : rhoL ρ L) : R3 ρ (Int32.ofNat L.length) ↔ r3 (WL L) L.length := by
  constructor
  · rintro ⟨i, j, k, ⟨h0, h1, h2, h3⟩, q⟩
    have hi : 0 ≤ i ∧ i < Int32.ofNat L.length := ⟨by grind, h3⟩
    have hj : 0 ≤ j ∧ j < Int32.ofNat L.length := ⟨by grind, by grind⟩
    have hk : 0 ≤ k ∧ k < Int32.ofNat L.length := ⟨h0, by grind⟩
    exact ⟨_, _, _, tn_oN hB.1 hi.1 hi.2, tn_oN hB.1 hj.1 hj.2, tn_oN hB.1 hk.1 hk.2, fun z => q ((eI_0 (dtE hB h (crE hB h hi hj) hk)).mpr z)⟩
  · intro q
    obtain ⟨i, j, k, h1, h2, h3, q⟩ := r3_sort q
    have hl := hB.1
    have hi : 0 ≤ Int32.ofNat i ∧ Int32.ofNat i < Int32.ofNat L.length := ⟨oN_nn (by omega), (oN_lt (by omega) hl).mpr h3⟩
    have hj : 0 ≤ Int32.ofNat j ∧ Int32.ofNat j < Int32.ofNat L.length := ⟨oN_nn (by omega), (oN_lt (by omega) hl).mpr (by omega)⟩
    have hk : 0 ≤ Int32.ofNat k ∧ Int32.ofNat k < Int32.ofNat L.length := ⟨oN_nn (by omega), (oN_lt (by omega) hl).mpr (by omega)⟩
    refine ⟨Int32.ofNat i, Int32.ofNat j, Int32.ofNat k, ⟨hk.1, (oN_lt (by omega) (by omega)).mpr h1, (oN_lt (by omega) (by omega)).mpr h2, hi.2⟩, fun z => q ?_⟩
    have e := (eI_0 (dtE hB h (crE hB h hi hj) hk)).mp z
    rw [oN_tn (by omega), oN_tn (by omega), oN_tn (by omega)] at e
    exact e
def r2 (W : Nat → V3) (n : Nat) : Prop := ∃ i j, j < i ∧ i < n ∧ vc (W i) (W j) ≠ v0
theorem R2_r2 {ρ : Nat → Int64} {L : List I3} (hB : lB L) (h : rhoL ρ L) : R2 ρ (Int32.ofNat L.length) ↔ r2 (WL L) L.length := by
  constructor
  · rintro ⟨i, j, ⟨h0, h1, h2⟩, q⟩
    have hi : 0 ≤ i ∧ i < Int32.ofNat L.length := ⟨by grind, h2⟩
    have hj : 0 ≤ j ∧ j < Int32.ofNat L.length := ⟨h0, by grind⟩
    exact ⟨_, _, tn_lt h0 h1, tn_oN hB.1 hi.1 hi.2, fun z => q ((e3_0 (crE hB h hi hj)).mpr z)⟩
  · rintro ⟨i, j, h1, h2, q⟩
    have hl := hB.1
    have hi : 0 ≤ Int32.ofNat i ∧ Int32.ofNat i < Int32.ofNat L.length := ⟨oN_nn (by omega), (oN_lt (by omega) hl).mpr h2⟩
    have hj : 0 ≤ Int32.ofNat j ∧ Int32.ofNat j < Int32.ofNat L.length := ⟨oN_nn (by omega), (oN_lt (by omega) hl).mpr (by omega)⟩
    refine ⟨Int32.ofNat i, Int32.ofNat j, ⟨hj.1, (oN_lt (by omega) (by omega)).mpr h1, hi.2⟩, fun z => q ?_⟩
    have e := (e3_0 (crE hB h hi hj)).mp z
    rw [oN_tn (by omega), oN_tn (by omega)] at e
    exact e
theorem R1_n {ρ : Nat → Int64} {L : List I3} (hB : lB L) (h : rhoL ρ L) : R1 ρ (Int32.ofNat L.length) ↔ 0 < L.length := by
  constructor
  · rintro ⟨i, ⟨h0, h1⟩, -⟩
    have := tn_oN hB.1 h0 h1
    omega
  · intro q
    have hl := hB.1
    have hi : 0 ≤ Int32.ofNat 0 ∧ Int32.ofNat 0 < Int32.ofNat L.length := ⟨oN_nn (by omega), (oN_lt (by omega) hl).mpr q⟩
    refine ⟨Int32.ofNat 0, hi, fun z => (hB.2 0 q).2 ?_⟩
    refine (e3_0 (hB.2 0 q).1).mp ?_
    have e := fcL hB.1 h hi.1 hi.2
    rw [oN_tn (by omega)] at e
    rw [← e]
    exact Prod.ext z.1 (Prod.ext z.2.1 z.2.2)
/-- the rank as the reference tells it -/
def rkS (W : Nat → V3) (n : Nat) (r : Int32) : Prop := (r = 3 ∧ r3 W n) ∨ (r = 2 ∧ ¬ r3 W n ∧ r2 W n) ∨ (r = 1 ∧ ¬ r3 W n ∧ ¬ r2 W n ∧ 0 < n) ∨ (r = 0 ∧ ¬ r3 W n ∧ ¬ r2 W n ∧ n = 0)
theorem rk_S {ρ : Nat → Int64} {L : List I3} {r : Int32} (hB : lB L) (h : rhoL ρ L) (q : rkQ ρ (Int32.ofNat L.length) r) : rkS (WL L) L.length r := by
  rcases q with ⟨e, q⟩ | ⟨q, ⟨e, q2⟩ | ⟨e, q2, q3⟩ | ⟨e, q2, q3⟩⟩
  · exact Or.inl ⟨e, (R3_r3 hB h).mp q⟩
  · exact Or.inr (Or.inl ⟨e, fun z => q ((R3_r3 hB h).mpr z), (R2_r2 hB h).mp q2⟩)
  · exact Or.inr (Or.inr (Or.inl ⟨e, fun z => q ((R3_r3 hB h).mpr z), fun z => q2 ((R2_r2 hB h).mpr z), (R1_n hB h).mp q3⟩))
  · exact Or.inr (Or.inr (Or.inr ⟨e, fun z => q ((R3_r3 hB h).mpr z), fun z => q2 ((R2_r2 hB h).mpr z), by have := mt (R1_n hB h).mpr q3; omega⟩))
/-- both tell one rank -/
theorem rank_eq {W : Nat → V3} {n : Nat} {r r' : Int32} {N : V3} (hW : ∀ k, k < n → W k ≠ v0) (h : meaS W n r N) (g : rkS W n r') : r = r' := by
  rcases h with ⟨e, z⟩ | ⟨e, z1, z2⟩ | ⟨e, ⟨j, j1, j2, j3⟩, z1, z2⟩ | ⟨e, ⟨j, j1, j2, j3⟩, z1, z2⟩
  · have n3 : ¬ r3 W n := by rw [z]; exact no_r3_0
    have n2 : ¬ r2 W n := by rintro ⟨i, j, h1, h2, -⟩; omega
    rcases g with ⟨e', q⟩ | ⟨e', -, q⟩ | ⟨e', -, -, q⟩ | ⟨e', -⟩
    · exact absurd q n3
    · exact absurd q n2
    · omega
    · rw [e, e']
  · have ha := line_all hW z1 z2
    have n3 : ¬ r3 W n := no_r3_1 ha
    have n2 : ¬ r2 W n := by rintro ⟨i, j, h1, h2, q⟩; exact q (ha i j h2 (by omega))
    rcases g with ⟨e', q⟩ | ⟨e', -, q⟩ | ⟨e', -⟩ | ⟨e', -, -, q⟩
    · exact absurd q n3
    · exact absurd q n2
    · rw [e, e']
    · omega
  · have n3 : ¬ r3 W n := no_r3_2 z1 z2
    have n2 : r2 W n := ⟨j, 0, by omega, j2, vc_sw (by rw [j3]; exact z1)⟩
    rcases g with ⟨e', q⟩ | ⟨e', -⟩ | ⟨e', -, q, -⟩ | ⟨e', -, q, -⟩
    · exact absurd q n3
    · rw [e, e']
    · exact absurd n2 q
    · exact absurd n2 q
  · rcases g with ⟨e', q⟩ | ⟨e', q, -⟩ | ⟨e', q, -⟩ | ⟨e', q, -⟩
    · rw [e, e']
    · exact absurd z2 q
    · exact absurd z2 q
    · exact absurd z2 q
theorem sdP_P {ρ : Nat → Int64} {L : List I3} (hB : lB L) (h : rhoL ρ L) {c : I3} {C : V3} (hc : e3 c C 72000000) : sdP c ρ (Int32.ofNat L.length) ↔ allP (WL L) L.length C := by
  have hl := hB.1
  constructor
  · intro q k hk
    have hk' : 0 ≤ Int32.ofNat k ∧ Int32.ofNat k < Int32.ofNat L.length := ⟨oN_nn (by omega), (oN_lt (by omega) hl).mpr hk⟩
    have e := (eI_le (dtE hB h hc hk')).mp (q _ hk'.1 hk'.2)
    rw [oN_tn (by omega)] at e
    exact e
  · intro q k h0 h1
    exact (eI_le (dtE hB h hc ⟨h0, h1⟩)).mpr (q _ (tn_oN hl h0 h1))
theorem sdM_M {ρ : Nat → Int64} {L : List I3} (hB : lB L) (h : rhoL ρ L) {c : I3} {C : V3} (hc : e3 c C 72000000) : sdM c ρ (Int32.ofNat L.length) ↔ allM (WL L) L.length C := by
  have hl := hB.1
  constructor
  · intro q k hk
    have hk' : 0 ≤ Int32.ofNat k ∧ Int32.ofNat k < Int32.ofNat L.length := ⟨oN_nn (by omega), (oN_lt (by omega) hl).mpr hk⟩
    have e := (eI_ge (dtE hB h hc hk')).mp (q _ hk'.1 hk'.2)
    rw [oN_tn (by omega)] at e
    exact e
  · intro q k h0 h1
    exact (eI_ge (dtE hB h hc ⟨h0, h1⟩)).mpr (q _ (tn_oN hl h0 h1))
theorem allP_sw {W : Nat → V3} {n i j : Nat} : allP W n (vc (W i) (W j)) ↔ allM W n (vc (W j) (W i)) := by rw [allM_n, ← vc_anti]
theorem fm_P {ρ : Nat → Int64} {L : List I3} (hB : lB L) (h : rhoL ρ L) : fmQ ρ (Int32.ofNat L.length) ↔ formP (WL L) L.length := by
  have hl := hB.1
  unfold fmQ formP
  rw [R3_r3 hB h]
  refine and_congr_right (fun _ => ⟨fun q i j hij hj hc => ?_, fun q x y hx hc => ?_⟩)
  · have hi' : 0 ≤ Int32.ofNat i ∧ Int32.ofNat i < Int32.ofNat L.length := ⟨oN_nn (by omega), (oN_lt (by omega) hl).mpr (by omega)⟩
    have hj' : 0 ≤ Int32.ofNat j ∧ Int32.ofNat j < Int32.ofNat L.length := ⟨oN_nn (by omega), (oN_lt (by omega) hl).mpr hj⟩
    have ec := crE hB h hj' hi'
    rw [oN_tn (by omega), oN_tn (by omega)] at ec
    have k := q (Int32.ofNat j) (Int32.ofNat i) ⟨hi'.1, (oN_lt (by omega) (by omega)).mpr hij, hj'.2⟩ (fun z => vc_sw hc ((e3_0 ec).mp z))
    rw [sdP_P hB h ec, sdM_M hB h ec] at k
    exact ⟨fun z => k.2 (allP_sw.mp z), fun z => k.1 (allP_sw.mpr z)⟩
  · have hx' : 0 ≤ x ∧ x < Int32.ofNat L.length := ⟨by grind, hx.2.2⟩
    have hy' : 0 ≤ y ∧ y < Int32.ofNat L.length := ⟨hx.1, by grind⟩
    have ec := crE hB h hx' hy'
    have k := q y.toNatClampNeg x.toNatClampNeg (tn_lt hx.1 hx.2.1) (tn_oN hl hx'.1 hx'.2) (vc_sw (fun z => hc ((e3_0 ec).mpr z)))
    rw [sdP_P hB h ec, sdM_M hB h ec]
    exact ⟨fun z => k.2 (allP_sw.mp z), fun z => k.1 (allP_sw.mpr z)⟩
