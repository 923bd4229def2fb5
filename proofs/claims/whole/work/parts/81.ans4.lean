/-! ===== answers: misses at features ===== -/
def ftI (s : ha_St) : I3 := (gL s 22 0, gL s 22 1, gL s 22 2)
theorem weigh_v {s : ha_St} {a b c ta tb tc : Nat} : gL (weighF s a b c ta tb tc) 21 5 = lAbs (tr3 (clRow s a ta (-1)) (clRow s b tb (-1)) (clRow s c tc (-1))) ∧ gL (weighF s a b c ta tb tc) 21 4 = lAbs (tr3 (ftI s) (clRow s b tb (-1)) (clRow s c tc (-1))) * (gI s a 7).toInt64 + lAbs (tr3 (clRow s a ta (-1)) (ftI s) (clRow s c tc (-1))) * (gI s b 7).toInt64 + lAbs (tr3 (clRow s a ta (-1)) (clRow s b tb (-1)) (ftI s)) * (gI s c 7).toInt64 := by
  have d : ∀ t : ha_St, ∀ x y z : Nat, detF t x y z = tr3 (gL t x 0, gL t x 1, gL t x 2) (gL t y 0, gL t y 1, gL t y 2) (gL t z 0, gL t z 1, gL t z 2) := fun _ _ _ _ => rfl
  have f3' : ∀ (t : ha_St) (r x y : Nat), (gL (fillF t r x y) r 0, gL (fillF t r x y) r 1, gL (fillF t r x y) r 2) = clRow t x y (-1) := by
    intro t r x y
    unfold fillF clRow
    simp only [gL_sL]
    rw [if_neg (by omega), if_neg (by omega), if_pos (by simp), if_neg (by omega), if_pos (by simp), if_pos (by simp)]
  have fo : ∀ (t : ha_St) (r x y z : Nat), z ≠ r → gL (fillF t r x y) z = gL t z := by
    intro t r x y z hz
    funext j
    unfold fillF
    simp only [gL_sL]
    rw [if_neg (fun q => hz q.1), if_neg (fun q => hz q.1), if_neg (fun q => hz q.1)]
  have cr : ∀ (t : ha_St) (r x y u v : Nat), clRow (fillF t r x y) u v (-1) = clRow t u v (-1) := fun _ _ _ _ _ _ => rfl
  have gi : ∀ (t : ha_St) (r x y : Nat), gI (fillF t r x y) = gI t := fun _ _ _ _ => rfl
  have w23 : (gL (weigh1 s a b c ta tb tc) 23 0, gL (weigh1 s a b c ta tb tc) 23 1, gL (weigh1 s a b c ta tb tc) 23 2) = clRow s a ta (-1) := by
    unfold weigh1
    rw [fo _ 25 _ _ 23 (by omega), fo _ 24 _ _ 23 (by omega), f3']
  have w24 : (gL (weigh1 s a b c ta tb tc) 24 0, gL (weigh1 s a b c ta tb tc) 24 1, gL (weigh1 s a b c ta tb tc) 24 2) = clRow s b tb (-1) := by
    unfold weigh1
    rw [fo _ 25 _ _ 24 (by omega), f3', cr]
  have w25 : (gL (weigh1 s a b c ta tb tc) 25 0, gL (weigh1 s a b c ta tb tc) 25 1, gL (weigh1 s a b c ta tb tc) 25 2) = clRow s c tc (-1) := by
    unfold weigh1
    rw [f3', cr, cr]
  have w22 : (gL (weigh1 s a b c ta tb tc) 22 0, gL (weigh1 s a b c ta tb tc) 22 1, gL (weigh1 s a b c ta tb tc) 22 2) = ftI s := by
    unfold weigh1 ftI
    rw [fo _ 25 _ _ 22 (by omega), fo _ 24 _ _ 22 (by omega), fo _ 23 _ _ 22 (by omega)]
  have wg : gI (weigh1 s a b c ta tb tc) = gI s := by unfold weigh1; rw [gi, gi, gi]
  unfold weighF weigh2
  rw [d, d, d, d, w22, w23, w24, w25, wg]
  generalize weigh1 s a b c ta tb tc = u
  constructor
  · rw [gL_sL, if_neg (by omega), gL_sL, if_pos ⟨rfl, rfl⟩]
  · rw [gL_sL, if_pos ⟨rfl, rfl⟩]
theorem ft3 {s : ha_St} {x y z : Int64} : ftI (sL (sL (sL s 22 0 x) 22 1 y) 22 2 z) = (x, y, z) := by
  unfold ftI
  rw [gL_sL, if_neg (by omega), gL_sL, if_neg (by omega), gL_sL, if_pos ⟨rfl, rfl⟩, gL_sL, if_neg (by omega), gL_sL, if_pos ⟨rfl, rfl⟩, gL_sL, if_pos ⟨rfl, rfl⟩]
theorem pt3 {p q : Int64} {x y : Int32} : (ptV p q x y 0, ptV p q x y 1, ptV p q x y 2) = (p, q, x.toInt64 * q - y.toInt64 * p) := by
  unfold ptV
  rw [if_pos rfl, if_neg (by decide), if_pos rfl, if_neg (by decide), if_neg (by decide)]
theorem aim_v {σ : ha_St} {x y d : Int32} (hd : 0 ≤ d ∧ d < 8) : ftI (aimF σ x y d) = fe3 x y d := by
  have k := dir_i hd
  unfold aimF
  rw [k.1, k.2.1, ft3]
  unfold fe3
  rw [pt3]
/-- the three weighed, as the reference has them -/
theorem wg_v {σ s : ha_St} {a b c i j k : Nat} {f : I3} (hf : frX 21 26 σ s) (ef : ftI s = f) (ha : ctR σ i a) (hb : ctR σ j b) (hc : ctR σ k c) : gL (weighF s a b c (gT σ a).1 (gT σ b).1 (gT σ c).1) 21 5 = mB σ i j k ∧ gL (weighF s a b c (gT σ a).1 (gT σ b).1 (gT σ c).1) 21 4 = mA σ f i j k := by
  have w := weigh_v (s := s) (a := a) (b := b) (c := c) (ta := (gT σ a).1) (tb := (gT σ b).1) (tc := (gT σ c).1)
  have h7 : ∀ x z, ctR σ z x → gI s x 7 = gI σ 51 z ∧ clRow s x (gT σ x).1 (-1) = dr3 σ z := by
    intro x z hx
    have r := (row_dir hx).1
    obtain ⟨t, -, -, h74, -, -, -, -, -, -, -, -, -, m7, -⟩ := hx
    exact ⟨by rw [(hf.2.2.2 x (by omega)).1]; exact m7, by rw [px_fr hf (by omega)]; exact r⟩
  rw [(h7 a i ha).1, (h7 b j hb).1, (h7 c k hc).1, (h7 a i ha).2, (h7 b j hb).2, (h7 c k hc).2, ef] at w
  exact w
theorem p_at {σ : ha_St} (h : RC σ) {i : Int32} {a : Nat} (hp : pAt σ i = some a) : cpP σ i ∧ ctR σ i.toNatClampNeg a ∧ gR σ 1 i.toNatClampNeg = some a ∧ i.toNatClampNeg < nC σ := by
  obtain ⟨t, h1, h2, h3, -, h5⟩ := pAt_some h.P hp
  have k := ct_at h h5
  refine ⟨⟨k.1, ?_⟩, k.2⟩
  obtain ⟨t', hT, ht, -, hk, -⟩ := k.2.1
  rw [← hk]
  intro z
  have e : t' = t := by have := hT.symm.trans h1; exact congrArg (fun z : Nat × Nat => z.1) this
  exact h3 (by rw [← e]; exact (kind_tag ht).1.mp z)
theorem p_ex {σ : ha_St} (h : RC σ) {i : Int32} (hp : cpP σ i) : ∃ a, pAt σ i = some a := by
  obtain ⟨a, ha⟩ := ct_ex h hp.1
  obtain ⟨-, ⟨t, hT, ht, -, hk, -⟩, -⟩ := ct_at h ha
  exact ⟨a, by rw [pAt_of ha hT, if_neg (fun z => hp.2 (by rw [← hk]; exact (kind_tag ht).1.mpr z))]⟩
def lawO (σ : ha_St) (x y d t lo r : Int32) (σ1 : ha_St) : Prop := (r = 0 ∧ ∃ x1 s1, worQ σ x y d t lo x1 s1 ∧ σ1 = sL s1 73 0 x1) ∨ (r = 1 ∧ worX σ x y d t IAE σ1) ∨ (r = 2 ∧ worX σ x y d t ISE σ1)
theorem wF_X {s : ha_St} {a b c ta tb tc : Nat} : frX 21 26 s (weighF s a b c ta tb tc) := by
  have ff : ∀ (t : ha_St) (r x y : Nat), 21 ≤ r → r < 26 → frX 21 26 t (fillF t r x y) := fun t r x y h1 h2 => ((frX_sL h1 h2).tr (frX_sL h1 h2)).tr (frX_sL h1 h2)
  unfold weighF weigh2 weigh1
  exact ((((ff _ _ _ _ (by omega) (by omega)).tr (ff _ _ _ _ (by omega) (by omega))).tr (ff _ _ _ _ (by omega) (by omega))).tr (frX_sL (by omega) (by omega))).tr (frX_sL (by omega) (by omega))
theorem worF_X {σ : ha_St} {x y d : Int32} {a b c : Nat} : frX 21 26 σ (worF σ x y d a b c) := aim_fr.tr wF_X
theorem lawO_s {σ σ1 : ha_St} {x y d t lo r : Int32} (h : lawO σ x y d t lo r σ1) : sagr σ σ1 := by
  rcases h with ⟨-, v, s, ⟨a, b, c, -, es, -⟩, rfl⟩ | ⟨-, ⟨-, -, g⟩ | ⟨e, -⟩⟩ | ⟨-, ⟨e, -⟩ | ⟨-, a, b, c, -, -, g⟩⟩
  · rw [es]; exact (sagr_Y worF_X).tr sagr_73
  · exact sagr_G g
  · exact absurd e IAE_ne
  · exact absurd e.symm IAE_ne
  · exact (sagr_Y worF_X).tr (sagr_G g)
theorem ok_T {σ : ha_St} (h : RC σ) {x y d t : Int32} : (∃ a b c, okT σ x y d t a b c) ↔ okMT σ x y d t := by
  constructor
  · rintro ⟨a, b, c, ⟨h1, h2, h3, h4⟩, pa, pb, pc, n1, n2, n3⟩
    have ka := p_at h pa
    have kb := p_at h pb
    have kc := p_at h pc
    refine ⟨⟨h1, h2⟩, h3, ka.1, kb.1, kc.1, fun z => n1 ?_, fun z => n2 ?_, fun z => n3 ?_⟩
    · have e : pAt σ (t - t / 10 * 10) = pAt σ (t / 10 - t / 10 / 10 * 10) := congrArg (pAt σ) z
      rw [pa, pb] at e; exact Option.some.inj e
    · have e : pAt σ (t - t / 10 * 10) = pAt σ (t / 100) := congrArg (pAt σ) z
      rw [pa, pc] at e; exact Option.some.inj e
    · have e : pAt σ (t / 10 - t / 10 / 10 * 10) = pAt σ (t / 100) := congrArg (pAt σ) z
      rw [pb, pc] at e; exact Option.some.inj e
  · rintro ⟨h1, h2, ca, cb, cc, n1, n2, n3⟩
    obtain ⟨a, pa⟩ := p_ex h ca
    obtain ⟨b, pb⟩ := p_ex h cb
    obtain ⟨c, pc⟩ := p_ex h cc
    have ka := p_at h pa
    have kb := p_at h pb
    have kc := p_at h pc
    have tl : t ≤ 999 := by
      have u := cc.1.2
      have v := h.2.1.2
      have w : t / 100 < 10 := Int32.lt_of_lt_of_le u v
      have w' := Int32.lt_iff_toInt_lt.mp w
      have h0 : 0 ≤ t.toInt := by have := Int32.le_iff_toInt_le.mp h2; rw [Int32.toInt_zero] at this; exact this
      have hl := Int32.toInt_lt t
      rw [Int32.toInt_div, show (100 : Int32).toInt = 100 by decide, Int.tdiv_eq_ediv_of_nonneg h0, Int.bmod_eq_of_le (by omega) (by omega), show (10 : Int32).toInt = 10 by decide] at w'
      rw [Int32.le_iff_toInt_le, show (999 : Int32).toInt = 999 by decide]
      omega
    have inj : ∀ {p q : Int32} {u v : Nat}, 0 ≤ p → 0 ≤ q → p.toNatClampNeg < nC σ → q.toNatClampNeg < nC σ → gR σ 1 p.toNatClampNeg = some u → gR σ 1 q.toNatClampNeg = some v → p ≠ q → u ≠ v := by
      intro p q u v p0 q0 pl ql e1 e2 ne z
      rw [← z] at e2
      have := h.2.2.2 _ _ u pl ql e1 e2
      exact ne (by rw [← nI_tn p0, ← nI_tn q0, this])
    exact ⟨a, b, c, ⟨h1.1, h1.2, h2, tl⟩, pa, pb, pc, inj ca.1.1 cb.1.1 ka.2.2.2 kb.2.2.2 ka.2.2.1 kb.2.2.1 n1, inj ca.1.1 cc.1.1 ka.2.2.2 kc.2.2.2 ka.2.2.1 kc.2.2.1 n2, inj cb.1.1 cc.1.1 kb.2.2.2 kc.2.2.2 kb.2.2.1 kc.2.2.1 n3⟩
theorem feat_s {σ τ : ha_St} (s : sagr σ τ) : (∀ x y d t, okMT τ x y d t ↔ okMT σ x y d t) ∧ (∀ a b c, mB τ a b c = mB σ a b c) ∧ (∀ f a b c, mA τ f a b c = mA σ f a b c) ∧ (∀ c, cpP τ c ↔ cpP σ c) ∧ nC τ = nC σ := by
  have me := mod_eq s
  have f45 : ∀ x, 45 ≤ x → x ≤ 51 → gI τ x = gI σ x := fun x p q => funext fun j => s.2.2.2.1 x j (by unfold scr; omega)
  have dr : ∀ c, dr3 τ c = dr3 σ c := fun c => by unfold dr3; rw [me.2.2.2.1, me.2.2.2.1, me.2.2.2.1]
  have cp : ∀ c, cpP τ c ↔ cpP σ c := fun c => by unfold cpP; rw [me.1, f45 45 (by omega) (by omega)]
  refine ⟨fun x y d t => by unfold okMT; rw [cp, cp, cp], fun a b c => by unfold mB; rw [dr, dr, dr], fun f a b c => by unfold mA; rw [dr, dr, dr, f45 51 (by omega) (by omega)], cp, by unfold nC; rw [me.1]⟩
theorem lAbs_b {x : Int64} {z b : Int} (h : eI x z b) (hb : b < 9223372036854775808) : eI (lAbs x) z.natAbs b := ⟨lAbs_E h hb, by have := h.2; omega, by have := h.2; omega⟩
theorem tr3_E {u v w : I3} {U V W : V3} (hu : e3 u U 200) (hv : e3 v V 200) (hw : e3 w W 200) : eI (tr3 u v w) (vd U (vc V W)) 48000000 := by
  rw [trI]
  exact eI_d hu (e3_c hv hw rfl (by decide) (by decide)) (by decide) (by decide) (by decide)
theorem fe3_E {x y d : Int32} (hp : plc x y) (hd : 0 ≤ d ∧ d < 8) : e3 (fe3 x y d) (toV (fe3 x y d)) 200 := by
  have k := dir_i hd
  have e1 := eJ_64 (eJ_of (B := 1) k.2.2.1 (by decide) (by decide))
  have e2 := eJ_64 (eJ_of (B := 1) k.2.2.2.1 (by decide) (by decide))
  have e5 := eJ_64 (eJ_of (b := 100) (B := 100) ⟨hp.1, hp.2.1⟩ (by decide) (by decide))
  have e6 := eJ_64 (eJ_of (b := 100) (B := 100) ⟨hp.2.2.1, hp.2.2.2⟩ (by decide) (by decide))
  have m3 : eI (fe3 x y d).2.2 (x.toInt * (upV d).toInt - y.toInt * (aloV d).toInt) 200 := eI_sub (eI_mul e5 e2 (by decide)) (eI_mul e6 e1 (by decide)) (by decide)
  have m1 : eI (fe3 x y d).1 (aloV d).toInt 1 := e1
  have m2 : eI (fe3 x y d).2.1 (upV d).toInt 1 := e2
  have fix : ∀ {v : Int64} {z b : Int}, eI v z b → b ≤ 200 → eI v v.toInt 200 := fun h hb => ⟨rfl, by rw [h.1]; have := h.2; omega⟩
  exact ⟨fix m1 (by decide), fix m2 (by decide), fix m3 (by decide)⟩
theorem AB_E {σ : ha_St} (h : RC σ) {f : I3} (hf : e3 f (toV f) 200) {i j k : Nat} (hi : i < nC σ) (hj : j < nC σ) (hk : k < nC σ) : (∃ z, eI (mB σ i j k) z 48000000) ∧ ∃ z, eI (mA σ f i j k) z 7200000000 := by
  have r : ∀ x, x < nC σ → e3 (dr3 σ x) (toV (dr3 σ x)) 200 ∧ eI (gI σ 51 x).toInt64 (gI σ 51 x).toInt 50 := fun x hx => by
    obtain ⟨a, -, hc⟩ := h.2.2.1 x hx
    have k := row_dir hc
    obtain ⟨t, -, -, -, -, -, -, -, -, -, -, -, -, -, -, -, -, m⟩ := hc
    exact ⟨k.2.1, eJ_64 (eJ_of (x := gI σ 51 x) (b := 50) (B := 50) ⟨by have := m.1; grind, m.2⟩ (by decide) (by decide))⟩
  have a := eI_add (eI_add (eI_mul (lAbs_b (tr3_E hf (r j hj).1 (r k hk).1) (by decide)) (r i hi).2 (by decide)) (eI_mul (lAbs_b (tr3_E (r i hi).1 hf (r k hk).1) (by decide)) (r j hj).2 (by decide)) (by decide)) (eI_mul (lAbs_b (tr3_E (r i hi).1 (r j hj).1 hf) (by decide)) (r k hk).2 (by decide)) (by decide)
  exact ⟨⟨_, lAbs_b (tr3_E (r i hi).1 (r j hj).1 (r k hk).1) (by decide)⟩, ⟨_, a⟩⟩
theorem e_worst {σ σ1 σ2 : ha_St} {x y d t lo r : Int32} {v : Int64} (h : Inv σ) (c : lawO σ x y d t lo r σ1) (m : mWorQ σ1 x y d t lo v σ2) : gI σ2 44 0 = r ∧ (r = 0 → gL σ2 73 0 = v) ∧ Inv σ2 := by
  have s := lawO_s c
  have i2 : Inv σ2 := (h.ag s).ag (sagr_J m.1)
  have g73 : gL σ2 73 0 = gL σ1 73 0 := by rw [m.1.2.2.2.2 73 (by omega)]
  have fs := feat_s s
  have hC := h.2.2.2.1
  obtain ⟨-, m⟩ := m
  rw [fs.1, fs.2.1, fs.2.2.1] at m
  have ev : ∀ a b c, okT σ x y d t a b c → gL (worF σ x y d a b c) 21 5 = mB σ (d0 t).toNatClampNeg (d1 t).toNatClampNeg (d2 t).toNatClampNeg ∧ gL (worF σ x y d a b c) 21 4 = mA σ (fe3 x y d) (d0 t).toNatClampNeg (d1 t).toNatClampNeg (d2 t).toNatClampNeg := by
    rintro a b c ⟨⟨-, hd, -⟩, pa, pb, pc, -⟩
    exact wg_v aim_fr (aim_v hd) (p_at hC pa).2.1 (p_at hC pb).2.1 (p_at hC pc).2.1
  rcases m with ⟨m1, m2⟩ | ⟨m1, m2, m3⟩ | ⟨m1, m2, m3, e, m4, m5⟩
  · have no := mt (ok_T hC).mp m1
    rcases c with ⟨-, -, -, ⟨a, b, c, ho, -⟩, -⟩ | ⟨er, -⟩ | ⟨-, ⟨e, -⟩ | ⟨-, a, b, c, ho, -⟩⟩
    · exact absurd ⟨a, b, c, ho⟩ no
    · rw [er]; exact ⟨m2, fun z => absurd z (by decide), i2⟩
    · exact absurd e.symm IAE_ne
    · exact absurd ⟨a, b, c, ho⟩ no
  · rcases c with ⟨-, x1, s1, ⟨a, b, c, ho, es, hz, -⟩, -⟩ | ⟨-, ⟨-, hno, -⟩ | ⟨e, -⟩⟩ | ⟨er, ⟨e, -⟩ | ⟨-, -⟩⟩
    · rw [es, (ev a b c ho).1] at hz
      exact absurd m2 hz
    · obtain ⟨a, b, c, ho⟩ := (ok_T hC).mpr m1
      exact absurd ho (hno a b c)
    · exact absurd e IAE_ne
    · exact absurd e.symm IAE_ne
    · rw [er]; exact ⟨m3, fun z => absurd z (by decide), i2⟩
  · rcases c with ⟨er, x1, s1, ⟨a, b, c, ho, es, hz, hv⟩, e1⟩ | ⟨-, ⟨-, hno, -⟩ | ⟨e, -⟩⟩ | ⟨-, ⟨e, -⟩ | ⟨-, a, b, c, ho, hz, -⟩⟩
    · refine ⟨by rw [er]; exact m3, fun _ => ?_, i2⟩
      have w := ev a b c ho
      have pa := p_at hC ho.2.1
      have pb := p_at hC ho.2.2.1
      have pc := p_at hC ho.2.2.2.1
      obtain ⟨⟨zB, eB⟩, zA, eA⟩ := AB_E hC (fe3_E ho.1.1 ho.1.2.1) pa.2.2.2 pb.2.2.2 pc.2.2.2
      have ge : e = divW s1 := by
        have := gcd_same eA eB (by decide) (by decide) m4
        rw [this]
        unfold divW
        rw [es, w.1, w.2]
        rfl
      have ne : divW s1 ≠ 0 := by
        rw [← ge]
        exact gcE_ne m4 (Or.inr (fun z => m2 (lAbs_0 z)))
      rw [g73, e1, gL_sL, if_pos ⟨rfl, rfl⟩, hv, if_neg ne, m5, ge, es, w.1, w.2]
      by_cases l0 : lo = 0
      · rw [if_pos l0, if_pos l0]
      · rw [if_neg l0, if_neg l0]
    · obtain ⟨a, b, c, ho⟩ := (ok_T hC).mpr m1
      exact absurd ho (hno a b c)
    · exact absurd e IAE_ne
    · exact absurd e.symm IAE_ne
    · rw [(ev a b c ho).1] at hz
      exact absurd hz m2
