/-! ===== class and reference side by side ===== -/
def eJ (x : Int32) (z b : Int) : Prop := x.toInt = z ∧ -b ≤ z ∧ z ≤ b
theorem eJ_add {x y : Int32} {z w b c : Int} (h : eJ x z b) (g : eJ y w c) (hb : b + c < 2147483648) : eJ (x + y) (z + w) (b + c) := by
  refine ⟨?_, by have := h.2; have := g.2; omega, by have := h.2; have := g.2; omega⟩
  rw [Int32.toInt_add, h.1, g.1]
  exact Int.bmod_eq_of_le (by have := h.2; have := g.2; omega) (by have := h.2; have := g.2; omega)
theorem eJ_sub {x y : Int32} {z w b c : Int} (h : eJ x z b) (g : eJ y w c) (hb : b + c < 2147483648) : eJ (x - y) (z - w) (b + c) := by
  refine ⟨?_, by have := h.2; have := g.2; omega, by have := h.2; have := g.2; omega⟩
  rw [Int32.toInt_sub, h.1, g.1]
  exact Int.bmod_eq_of_le (by have := h.2; have := g.2; omega) (by have := h.2; have := g.2; omega)
theorem eJ_mul {x y : Int32} {z w b c : Int} (h : eJ x z b) (g : eJ y w c) (hb : b * c < 2147483648) : eJ (x * y) (z * w) (b * c) := by
  have k := mul_bd h.2.1 h.2.2 g.2.1 g.2.2
  refine ⟨?_, k⟩
  rw [Int32.toInt_mul, h.1, g.1]
  exact Int.bmod_eq_of_le (by omega) (by omega)
theorem eJ_64 {x : Int32} {z b : Int} (h : eJ x z b) : eI x.toInt64 z b := ⟨by rw [Int32.toInt_toInt64]; exact h.1, h.2⟩
theorem eJ_of {x : Int32} {b : Int32} {B : Int} (h0 : -b ≤ x ∧ x ≤ b) (hb : b.toInt = B) (hn : (-b).toInt = -B) : eJ x x.toInt B := by
  have h1 := Int32.le_iff_toInt_le.mp h0.1
  have h2 := Int32.le_iff_toInt_le.mp h0.2
  exact ⟨rfl, by omega, by omega⟩
theorem dir_n : ∀ d : Nat, d < 8 → dirX d = aloV (Int32.ofNat d) ∧ dirY d = upV (Int32.ofNat d) ∧ (-1 ≤ dirX d ∧ dirX d ≤ 1) ∧ (-1 ≤ dirY d ∧ dirY d ≤ 1) ∧ ¬ (dirX d = 0 ∧ dirY d = 0) := by decide
theorem dir_i {d : Int32} (h : 0 ≤ d ∧ d < 8) : dirX d.toNatClampNeg = aloV d ∧ dirY d.toNatClampNeg = upV d ∧ (-1 ≤ aloV d ∧ aloV d ≤ 1) ∧ (-1 ≤ upV d ∧ upV d ≤ 1) ∧ ¬ (aloV d = 0 ∧ upV d = 0) := by
  have l := tn_lt h.1 h.2
  rw [show (8 : Int32).toNatClampNeg = 8 by decide] at l
  have k := dir_n _ l
  rw [nI_tn h.1] at k
  rw [k.1, k.2.1] at k
  have k0 := dir_n _ l
  rw [nI_tn h.1] at k0
  exact ⟨k0.1, k0.2.1, k.2.2⟩
/-- a contact and what the reference has of it -/
def ctR (σ : ha_St) (i a : Nat) : Prop := ∃ t, gT σ a = (t, 0) ∧ pT t ∧ 74 ≤ a ∧ kindOf t = gI σ 45 i ∧ gI σ a 0 = gI σ 46 i ∧ (0 ≤ gI σ 46 i ∧ gI σ 46 i < 8) ∧ gI σ a 1 = dirX (gI σ 46 i).toNatClampNeg ∧ gI σ a 2 = dirY (gI σ 46 i).toNatClampNeg ∧ gI σ a 3 = gI σ 50 i ∧ gI σ a 4 = Int32.ofNat i ∧ gI σ a 5 = gI σ 47 i ∧ gI σ a 6 = gI σ 48 i ∧ gI σ a 7 = gI σ 51 i ∧ gripOf σ a t = gI σ 49 i ∧
  plc (gI σ 47 i) (gI σ 48 i) ∧ (0 ≤ gI σ 49 i ∧ gI σ 49 i ≤ 20) ∧ (0 ≤ gI σ 51 i ∧ gI σ 51 i ≤ 50)
def nC (σ : ha_St) : Nat := (gI σ 44 1).toNatClampNeg
def RC (σ : ha_St) : Prop := gI σ 0 1 = gI σ 44 1 ∧ MN σ ∧ (∀ i, i < nC σ → ∃ a, gR σ 1 i = some a ∧ ctR σ i a) ∧ ∀ i j a, i < nC σ → j < nC σ → gR σ 1 i = some a → gR σ 1 j = some a → i = j
theorem RC.P {σ : ha_St} (h : RC σ) : PN σ := by
  unfold PN
  rw [h.1]
  refine ⟨h.2.1.1, h.2.1.2, fun i hi => ?_⟩
  obtain ⟨a, h1, t, h2, h3, h4, -⟩ := h.2.2.1 i hi
  exact ⟨a, t, h1, h2, h3, h4⟩
theorem nC_le {σ : ha_St} (h : MN σ) : nC σ ≤ 10 := by
  have := tn_le h.1 h.2
  rw [show (10 : Int32).toNatClampNeg = 10 by decide] at this
  exact this
theorem kind_tag {t : Nat} (h : pT t) : (kindOf t = 2 ↔ t = 2) ∧ (kindOf t = 1 ↔ t = 6) ∧ (kindOf t = 3 ↔ t = 1) ∧ countOf t = (if kindOf t = 1 then 2 else if kindOf t = 3 then 3 else 1) ∧ ∀ p, leansOf t p = -trV (kindOf t) p := by
  rcases h with rfl | rfl | rfl | rfl
  · refine ⟨by decide, by decide, by decide, by decide, fun p => ?_⟩
    show 1 - p = -(p - 1)
    grind
  · refine ⟨by decide, by decide, by decide, by decide, fun p => ?_⟩
    show 0 = -0
    decide
  · refine ⟨by decide, by decide, by decide, by decide, fun p => ?_⟩
    show 1 - 2 * p = -(2 * p - 1)
    grind
  · refine ⟨by decide, by decide, by decide, by decide, fun p => ?_⟩
    show 0 = -0
    decide
/-- the row of a direction, of a push -/
def clRow (σ : ha_St) (a t : Nat) (p : Int32) : I3 := ((pxOf σ a t p).toInt64, (pyOf σ a t p).toInt64, (tuOf σ a t p).toInt64)
theorem v3_nz {a b c : Int} (h : ¬ (a = 0 ∧ b = 0)) : ((a, b, c) : V3) ≠ v0 := fun q => h ⟨(v3_0.mp q).1, (v3_0.mp q).2.1⟩
theorem row_dir {σ : ha_St} {i a : Nat} (h : ctR σ i a) : clRow σ a (gT σ a).1 (-1) = dr3 σ i ∧ e3 (dr3 σ i) (toV (dr3 σ i)) 200 ∧ toV (dr3 σ i) ≠ v0 := by
  obtain ⟨t, hT, ht, -, -, -, hd, h1, h2, -, -, h5, h6, -, -, hp, -⟩ := h
  have k := dir_i hd
  rw [k.1] at h1
  rw [k.2.1] at h2
  have e1 := eJ_of (B := 1) k.2.2.1 (by decide) (by decide)
  have e2 := eJ_of (B := 1) k.2.2.2.1 (by decide) (by decide)
  have e5 := eJ_of (b := 100) (B := 100) ⟨hp.1, hp.2.1⟩ (by decide) (by decide)
  have e6 := eJ_of (b := 100) (B := 100) ⟨hp.2.2.1, hp.2.2.2⟩ (by decide) (by decide)
  have ep : pxOf σ a (gT σ a).1 (-1) = aloV (gI σ 46 i) := by unfold pxOf; rw [if_pos (by decide), h1]
  have eq : pyOf σ a (gT σ a).1 (-1) = upV (gI σ 46 i) := by unfold pyOf; rw [if_pos (by decide), h2]
  have et : tuOf σ a (gT σ a).1 (-1) = gI σ 47 i * upV (gI σ 46 i) - gI σ 48 i * aloV (gI σ 46 i) := by unfold tuOf; rw [ep, eq, h5, h6]
  have m := eJ_sub (eJ_mul e5 e2 (by decide)) (eJ_mul e6 e1 (by decide)) (by decide)
  have m1 := eJ_64 e1
  have m2 := eJ_64 e2
  have m3 : eI (dirV σ i 2) ((gI σ 47 i).toInt * (upV (gI σ 46 i)).toInt - (gI σ 48 i).toInt * (aloV (gI σ 46 i)).toInt) 200 := eI_sub (eI_mul (eJ_64 e5) m2 (by decide)) (eI_mul (eJ_64 e6) m1 (by decide)) (by decide)
  have eT : (tuOf σ a (gT σ a).1 (-1)).toInt64 = dirV σ i 2 := by
    rw [et]
    exact Int64.toInt_inj.mp ((eJ_64 m).1.trans m3.1.symm)
  refine ⟨?_, ?_, ?_⟩
  · unfold clRow
    rw [eT, ep, eq]
    rfl
  · exact ⟨⟨rfl, by have a := m1.1; have b := m1.2; show -200 ≤ (aloV (gI σ 46 i)).toInt64.toInt ∧ _; rw [a]; show _ ∧ (aloV (gI σ 46 i)).toInt64.toInt ≤ 200; rw [a]; omega⟩, ⟨rfl, by have a := m2.1; have b := m2.2; show -200 ≤ (upV (gI σ 46 i)).toInt64.toInt ∧ (upV (gI σ 46 i)).toInt64.toInt ≤ 200; rw [a]; omega⟩, ⟨rfl, by have a := m3.1; have b := m3.2; show -200 ≤ (dirV σ i 2).toInt ∧ (dirV σ i 2).toInt ≤ 200; rw [a]; omega⟩⟩
  · refine v3_nz (fun q => k.2.2.2.2 ⟨?_, ?_⟩)
    · have := q.1
      rw [show (dr3 σ i).1 = (aloV (gI σ 46 i)).toInt64 from rfl, m1.1] at this
      exact Int32.toInt_inj.mp (by rw [this]; rfl)
    · have := q.2
      rw [show (dr3 σ i).2.1 = (upV (gI σ 46 i)).toInt64 from rfl, m2.1] at this
      exact Int32.toInt_inj.mp (by rw [this]; rfl)
/-- pushes -/
def ps3 (σ : ha_St) (c : Nat) (p : Int32) : I3 := (psV σ c p 0, psV σ c p 1, psV σ c p 2)
theorem tr_b {k p : Int32} (hp : 0 ≤ p) (h : p < (if k = 1 then 2 else if k = 3 then 3 else 1)) : -1 ≤ trV k p ∧ trV k p ≤ 1 := by
  unfold trV
  by_cases h1 : k = 1
  · rw [if_pos h1] at h ⊢
    have : p = 0 ∨ p = 1 := by grind
    rcases this with q | q <;> rw [q] <;> decide
  · rw [if_neg h1] at h ⊢
    by_cases h3 : k = 3
    · rw [if_pos h3] at h ⊢
      have : p = 0 ∨ p = 1 ∨ p = 2 := by grind
      rcases this with q | q | q <;> rw [q] <;> decide
    · rw [if_neg h3]; decide
theorem row_psh {σ : ha_St} {i a : Nat} {p : Int32} (h : ctR σ i a) (hp0 : 0 ≤ p) (hp1 : p < mPc σ i) : clRow σ a (gT σ a).1 p = ps3 σ i p ∧ e3 (ps3 σ i p) (toV (ps3 σ i p)) 6000 ∧ toV (ps3 σ i p) ≠ v0 := by
  obtain ⟨t, hT, ht, -, hk, -, hd, h1, h2, -, -, h5, h6, -, hg, hp, hgr, -⟩ := h
  have k := dir_i hd
  rw [k.1] at h1
  rw [k.2.1] at h2
  have kt := kind_tag ht
  have tb : -1 ≤ trV (gI σ 45 i) p ∧ trV (gI σ 45 i) p ≤ 1 := tr_b hp0 hp1
  have e1 := eJ_of (B := 1) k.2.2.1 (by decide) (by decide)
  have e2 := eJ_of (B := 1) k.2.2.2.1 (by decide) (by decide)
  have e5 := eJ_of (b := 100) (B := 100) ⟨hp.1, hp.2.1⟩ (by decide) (by decide)
  have e6 := eJ_of (b := 100) (B := 100) ⟨hp.2.2.1, hp.2.2.2⟩ (by decide) (by decide)
  have e9 := eJ_of (x := gI σ 49 i) (b := 20) (B := 20) ⟨by have := hgr.1; grind, hgr.2⟩ (by decide) (by decide)
  have er := eJ_of (B := 1) tb (by decide) (by decide)
  have ten : eJ 10 10 10 := ⟨by decide, by decide⟩
  have ten6 : eI 10 10 10 := ⟨by decide, by decide⟩
  have nn : ¬ p < 0 := by grind
  have el : eJ (leansOf t p) (-(trV (gI σ 45 i) p).toInt) 1 := by
    rw [kt.2.2.2.2 p, hk]
    refine ⟨?_, by have := er.2; omega, by have := er.2; omega⟩
    rw [Int32.toInt_neg]
    exact Int.bmod_eq_of_le (by have := er.2; omega) (by have := er.2; omega)
  have ep : pxOf σ a t p = 10 * aloV (gI σ 46 i) - leansOf t p * gI σ 49 i * upV (gI σ 46 i) := by unfold pxOf; rw [if_neg nn, h1, h2, hg]
  have eq : pyOf σ a t p = 10 * upV (gI σ 46 i) + leansOf t p * gI σ 49 i * aloV (gI σ 46 i) := by unfold pyOf; rw [if_neg nn, h1, h2, hg]
  have mp := eJ_sub (eJ_mul ten e1 (by decide)) (eJ_mul (eJ_mul el e9 (by decide)) e2 (by decide)) (by decide)
  have mq := eJ_add (eJ_mul ten e2 (by decide)) (eJ_mul (eJ_mul el e9 (by decide)) e1 (by decide)) (by decide)
  rw [← ep] at mp
  rw [← eq] at mq
  have mt := eJ_sub (eJ_mul e5 mq (by decide)) (eJ_mul e6 mp (by decide)) (by decide)
  have et : tuOf σ a t p = gI σ 47 i * pyOf σ a t p - gI σ 48 i * pxOf σ a t p := by unfold tuOf; rw [h5, h6]
  rw [← et] at mt
  have g6 := eJ_64 (eJ_mul er e9 (by decide))
  have rp : eI (psV σ i p 0) (10 * (aloV (gI σ 46 i)).toInt + (trV (gI σ 45 i) p).toInt * (gI σ 49 i).toInt * (upV (gI σ 46 i)).toInt) 30 := eI_add (eI_mul ten6 (eJ_64 e1) (by decide)) (eI_mul g6 (eJ_64 e2) (by decide)) (by decide)
  have rq : eI (psV σ i p 1) (10 * (upV (gI σ 46 i)).toInt - (trV (gI σ 45 i) p).toInt * (gI σ 49 i).toInt * (aloV (gI σ 46 i)).toInt) 30 := eI_sub (eI_mul ten6 (eJ_64 e2) (by decide)) (eI_mul g6 (eJ_64 e1) (by decide)) (by decide)
  have rt : eI (psV σ i p 2) ((gI σ 47 i).toInt * (10 * (upV (gI σ 46 i)).toInt - (trV (gI σ 45 i) p).toInt * (gI σ 49 i).toInt * (aloV (gI σ 46 i)).toInt) - (gI σ 48 i).toInt * (10 * (aloV (gI σ 46 i)).toInt + (trV (gI σ 45 i) p).toInt * (gI σ 49 i).toInt * (upV (gI σ 46 i)).toInt)) 6000 := eI_sub (eI_mul (eJ_64 e5) rq (by decide)) (eI_mul (eJ_64 e6) rp (by decide)) (by decide)
  have x1 : (pxOf σ a t p).toInt64 = psV σ i p 0 := Int64.toInt_inj.mp ((eJ_64 mp).1.trans ((by grind : (10 * (aloV (gI σ 46 i)).toInt - -(trV (gI σ 45 i) p).toInt * (gI σ 49 i).toInt * (upV (gI σ 46 i)).toInt : Int) = _).trans rp.1.symm))
  have x2 : (pyOf σ a t p).toInt64 = psV σ i p 1 := Int64.toInt_inj.mp ((eJ_64 mq).1.trans ((by grind : (10 * (upV (gI σ 46 i)).toInt + -(trV (gI σ 45 i) p).toInt * (gI σ 49 i).toInt * (aloV (gI σ 46 i)).toInt : Int) = _).trans rq.1.symm))
  have x3 : (tuOf σ a t p).toInt64 = psV σ i p 2 := Int64.toInt_inj.mp ((eJ_64 mt).1.trans ((by grind : ((gI σ 47 i).toInt * (10 * (upV (gI σ 46 i)).toInt + -(trV (gI σ 45 i) p).toInt * (gI σ 49 i).toInt * (aloV (gI σ 46 i)).toInt) - (gI σ 48 i).toInt * (10 * (aloV (gI σ 46 i)).toInt - -(trV (gI σ 45 i) p).toInt * (gI σ 49 i).toInt * (upV (gI σ 46 i)).toInt) : Int) = _).trans rt.1.symm))
  refine ⟨?_, ?_, ?_⟩
  · unfold clRow ps3
    rw [hT]
    rw [x1, x2, x3]
  · refine ⟨⟨rfl, ?_⟩, ⟨rfl, ?_⟩, ⟨rfl, ?_⟩⟩
    · show -6000 ≤ (psV σ i p 0).toInt ∧ (psV σ i p 0).toInt ≤ 6000
      rw [rp.1]; have := rp.2; omega
    · show -6000 ≤ (psV σ i p 1).toInt ∧ (psV σ i p 1).toInt ≤ 6000
      rw [rq.1]; have := rq.2; omega
    · show -6000 ≤ (psV σ i p 2).toInt ∧ (psV σ i p 2).toInt ≤ 6000
      rw [rt.1]; have := rt.2; omega
  · refine v3_nz (fun q => k.2.2.2.2 ?_)
    have q1 := q.1
    have q2 := q.2
    rw [show (ps3 σ i p).1 = psV σ i p 0 from rfl, rp.1] at q1
    rw [show (ps3 σ i p).2.1 = psV σ i p 1 from rfl, rq.1] at q2
    generalize hu : (aloV (gI σ 46 i)).toInt = u at *
    generalize hv : (upV (gI σ 46 i)).toInt = v at *
    generalize (trV (gI σ 45 i) p).toInt * (gI σ 49 i).toInt = g at *
    have s : 10 * (u * u + v * v) = 0 := by
      have : u * (10 * u + g * v) + v * (10 * v - g * u) = 0 := by rw [q1, q2]; simp
      grind
    have hu2 := sq_nn u
    have hv2 := sq_nn v
    have u0 : u = 0 := Classical.byContradiction (fun z => by have := sq_pos z; omega)
    have w0 : v = 0 := Classical.byContradiction (fun z => by have := sq_pos z; omega)
    exact ⟨Int32.toInt_inj.mp (by rw [hu, u0]; rfl), Int32.toInt_inj.mp (by rw [hv, w0]; rfl)⟩
