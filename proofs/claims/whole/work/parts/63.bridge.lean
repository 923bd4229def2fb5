/-! ===== numbers of the machine as whole numbers ===== -/
def eI (x : Int64) (z b : Int) : Prop := x.toInt = z ∧ -b ≤ z ∧ z ≤ b
theorem eI.mono {x : Int64} {z b c : Int} (h : eI x z b) (hc : b ≤ c) : eI x z c := ⟨h.1, by have := h.2; omega, by have := h.2; omega⟩
theorem eI_add {x y : Int64} {z w b c : Int} (h : eI x z b) (g : eI y w c) (hb : b + c < 9223372036854775808) : eI (x + y) (z + w) (b + c) := by
  refine ⟨?_, by have := h.2; have := g.2; omega, by have := h.2; have := g.2; omega⟩
  rw [Int64.toInt_add, h.1, g.1]
  exact Int.bmod_eq_of_le (by have := h.2; have := g.2; omega) (by have := h.2; have := g.2; omega)
theorem eI_sub {x y : Int64} {z w b c : Int} (h : eI x z b) (g : eI y w c) (hb : b + c < 9223372036854775808) : eI (x - y) (z - w) (b + c) := by
  refine ⟨?_, by have := h.2; have := g.2; omega, by have := h.2; have := g.2; omega⟩
  rw [Int64.toInt_sub, h.1, g.1]
  exact Int.bmod_eq_of_le (by have := h.2; have := g.2; omega) (by have := h.2; have := g.2; omega)
theorem eI_neg {x : Int64} {z b : Int} (h : eI x z b) (hb : b < 9223372036854775808) : eI (-x) (-z) b := by
  refine ⟨?_, by have := h.2; omega, by have := h.2; omega⟩
  rw [Int64.toInt_neg, h.1]
  exact Int.bmod_eq_of_le (by have := h.2; omega) (by have := h.2; omega)
theorem mul_bd {z w b c : Int} (h1 : -b ≤ z) (h2 : z ≤ b) (g1 : -c ≤ w) (g2 : w ≤ c) : -(b * c) ≤ z * w ∧ z * w ≤ b * c := by
  have a1 := Int.mul_nonneg (show 0 ≤ b - z by omega) (show 0 ≤ c + w by omega)
  have a2 := Int.mul_nonneg (show 0 ≤ b + z by omega) (show 0 ≤ c - w by omega)
  have a3 := Int.mul_nonneg (show 0 ≤ b - z by omega) (show 0 ≤ c - w by omega)
  have a4 := Int.mul_nonneg (show 0 ≤ b + z by omega) (show 0 ≤ c + w by omega)
  have e1 : (b - z) * (c + w) = b * c + b * w - z * c - z * w := by grind
  have e2 : (b + z) * (c - w) = b * c - b * w + z * c - z * w := by grind
  have e3 : (b - z) * (c - w) = b * c - b * w - z * c + z * w := by grind
  have e4 : (b + z) * (c + w) = b * c + b * w + z * c + z * w := by grind
  omega
theorem eI_mul {x y : Int64} {z w b c : Int} (h : eI x z b) (g : eI y w c) (hb : b * c < 9223372036854775808) : eI (x * y) (z * w) (b * c) := by
  have k := mul_bd h.2.1 h.2.2 g.2.1 g.2.2
  refine ⟨?_, k⟩
  rw [Int64.toInt_mul, h.1, g.1]
  exact Int.bmod_eq_of_le (by omega) (by omega)
theorem eI_0 {x : Int64} {z b : Int} (h : eI x z b) : x = 0 ↔ z = 0 := by
  rw [← h.1]
  constructor
  · intro q; rw [q]; rfl
  · intro q; exact Int64.toInt_inj.mp (by rw [q]; rfl)
theorem eI_le {x : Int64} {z b : Int} (h : eI x z b) : 0 ≤ x ↔ 0 ≤ z := by
  rw [Int64.le_iff_toInt_le, h.1]
  exact Iff.rfl
theorem eI_ge {x : Int64} {z b : Int} (h : eI x z b) : x ≤ 0 ↔ z ≤ 0 := by
  rw [Int64.le_iff_toInt_le, h.1]
  exact Iff.rfl
theorem eI_lt {x : Int64} {z b : Int} (h : eI x z b) : x < 0 ↔ z < 0 := by
  rw [Int64.lt_iff_toInt_lt, h.1]
  exact Iff.rfl
theorem eI_gt {x : Int64} {z b : Int} (h : eI x z b) : 0 < x ↔ 0 < z := by
  rw [Int64.lt_iff_toInt_lt, h.1]
  exact Iff.rfl
theorem eI_eq {x y : Int64} {z w b c : Int} (h : eI x z b) (g : eI y w c) : x = y ↔ z = w := by
  rw [← h.1, ← g.1]
  exact Int64.toInt_inj.symm
def e3 (x : I3) (z : V3) (b : Int) : Prop := eI x.1 z.1 b ∧ eI x.2.1 z.2.1 b ∧ eI x.2.2 z.2.2 b
def toV (x : I3) : V3 := (x.1.toInt, x.2.1.toInt, x.2.2.toInt)
theorem e3.v {x : I3} {z : V3} {b : Int} (h : e3 x z b) : toV x = z := v3_ext h.1.1 h.2.1.1 h.2.2.1
theorem e3.mono {x : I3} {z : V3} {b c : Int} (h : e3 x z b) (hc : b ≤ c) : e3 x z c := ⟨h.1.mono hc, h.2.1.mono hc, h.2.2.mono hc⟩
theorem e3_neg {x : I3} {z : V3} {b : Int} (h : e3 x z b) (hb : b < 9223372036854775808) : e3 (-x.1, -x.2.1, -x.2.2) (vn z) b := ⟨eI_neg h.1 hb, eI_neg h.2.1 hb, eI_neg h.2.2 hb⟩
theorem e3_0 {x : I3} {z : V3} {b : Int} (h : e3 x z b) : x = zer ↔ z = v0 := by
  rw [v3_0, ← eI_0 h.1, ← eI_0 h.2.1, ← eI_0 h.2.2]
  constructor
  · intro q; rw [q]; exact ⟨rfl, rfl, rfl⟩
  · intro q; exact Prod.ext q.1 (Prod.ext q.2.1 q.2.2)
def crI (x y : I3) : I3 := (x.2.1 * y.2.2 - x.2.2 * y.2.1, x.2.2 * y.1 - x.1 * y.2.2, x.1 * y.2.1 - x.2.1 * y.1)
def dtI (x y : I3) : Int64 := x.1 * y.1 + x.2.1 * y.2.1 + x.2.2 * y.2.2
theorem e3_c {x y : I3} {z w : V3} {b c d : Int} (h : e3 x z b) (g : e3 y w c) (hd : b * c + b * c = d) (hb : d < 9223372036854775808) (h0 : 0 ≤ b * c) : e3 (crI x y) (vc z w) d := by
  subst hd
  have k : b * c < 9223372036854775808 := by omega
  exact ⟨eI_sub (eI_mul h.2.1 g.2.2 k) (eI_mul h.2.2 g.2.1 k) hb, eI_sub (eI_mul h.2.2 g.1 k) (eI_mul h.1 g.2.2 k) hb, eI_sub (eI_mul h.1 g.2.1 k) (eI_mul h.2.1 g.1 k) hb⟩
theorem eI_d {x y : I3} {z w : V3} {b c d : Int} (h : e3 x z b) (g : e3 y w c) (hd : b * c + b * c + b * c = d) (hb : d < 9223372036854775808) (h0 : 0 ≤ b * c) : eI (dtI x y) (vd z w) d := by
  subst hd
  have k : b * c < 9223372036854775808 := by omega
  exact eI_add (eI_add (eI_mul h.1 g.1 k) (eI_mul h.2.1 g.2.1 k) (by omega)) (eI_mul h.2.2 g.2.2 k) hb
/-! the rows and the normals of a cone of the class -/
def rwS (σ : ha_St) (c k : Nat) : I3 := (cP σ c k, cQ σ c k, cM σ c k)
def ndS (σ : ha_St) (c k : Nat) : I3 := (gL σ (c + 4) k, gL σ (c + 5) k, gL σ (c + 6) k)
def cnt (σ : ha_St) (c : Nat) : Nat := (gI σ c 7).toNatClampNeg
def nlS (σ : ha_St) (c : Nat) : List V3 := (List.range (cnt σ c)).map (fun k => toV (ndS σ c k))
def nlB (σ : ha_St) (c : Nat) : Prop := ∀ k, k < cnt σ c → e3 (ndS σ c k) (toV (ndS σ c k)) 864000000000
theorem nlS_len {σ : ha_St} {c : Nat} : (nlS σ c).length = cnt σ c := by unfold nlS; rw [List.length_map, List.length_range]
theorem nlS_mem {σ : ha_St} {c : Nat} {P : V3 → Prop} : (∀ N, N ∈ nlS σ c → P N) ↔ ∀ k, k < cnt σ c → P (toV (ndS σ c k)) := by
  unfold nlS
  constructor
  · intro h k hk
    exact h _ (List.mem_map.mpr ⟨k, List.mem_range.mpr hk, rfl⟩)
  · intro h N hN
    obtain ⟨k, hk, rfl⟩ := List.mem_map.mp hN
    exact h k (List.mem_range.mp hk)
theorem nlS_ex {σ : ha_St} {c : Nat} {P : V3 → Prop} : (∃ N, N ∈ nlS σ c ∧ P N) ↔ ∃ k, k < cnt σ c ∧ P (toV (ndS σ c k)) := by
  unfold nlS
  constructor
  · rintro ⟨N, hN, hp⟩
    obtain ⟨k, hk, rfl⟩ := List.mem_map.mp hN
    exact ⟨k, List.mem_range.mp hk, hp⟩
  · rintro ⟨k, hk, hp⟩
    exact ⟨_, List.mem_map.mpr ⟨k, List.mem_range.mpr hk, rfl⟩, hp⟩
/-- one normal more -/
theorem nl_bonce {σ : ha_St} {c : Nat} {x : I3} {X : V3} (h0 : 0 ≤ gI σ c 7) (h1 : gI σ c 7 < 32) (hb : nlB σ c) (hx : e3 x X 864000000000) : nlS (bonce σ c x.1 x.2.1 x.2.2) c = nlS σ c ++ [X] ∧ nlB (bonce σ c x.1 x.2.1 x.2.2) c := by
  have hc : cnt (bonce σ c x.1 x.2.1 x.2.2) c = cnt σ c + 1 := by
    unfold cnt bonce
    rw [if_pos h1, gI_sI, if_pos ⟨rfl, rfl⟩]
    exact tn_succ h0 h1
  have hm : cnt σ c = (gI σ c 7).toNatClampNeg := rfl
  have ho : ∀ k, k ≠ cnt σ c → ndS (bonce σ c x.1 x.2.1 x.2.2) c k = ndS σ c k := by
    intro k hk
    unfold ndS bonce
    rw [if_pos h1]
    simp only [gL_sI, gL_sL]
    rw [if_neg (by omega), if_neg (by omega), if_neg (by omega), if_neg (by omega), if_neg (by omega), if_neg (by omega), if_neg (by omega), if_neg (by omega), if_neg (by omega)]
  have hn : ndS (bonce σ c x.1 x.2.1 x.2.2) c (cnt σ c) = x := by
    unfold ndS bonce
    rw [if_pos h1]
    simp only [gL_sI, gL_sL, cnt]
    rw [if_neg (by omega), if_neg (by omega), if_pos ⟨trivial, trivial⟩, if_neg (by omega), if_pos ⟨trivial, trivial⟩, if_pos ⟨trivial, trivial⟩]
  constructor
  · unfold nlS
    rw [hc, List.range_succ, List.map_append]
    congr 1
    · refine List.map_congr_left (fun k hk => ?_)
      rw [ho k (by have := List.mem_range.mp hk; omega)]
    · show [toV (ndS _ c (cnt σ c))] = [X]
      rw [hn, hx.v]
  · intro k hk
    rw [hc] at hk
    by_cases q : k = cnt σ c
    · rw [q, hn, hx.v]; exact hx
    · rw [ho k q]; exact hb k (by omega)
theorem nd_set3 {σ : ha_St} {c k : Nat} {x y z : Int64} : ndS (set3 σ c x y z) c k = ndS σ c k := by
  unfold ndS set3
  simp only [gL_sL]
  rw [if_neg (by omega), if_neg (by omega), if_neg (by omega), if_neg (by omega), if_neg (by omega), if_neg (by omega), if_neg (by omega), if_neg (by omega), if_neg (by omega)]
theorem cnt_set3 {σ : ha_St} {c : Nat} {x y z : Int64} : cnt (set3 σ c x y z) c = cnt σ c := rfl
theorem nl_set3 {σ : ha_St} {c : Nat} {x y z : Int64} : nlS (set3 σ c x y z) c = nlS σ c := by
  unfold nlS
  rw [cnt_set3]
  exact List.map_congr_left (fun k _ => by rw [nd_set3])
theorem nlB_set3 {σ : ha_St} {c : Nat} {x y z : Int64} (h : nlB σ c) : nlB (set3 σ c x y z) c := by
  intro k hk
  rw [nd_set3]
  exact h k hk
theorem rw_fr {σ σ' : ha_St} {c k : Nat} (h : frC c σ σ') : rwS σ' c k = rwS σ c k := by
  unfold rwS cP cQ cM
  rw [h.2.2.2.2.1.1, h.2.2.2.2.1.2.1, h.2.2.2.2.1.2.2]
/-- the rows of a cone, as whole numbers -/
def WS (σ : ha_St) (c : Nat) : Nat → V3 := fun k => toV (rwS σ c k)
def nS (σ : ha_St) (c : Nat) : Nat := (gI σ c 3).toNatClampNeg
def rB (σ : ha_St) (c : Nat) : Prop := ∀ k, k < nS σ c → e3 (rwS σ c k) (WS σ c k) 6000 ∧ WS σ c k ≠ v0
theorem WS_fr {σ σ' : ha_St} {c : Nat} (h : frC c σ σ') : WS σ' c = WS σ c := funext fun k => by unfold WS; rw [rw_fr h]
theorem nS_fr {σ σ' : ha_St} {c : Nat} (h : frC c σ σ') : nS σ' c = nS σ c := by unfold nS; rw [h.2.2.2.2.2]
theorem rB_fr {σ σ' : ha_St} {c : Nat} (h : frC c σ σ') (g : rB σ c) : rB σ' c := by
  unfold rB at *
  rw [nS_fr h, WS_fr h]
  intro k hk
  rw [rw_fr h]
  exact g k hk
theorem crs_I {σ : ha_St} {c i j : Nat} : crs σ c i j = crI (rwS σ c i) (rwS σ c j) := rfl
theorem dotN_I {σ : ha_St} {c k : Nat} : dotN σ c k = dtI (nrm σ c) (rwS σ c k) := rfl
theorem dotB_I {σ : ha_St} {c k : Nat} {x : I3} : dotB σ c k x.1 x.2.1 x.2.2 = dtI (ndS σ c k) x := rfl
theorem tcr_I {σ : ha_St} {c j : Nat} {x : I3} : nrm (tcr σ c x.1 x.2.1 x.2.2 j) c = crI x (rwS σ c j) := by simp [nrm, tcr, set3, gL_sL, crI, rwS]
/-- one-sided: as the mathematics has it -/
theorem one_osd {σ σ' : ha_St} {c : Nat} {X : V3} (hr : rB σ c) (h0 : 0 ≤ gI σ c 7) (h1 : gI σ c 7 < 32) (hb : nlB σ c) (hx : e3 (nrm σ c) X 864000000000) (h : oneSided σ c σ') : osd (WS σ c) (nS σ c) X (nlS σ c) (nlS σ' c) ∧ nlB σ' c := by
  have ed : ∀ k, k < nS σ c → eI (dotN σ c k) (vd X (WS σ c k)) 15552000000000000 := fun k hk => by
    rw [dotN_I]
    exact eI_d hx (hr k hk).1 (by decide) (by decide) (by decide)
  have hN : hasNeg σ c (nS σ c) ↔ ¬ allP (WS σ c) (nS σ c) X := by
    constructor
    · rintro ⟨k, hk, q⟩ z
      have := z k hk
      have := (eI_lt (ed k hk)).mp q
      omega
    · intro z
      refine Classical.byContradiction (fun q => z (fun k hk => ?_))
      refine Classical.byContradiction (fun y => q ⟨k, hk, (eI_lt (ed k hk)).mpr (by omega)⟩)
  have hP : hasPos σ c (nS σ c) ↔ ¬ allM (WS σ c) (nS σ c) X := by
    constructor
    · rintro ⟨k, hk, q⟩ z
      have := z k hk
      have := (eI_gt (ed k hk)).mp q
      omega
    · intro z
      refine Classical.byContradiction (fun q => z (fun k hk => ?_))
      refine Classical.byContradiction (fun y => q ⟨k, hk, (eI_gt (ed k hk)).mpr (by omega)⟩)
  rcases h with ⟨q, rfl⟩ | ⟨q, q2, rfl⟩ | ⟨q, q2, rfl⟩
  · have k := nl_bonce (x := nrm σ c) h0 h1 hb hx
    exact ⟨Or.inl ⟨Classical.byContradiction (fun z => q (hN.mpr z)), k.1⟩, k.2⟩
  · have k := nl_bonce (x := (-gL σ c 8, -gL σ c 9, -gL σ c 10)) h0 h1 hb (e3_neg hx (by decide))
    exact ⟨Or.inr (Or.inl ⟨hN.mp q, Classical.byContradiction (fun z => q2 (hP.mpr z)), k.1⟩), k.2⟩
  · exact ⟨Or.inr (Or.inr ⟨hN.mp q, hP.mp q2, rfl⟩), hb⟩
