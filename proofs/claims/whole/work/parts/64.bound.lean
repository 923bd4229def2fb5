/-! ===== what the class's cone is bounded by ===== -/
def coneP (W : Nat → V3) (n : Nat) (g : V3) : Prop := (r3 W n ∧ FF W n g) ∨ (¬ r3 W n ∧ refIn W n g)
def formP (W : Nat → V3) (n : Nat) : Prop := r3 W n ∧ ∀ i j, i < j → j < n → vc (W i) (W j) ≠ v0 → ¬ allP W n (vc (W i) (W j)) ∧ ¬ allM W n (vc (W i) (W j))
def meaS (W : Nat → V3) (n : Nat) (r : Int32) (N : V3) : Prop := (r = 0 ∧ n = 0) ∨ (r = 1 ∧ 0 < n ∧ ∀ k, 1 ≤ k → k < n → vc (W 0) (W k) = v0) ∨
  (r = 2 ∧ (∃ j, 1 ≤ j ∧ j < n ∧ vc (W 0) (W j) = N) ∧ N ≠ v0 ∧ ∀ k, k < n → vd N (W k) = 0) ∨ (r = 3 ∧ (∃ j, 1 ≤ j ∧ j < n ∧ vc (W 0) (W j) = N) ∧ N ≠ v0 ∧ r3 W n)
theorem chain_ind {R : Nat → ha_St → ha_St → Prop} (I : Nat → ha_St → Prop) : ∀ {n : Nat} {s s' : ha_St}, chain R n s s' → I 0 s → (∀ k t t', k < n → I k t → R k t t' → I (k + 1) t') → I n s'
  | 0, s, s', h, h0, _ => by rw [show s' = s from h]; exact h0
  | n + 1, s, s', ⟨m, h1, h2⟩, h0, hs => hs n m s' (by omega) (chain_ind I h1 h0 (fun k t t' hk => hs k t t' (by omega))) h2
theorem meas_I {s s1 : ha_St} {c : Nat} {r : Int32} (hr : rB s c) (h0 : 0 ≤ gI s c 3) (h : measQ s c r s1) : ∃ N, meaS (WS s c) (nS s c) r N ∧ (r = 2 ∨ r = 3 → e3 (nrm s1 c) N 72000000) := by
  have fr := h.1.fr
  have ec : ∀ j, j < nS s c → 0 < nS s c → e3 (crs s c 0 j) (vc (WS s c 0) (WS s c j)) 72000000 := fun j hj hp => by
    rw [crs_I]
    exact e3_c (hr 0 hp).1 (hr j hj).1 (by decide) (by decide) (by decide)
  rcases h.2 with ⟨e, q⟩ | ⟨e, q1, q2⟩ | ⟨e, ⟨⟨j, j1, j2, jn⟩, nz⟩, q⟩ | ⟨e, ⟨⟨j, j1, j2, jn⟩, nz⟩, k, k1, k2, q⟩
  · refine ⟨v0, Or.inl ⟨e, ?_⟩, fun z => ?_⟩
    · unfold nS; rw [q]; rfl
    · rw [e] at z; exact absurd z (by decide)
  · have hp : 0 < nS s c := by
      have := tn_lt (i := 0) (N := gI s c 3) (by decide) q1
      rw [tn_0] at this
      exact this
    refine ⟨v0, Or.inr (Or.inl ⟨e, hp, fun k h1 h2 => (e3_0 (ec k h2 hp)).mp (q2 k h1 h2)⟩), fun z => ?_⟩
    rw [e] at z; exact absurd z (by decide)
  · have hp : 0 < nS s c := by unfold nS; omega
    have e1 := ec j j2 hp
    rw [← jn] at e1
    refine ⟨_, Or.inr (Or.inr (Or.inl ⟨e, ⟨j, j1, j2, rfl⟩, fun z => nz ((e3_0 e1).mpr z), fun k hk => ?_⟩)), fun _ => e1⟩
    by_cases hk0 : k = 0
    · rw [hk0]; exact vc_l _ _
    · have e2 : eI (dotN s1 c k) (vd (vc (WS s c 0) (WS s c j)) (WS s c k)) 1296000000000 := by
        rw [dotN_I, rw_fr fr]
        exact eI_d e1 (hr k hk).1 (by decide) (by decide) (by decide)
      exact (eI_0 e2).mp (q k (by omega) hk)
  · have hp : 0 < nS s c := by unfold nS; omega
    have e1 := ec j j2 hp
    rw [← jn] at e1
    refine ⟨_, Or.inr (Or.inr (Or.inr ⟨e, ⟨j, j1, j2, rfl⟩, fun z => nz ((e3_0 e1).mpr z), 0, j, k, hp, j2, k2, fun z => q ?_⟩)), fun _ => e1⟩
    have e2 : eI (dotN s1 c k) (vd (vc (WS s c 0) (WS s c j)) (WS s c k)) 1296000000000 := by
      rw [dotN_I, rw_fr fr]
      exact eI_d e1 (hr k k2).1 (by decide) (by decide) (by decide)
    exact (eI_0 e2).mpr z
theorem no_r3_0 {W : Nat → V3} : ¬ r3 W 0 := fun ⟨i, _, _, hi, _⟩ => absurd hi (Nat.not_lt_zero _)
theorem no_r3_1 {W : Nat → V3} {n : Nat} (h : ∀ i j, i < n → j < n → vc (W i) (W j) = v0) : ¬ r3 W n := by
  rintro ⟨i, j, k, hi, hj, hk, q⟩
  refine q ?_
  rw [h i j hi hj]
  unfold vd v0
  simp
theorem no_r3_2 {W : Nat → V3} {n : Nat} {N : V3} (hN : N ≠ v0) (h : ∀ k, k < n → vd N (W k) = 0) : ¬ r3 W n := by
  rintro ⟨i, j, k, hi, hj, hk, q⟩
  exact q (det_dep hN (by rw [vd_comm]; exact h i hi) (by rw [vd_comm]; exact h j hj) (by rw [vd_comm]; exact h k hk))
theorem gI_bonce {σ : ha_St} {c : Nat} {a b w : Int64} (h : gI σ c 7 < 32) : gI (bonce σ c a b w) c 7 = gI σ c 7 + 1 := by
  unfold bonce
  rw [if_pos h, gI_sI, if_pos ⟨rfl, rfl⟩]
theorem nl_bb {σ : ha_St} {c : Nat} {x : I3} {X : V3} (h0 : 0 ≤ gI σ c 7) (h1 : gI σ c 7 ≤ 30) (hb : nlB σ c) (hx : e3 x X 864000000000) : nlS (bb σ c x.1 x.2.1 x.2.2) c = nlS σ c ++ [X, vn X] ∧ nlB (bb σ c x.1 x.2.1 x.2.2) c ∧ gI (bb σ c x.1 x.2.1 x.2.2) c 7 = gI σ c 7 + 2 := by
  have l1 : gI σ c 7 < 32 := by grind
  have k1 := nl_bonce h0 l1 hb hx
  have g1 := gI_bonce (a := x.1) (b := x.2.1) (w := x.2.2) l1
  have l2 : gI (bonce σ c x.1 x.2.1 x.2.2) c 7 < 32 := by rw [g1]; grind
  have k2 := nl_bonce (x := (-x.1, -x.2.1, -x.2.2)) (by rw [g1]; grind) l2 k1.2 (e3_neg hx (by decide))
  have g2 := gI_bonce (a := -x.1) (b := -x.2.1) (w := -x.2.2) l2
  unfold bb
  refine ⟨?_, k2.2, ?_⟩
  · rw [k2.1, k1.1, List.append_assoc]; rfl
  · rw [g2, g1]; grind
theorem nl_0 {σ : ha_St} {c : Nat} (h : gI σ c 7 = 0) : nlS σ c = [] ∧ nlB σ c := by
  have e : cnt σ c = 0 := by unfold cnt; rw [h]; rfl
  exact ⟨by unfold nlS; rw [e]; rfl, fun k hk => by rw [e] at hk; omega⟩
theorem eI_lit (z : Int64) {b : Int} (h : -b ≤ z.toInt ∧ z.toInt ≤ b) : eI z z.toInt b := ⟨rfl, h⟩
/-- rank 0 -/
theorem bound_0 {s : ha_St} {c : Nat} (h7 : gI s c 7 = 0) : nlS (bb (bb (bb s c 1 0 0) c 0 1 0) c 0 0 1) c = [(1, 0, 0), (-1, 0, 0), (0, 1, 0), (0, -1, 0), (0, 0, 1), (0, 0, -1)] ∧ nlB (bb (bb (bb s c 1 0 0) c 0 1 0) c 0 0 1) c := by
  have k0 := nl_0 h7
  have k1 := nl_bb (x := (1, 0, 0)) (X := (1, 0, 0)) (by rw [h7]; decide) (by rw [h7]; decide) k0.2 ⟨⟨rfl, by decide⟩, ⟨rfl, by decide⟩, ⟨rfl, by decide⟩⟩
  have k2 := nl_bb (x := (0, 1, 0)) (X := (0, 1, 0)) (σ := bb s c 1 0 0) (by rw [k1.2.2, h7]; decide) (by rw [k1.2.2, h7]; decide) k1.2.1 ⟨⟨rfl, by decide⟩, ⟨rfl, by decide⟩, ⟨rfl, by decide⟩⟩
  have k3 := nl_bb (x := (0, 0, 1)) (X := (0, 0, 1)) (σ := bb (bb s c 1 0 0) c 0 1 0) (by rw [k2.2.2, k1.2.2, h7]; decide) (by rw [k2.2.2, k1.2.2, h7]; decide) k2.2.1 ⟨⟨rfl, by decide⟩, ⟨rfl, by decide⟩, ⟨rfl, by decide⟩⟩
  refine ⟨?_, k3.2.1⟩
  rw [k3.1, k2.1, k1.1, k0.1]
  rfl
def six (w : V3) : List V3 := [(0, w.2.2, -w.2.1), vn (0, w.2.2, -w.2.1), (-w.2.2, 0, w.1), vn (-w.2.2, 0, w.1), (w.2.1, -w.1, 0), vn (w.2.1, -w.1, 0)]
theorem six_eq {w g : V3} : (∀ N, N ∈ six w → 0 ≤ vd N g) ↔ vc g w = v0 := by
  constructor
  · intro h
    have a1 := h (0, w.2.2, -w.2.1) (by simp [six])
    have a2 := h (vn (0, w.2.2, -w.2.1)) (by simp [six])
    have a3 := h (-w.2.2, 0, w.1) (by simp [six])
    have a4 := h (vn (-w.2.2, 0, w.1)) (by simp [six])
    have a5 := h (w.2.1, -w.1, 0) (by simp [six])
    have a6 := h (vn (w.2.1, -w.1, 0)) (by simp [six])
    rw [vd_n] at a2 a4 a6
    have e1 : vd (0, w.2.2, -w.2.1) g = (vc g w).1 := by unfold vd vc; grind
    have e2 : vd (-w.2.2, 0, w.1) g = (vc g w).2.1 := by unfold vd vc; grind
    have e3 : vd (w.2.1, -w.1, 0) g = (vc g w).2.2 := by unfold vd vc; grind
    exact v3_0.mpr ⟨by omega, by omega, by omega⟩
  · intro h N hN
    have k := v3_0.mp h
    have e1 : vd (0, w.2.2, -w.2.1) g = (vc g w).1 := by unfold vd vc; grind
    have e2 : vd (-w.2.2, 0, w.1) g = (vc g w).2.1 := by unfold vd vc; grind
    have e3 : vd (w.2.1, -w.1, 0) g = (vc g w).2.2 := by unfold vd vc; grind
    simp only [six, List.mem_cons, List.not_mem_nil, or_false] at hN
    rcases hN with q | q | q | q | q | q <;> rw [q] <;> (try rw [vd_n]) <;> omega
theorem e3_six {x : I3} {w : V3} (h : e3 x w 6000) : e3 (0, x.2.2, -x.2.1) (0, w.2.2, -w.2.1) 864000000000 ∧ e3 (-x.2.2, 0, x.1) (-w.2.2, 0, w.1) 864000000000 ∧ e3 (x.2.1, -x.1, 0) (w.2.1, -w.1, 0) 864000000000 := by
  have z : eI 0 0 864000000000 := ⟨rfl, by decide⟩
  have m := h.mono (c := 864000000000) (by decide)
  exact ⟨⟨z, m.2.2, eI_neg m.2.1 (by decide)⟩, ⟨eI_neg m.2.2 (by decide), z, m.1⟩, ⟨m.2.1, eI_neg m.1 (by decide), z⟩⟩
theorem bound_1 {s : ha_St} {c : Nat} (h7 : gI s c 7 = 0) (hr : e3 (rwS s c 0) (WS s c 0) 6000) : nlS (line3 s c) c = six (WS s c 0) ∧ nlB (line3 s c) c ∧ gI (line3 s c) c 7 = 6 := by
  have k0 := nl_0 h7
  have e := e3_six hr
  have k1 := nl_bb (x := (0, cM s c 0, -cQ s c 0)) (by rw [h7]; decide) (by rw [h7]; decide) k0.2 e.1
  have f1 : frC c s (bb s c 0 (cM s c 0) (-cQ s c 0)) := frC_bb
  unfold line3
  generalize hs1 : bb s c 0 (cM s c 0) (-cQ s c 0) = s1 at *
  have r1 : rwS s1 c 0 = rwS s c 0 := rw_fr f1
  have p1 : cM s1 c 0 = cM s c 0 := congrArg (fun z : I3 => z.2.2) r1
  have p2 : cP s1 c 0 = cP s c 0 := congrArg (fun z : I3 => z.1) r1
  rw [p1, p2]
  have k2 := nl_bb (x := (-cM s c 0, 0, cP s c 0)) (σ := s1) (by rw [k1.2.2, h7]; decide) (by rw [k1.2.2, h7]; decide) k1.2.1 e.2.1
  have f2 : frC c s (bb s1 c (-cM s c 0) 0 (cP s c 0)) := f1.tr frC_bb
  generalize hs2 : bb s1 c (-cM s c 0) 0 (cP s c 0) = s2 at *
  have r2 : rwS s2 c 0 = rwS s c 0 := rw_fr f2
  have p3 : cQ s2 c 0 = cQ s c 0 := congrArg (fun z : I3 => z.2.1) r2
  have p4 : cP s2 c 0 = cP s c 0 := congrArg (fun z : I3 => z.1) r2
  rw [p3, p4]
  have k3 := nl_bb (x := (cQ s c 0, -cP s c 0, 0)) (σ := s2) (by rw [k2.2.2, k1.2.2, h7]; decide) (by rw [k2.2.2, k1.2.2, h7]; decide) k2.2.1 e.2.2
  refine ⟨?_, k3.2.1, ?_⟩
  · rw [k3.1, k2.1, k1.1, k0.1]; rfl
  · rw [k3.2.2, k2.2.2, k1.2.2, h7]; rfl
def clause2 (W : Nat → V3) (n : Nat) (N g : V3) (i : Nat) : Prop := (allP W n (vc N (W i)) → 0 ≤ vd (vc N (W i)) g) ∧ (¬ allP W n (vc N (W i)) → allM W n (vc N (W i)) → vd (vc N (W i)) g ≤ 0)
theorem osd_clause {W : Nat → V3} {n : Nat} {X : V3} {Ns Ns' : List V3} (h : osd W n X Ns Ns') (g : V3) : (∀ N, N ∈ Ns' → 0 ≤ vd N g) ↔ (∀ N, N ∈ Ns → 0 ≤ vd N g) ∧ ((allP W n X → 0 ≤ vd X g) ∧ (¬ allP W n X → allM W n X → vd X g ≤ 0)) := by
  have ap : ∀ Y, (∀ N, N ∈ Ns ++ [Y] → 0 ≤ vd N g) ↔ (∀ N, N ∈ Ns → 0 ≤ vd N g) ∧ 0 ≤ vd Y g := by
    intro Y
    constructor
    · intro q; exact ⟨fun N hN => q N (List.mem_append_left _ hN), q Y (List.mem_append_right _ List.mem_cons_self)⟩
    · rintro ⟨q1, q2⟩ N hN
      rcases List.mem_append.mp hN with z | z
      · exact q1 N z
      · rw [List.mem_singleton.mp z]; exact q2
  rcases h with ⟨q, rfl⟩ | ⟨q, q2, rfl⟩ | ⟨q, q2, rfl⟩
  · rw [ap]
    exact and_congr_right (fun _ => ⟨fun z => ⟨fun _ => z, fun y => absurd q y⟩, fun z => z.1 q⟩)
  · rw [ap]
    refine and_congr_right (fun _ => ⟨fun z => ⟨fun y => absurd y q, fun _ _ => ?_⟩, fun z => ?_⟩)
    · rw [vd_n] at z; omega
    · have := z.2 q q2
      rw [vd_n]; omega
  · exact ⟨fun z => ⟨z, fun y => absurd y q, fun _ y => absurd y q2⟩, fun z => z.1⟩
theorem osd_len {W : Nat → V3} {n : Nat} {X : V3} {Ns Ns' : List V3} (h : osd W n X Ns Ns') : Ns'.length ≤ Ns.length + 1 ∧ Ns.length ≤ Ns'.length := by
  rcases h with ⟨-, rfl⟩ | ⟨-, -, rfl⟩ | ⟨-, -, rfl⟩
  · rw [List.length_append]; simp
  · rw [List.length_append]; simp
  · omega
theorem gI7 {σ : ha_St} {c m : Nat} (h : nOK σ c) (hl : (nlS σ c).length ≤ m) (hm : m ≤ 32) : gI σ c 7 ≤ Int32.ofNat m := by
  rw [nlS_len] at hl
  have e : gI σ c 7 = Int32.ofNat (cnt σ c) := (nI_tn h.1).symm
  rw [e]
  have k : ∀ a b : Nat, b ≤ 32 → a ≤ b → Int32.ofNat a ≤ Int32.ofNat b := fun a b hb hab => (Int32.ofNat_le_ofNat (by omega) (by omega)).mpr hab
  exact k _ _ hm hl
theorem gI7l {σ : ha_St} {c : Nat} (h : nOK σ c) (hl : (nlS σ c).length ≤ 31) : gI σ c 7 < 32 := by
  have := gI7 h hl (by decide)
  rw [show Int32.ofNat 31 = 31 from rfl] at this
  grind
