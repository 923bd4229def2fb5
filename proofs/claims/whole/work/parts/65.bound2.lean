theorem plane_step {s s' : ha_St} {c i : Nat} {x : I3} {N : V3} (hr : rB s c) (hi : i < nS s c) (hn : nOK s c) (hl : (nlS s c).length ≤ 31) (hb : nlB s c) (hx : e3 x N 72000000) (h : planeR c x.1 x.2.1 x.2.2 i s s') : osd (WS s c) (nS s c) (vc N (WS s c i)) (nlS s c) (nlS s' c) ∧ nlB s' c := by
  have h' : oneSided (tcr s c x.1 x.2.1 x.2.2 i) c s' := h
  have f : frC c s (tcr s c x.1 x.2.1 x.2.2 i) := frC_tcr
  have hX : e3 (nrm (tcr s c x.1 x.2.1 x.2.2 i) c) (vc N (WS s c i)) 864000000000 := by
    rw [tcr_I]
    exact e3_c hx (hr i hi).1 (by decide) (by decide) (by decide)
  have h7 := gI7l hn hl
  have k := one_osd (σ := tcr s c x.1 x.2.1 x.2.2 i) (rB_fr f hr) hn.1 h7 (nlB_set3 hb) hX h'
  rw [WS_fr f, nS_fr f] at k
  have e : nlS (tcr s c x.1 x.2.1 x.2.2 i) c = nlS s c := nl_set3
  rw [e] at k
  exact k
theorem bound_2 {s1 s' : ha_St} {c : Nat} {N : V3} (hr : rB s1 c) (hn : nS s1 c ≤ 30) (h7 : gI s1 c 7 = 0) (hx : e3 (nrm s1 c) N 72000000)
    (h : chain (planeR c (gL s1 c 8) (gL s1 c 9) (gL s1 c 10)) (nS s1 c) (bb s1 c (gL s1 c 8) (gL s1 c 9) (gL s1 c 10)) s') : nlB s' c ∧ nlS s' c ≠ [] ∧ ∀ g, (∀ M, M ∈ nlS s' c → 0 ≤ vd M g) ↔ clsIn2 (WS s1 c) (nS s1 c) N g := by
  have k0 := nl_0 h7
  have k1 := nl_bb (x := nrm s1 c) (by rw [h7]; decide) (by rw [h7]; decide) k0.2 (hx.mono (c := 864000000000) (by decide))
  have n0 : nOK s1 c := by unfold nOK; rw [h7]; decide
  have fr0 : frC c s1 (bb s1 c (gL s1 c 8) (gL s1 c 9) (gL s1 c 10)) := frC_bb
  have hI := chain_ind (fun i t => frC c s1 t ∧ nOK t c ∧ nlB t c ∧ 2 ≤ (nlS t c).length ∧ (nlS t c).length ≤ 2 + i ∧ ∀ g, (∀ M, M ∈ nlS t c → 0 ≤ vd M g) ↔ (vd N g = 0 ∧ ∀ k, k < i → clause2 (WS s1 c) (nS s1 c) N g k)) h ?_ ?_
  · obtain ⟨-, -, h3, h4, -, h6⟩ := hI
    refine ⟨h3, fun q => ?_, fun g => ?_⟩
    · rw [q] at h4; exact absurd h4 (by decide)
    · rw [h6 g]
      exact Iff.rfl
  · refine ⟨fr0, nOK_bb n0, k1.2.1, ?_, ?_, fun g => ?_⟩
    · rw [show nlS (bb s1 c (gL s1 c 8) (gL s1 c 9) (gL s1 c 10)) c = _ from k1.1, k0.1]; simp
    · rw [show nlS (bb s1 c (gL s1 c 8) (gL s1 c 9) (gL s1 c 10)) c = _ from k1.1, k0.1]; simp
    · rw [show nlS (bb s1 c (gL s1 c 8) (gL s1 c 9) (gL s1 c 10)) c = _ from k1.1, k0.1]
      constructor
      · intro q
        have a := q N (by simp)
        have b := q (vn N) (by simp)
        rw [vd_n] at b
        exact ⟨by omega, fun k hk => absurd hk (Nat.not_lt_zero _)⟩
      · rintro ⟨q, -⟩ M hM
        simp only [List.nil_append, List.mem_cons, List.not_mem_nil, or_false] at hM
        rcases hM with z | z
        · rw [z, q]; exact Int.le_refl _
        · rw [z, vd_n, q]; decide
  · rintro i t t' hi ⟨f, n1, b1, l1, l2, e1⟩ hs
    have hk := plane_step (x := nrm s1 c) (rB_fr f hr) (by rw [nS_fr f]; exact hi) n1 (by omega) b1 hx hs
    rw [WS_fr f, nS_fr f] at hk
    have ol := osd_len hk.1
    refine ⟨f.tr (frC_planeR hs), nOK_planeR hs n1, hk.2, by omega, by omega, fun g => ?_⟩
    rw [osd_clause hk.1 g, e1 g]
    constructor
    · rintro ⟨⟨q1, q2⟩, q3⟩
      refine ⟨q1, fun k hk => ?_⟩
      by_cases z : k = i
      · rw [z]; exact q3
      · exact q2 k (by omega)
    · rintro ⟨q1, q2⟩
      exact ⟨⟨q1, fun k hk => q2 k (by omega)⟩, q2 i (by omega)⟩
theorem pIv_P {W : Nat → V3} {n : Nat} {P Q : Nat → Nat → Prop} {Ns : List V3} (h : pIv W n P Ns) (hq : ∀ a b, Q a b → P a b) : pIv W n Q Ns := ⟨h.1, h.2.1, fun i j q => h.2.2 i j (hq i j q)⟩
theorem pair_pst {s s' : ha_St} {c i j : Nat} (hr : rB s c) (hi : i < nS s c) (hj : j < nS s c) (hn : nOK s c) (hl : (nlS s c).length ≤ 31) (hb : nlB s c) (h : pairStep c i j s s') : pst (WS s c) (nS s c) i j (nlS s c) (nlS s' c) ∧ nlB s' c := by
  have hB : isBnd s c i j ↔ onb (WS s c) i j (nlS s c) := by
    unfold onb
    rw [nlS_ex]
    unfold isBnd
    have ed : ∀ k, k < cnt s c → ∀ a, a < nS s c → eI (dotB s c k (cP s c a) (cQ s c a) (cM s c a)) (vd (toV (ndS s c k)) (WS s c a)) 15552000000000000 := fun k hk a ha => by
      rw [show dotB s c k (cP s c a) (cQ s c a) (cM s c a) = dtI (ndS s c k) (rwS s c a) from rfl]
      exact eI_d (hb k hk) (hr a ha).1 (by decide) (by decide) (by decide)
    constructor
    · rintro ⟨k, hk, q1, q2⟩
      exact ⟨k, hk, (eI_0 (ed k hk i hi)).mp q1, (eI_0 (ed k hk j hj)).mp q2⟩
    · rintro ⟨k, hk, q1, q2⟩
      exact ⟨k, hk, (eI_0 (ed k hk i hi)).mpr q1, (eI_0 (ed k hk j hj)).mpr q2⟩
  have ec : e3 (crs s c i j) (vc (WS s c i) (WS s c j)) 72000000 := by
    rw [crs_I]
    exact e3_c (hr i hi).1 (hr j hj).1 (by decide) (by decide) (by decide)
  rcases h with ⟨q, rfl⟩ | ⟨q, q2, rfl⟩ | ⟨q, q2, q3⟩
  · exact ⟨Or.inl ⟨hB.mp q, rfl⟩, hb⟩
  · refine ⟨Or.inr (Or.inl ⟨fun z => q (hB.mpr z), (e3_0 ec).mp q2, nl_set3⟩), nlB_set3 hb⟩
  · have f : frC c s (tcr s c (cP s c i) (cQ s c i) (cM s c i) j) := frC_tcr
    have hX : e3 (nrm (tcr s c (cP s c i) (cQ s c i) (cM s c i) j) c) (vc (WS s c i) (WS s c j)) 864000000000 := by
      rw [nrm_tcr]
      exact ec.mono (by decide)
    have h7 : gI s c 7 < 32 := gI7l hn hl
    have k := one_osd (σ := tcr s c (cP s c i) (cQ s c i) (cM s c i) j) (rB_fr f hr) hn.1 h7 (nlB_set3 hb) hX q3
    rw [WS_fr f, nS_fr f] at k
    have e : nlS (tcr s c (cP s c i) (cQ s c i) (cM s c i) j) c = nlS s c := nl_set3
    rw [e] at k
    exact ⟨Or.inr (Or.inr ⟨fun z => q (hB.mpr z), fun z => q2 ((e3_0 ec).mpr z), k.1⟩), k.2⟩
theorem bound_3 {s1 s' : ha_St} {c : Nat} (hr : rB s1 c) (hn : nS s1 c ≤ 30) (h7 : gI s1 c 7 = 0) (h3 : r3 (WS s1 c) (nS s1 c)) (h : chain (spaceR c (nS s1 c)) (nS s1 c) s1 s') :
    nlB s' c ∧ pIv (WS s1 c) (nS s1 c) (fun a b => a < b ∧ b < nS s1 c) (nlS s' c) := by
  have k0 := nl_0 h7
  have hs := r3_spn h3
  have n0 : nOK s1 c := by unfold nOK; rw [h7]; decide
  have hW : ∀ k, k < nS s1 c → WS s1 c k ≠ v0 := fun k hk => (hr k hk).2
  have hI := chain_ind (fun i t => frC c s1 t ∧ nOK t c ∧ nlB t c ∧ pIv (WS s1 c) (nS s1 c) (fun a b => a < i ∧ a < b ∧ b < nS s1 c) (nlS t c)) h ?_ ?_
  · exact ⟨hI.2.2.1, pIv_P hI.2.2.2 (fun a b q => ⟨by omega, q⟩)⟩
  · refine ⟨frC.rf, n0, k0.2, ?_⟩
    rw [k0.1]
    exact ⟨fun N hN => absurd hN List.not_mem_nil, List.Pairwise.nil, fun i j q => absurd q.1 (Nat.not_lt_zero _)⟩
  · rintro i t t' hi ⟨f, n1, b1, p1⟩ hs1
    have hs1' : chain (spaceJ c i) (nS s1 c - (i + 1)) t t' := hs1
    have hJ := chain_ind (fun k u => frC c s1 u ∧ nOK u c ∧ nlB u c ∧ pIv (WS s1 c) (nS s1 c) (fun a b => (a < i ∧ a < b ∧ b < nS s1 c) ∨ (a = i ∧ i < b ∧ b < i + 1 + k)) (nlS u c)) hs1' ?_ ?_
    · refine ⟨hJ.1, hJ.2.1, hJ.2.2.1, pIv_P hJ.2.2.2 (fun a b q => ?_)⟩
      by_cases z : a = i
      · exact Or.inr ⟨z, by omega, by omega⟩
      · exact Or.inl ⟨by omega, q.2⟩
    · exact ⟨f, n1, b1, pIv_P p1 (fun a b q => by rcases q with q | q; exact q; omega)⟩
    · rintro k u u' hk ⟨g, n2, b2, p2⟩ hu
      have hu' : pairStep c i (i + 1 + k) u u' := hu
      have hl := pIv_len hW p2
      have hp := pair_pst (rB_fr g hr) (by rw [nS_fr g]; exact hi) (by rw [nS_fr g]; omega) n2 (by omega) b2 hu'
      rw [WS_fr g, nS_fr g] at hp
      refine ⟨g.tr (frC_pair hu'), nOK_pair hu' n2, hp.2, pIv_P (pst_inv hs (by omega) (by omega) p2 hp.1) (fun a b q => ?_)⟩
      rcases q with q | ⟨q1, q2, q3⟩
      · exact Or.inl (Or.inl q)
      · by_cases z : b = i + 1 + k
        · exact Or.inr ⟨q1, z⟩
        · exact Or.inl (Or.inr ⟨q1, q2, by omega⟩)
theorem lineIn_f {s t : ha_St} {c : Nat} (h : line3 s c = t) : lineIn s c = set3 t c (cP t c 0) (cQ t c 0) (cM t c 0) := by unfold lineIn; rw [h]
/-- THE CLASS'S CONE: its normals tell what lies in it, and whether it is all of space -/
theorem cone_cls {σ σ' : ha_St} {c : Nat} (h0 : 0 ≤ gI σ c 3) (hn : nS σ c ≤ 30) (hr : rB σ c) (h : bndQ σ c σ') : nlB σ' c ∧ (∀ g, (∀ M, M ∈ nlS σ' c → 0 ≤ vd M g) ↔ coneP (WS σ c) (nS σ c) g) ∧ (nlS σ' c = [] ↔ formP (WS σ c) (nS σ c)) := by
  obtain ⟨r, σ1, hm, hq⟩ := h
  have f0 : frC c σ (sI σ c 7 0) := frC_sI (by omega)
  have hr0 := rB_fr f0 hr
  have h00 : 0 ≤ gI (sI σ c 7 0) c 3 := by rw [f0.2.2.2.2.2]; exact h0
  obtain ⟨N, hS, hN⟩ := meas_I hr0 h00 hm
  have f1 : frC c σ σ1 := f0.tr hm.1.fr
  rw [WS_fr f0, nS_fr f0] at hS
  have h7 : gI σ1 c 7 = 0 := by
    obtain ⟨x, y, z, rfl⟩ := hm.1
    show gI (sI σ c 7 0) c 7 = 0
    rw [gI_sI, if_pos ⟨rfl, rfl⟩]
  have hr1 := rB_fr f1 hr
  have eW := WS_fr f1
  have eN := nS_fr f1
  have hW : ∀ k, k < nS σ c → WS σ c k ≠ v0 := fun k hk => (hr k hk).2
  clear hm
  rcases hS with ⟨e, z⟩ | ⟨e, z1, z2⟩ | ⟨e, ⟨j, j1, j2, j3⟩, z1, z2⟩ | ⟨e, ⟨j, j1, j2, j3⟩, z1, z2⟩
  · subst e
    rcases hq with ⟨-, q⟩ | ⟨q, -⟩ | ⟨q, -⟩ | ⟨q, -⟩ <;> try exact absurd q (by decide)
    have k := bound_0 h7
    rw [← q] at k
    refine ⟨k.2, fun g => ?_, ?_⟩
    · rw [k.1, z]
      constructor
      · intro y
        refine Or.inr ⟨no_r3_0, Or.inl (v3_0.mpr ?_)⟩
        have a1 := y (1, 0, 0) (by simp)
        have a2 := y (-1, 0, 0) (by simp)
        have a3 := y (0, 1, 0) (by simp)
        have a4 := y (0, -1, 0) (by simp)
        have a5 := y (0, 0, 1) (by simp)
        have a6 := y (0, 0, -1) (by simp)
        simp only [vd] at a1 a2 a3 a4 a5 a6
        exact ⟨by omega, by omega, by omega⟩
      · rintro (⟨y, -⟩ | ⟨-, y | ⟨i, hi, -⟩⟩)
        · exact absurd y no_r3_0
        · rw [y]
          intro M hM
          unfold vd v0
          simp
        · omega
    · rw [k.1]
      exact ⟨fun y => by simp at y, fun y => by rw [z] at y; exact absurd y.1 no_r3_0⟩
  · subst e
    rcases hq with ⟨q, -⟩ | ⟨-, q⟩ | ⟨q, -⟩ | ⟨q, -⟩ <;> try exact absurd q (by decide)
    have hall := line_all hW z1 z2
    have h00 : e3 (rwS σ1 c 0) (WS σ1 c 0) 6000 := (hr1 0 (by rw [eN]; exact z1)).1
    have k := bound_1 h7 h00
    have f2 : frC c σ1 (line3 σ1 c) := frC_line3
    generalize hg : line3 σ1 c = t at k f2
    rw [lineIn_f hg] at q
    have f3 : frC c σ1 (set3 t c (cP t c 0) (cQ t c 0) (cM t c 0)) := f2.tr frC_set3
    have hX : e3 (nrm (set3 t c (cP t c 0) (cQ t c 0) (cM t c 0)) c) (WS σ1 c 0) 864000000000 := by
      rw [nrm_set3]
      show e3 (rwS t c 0) _ _
      rw [rw_fr f2]
      exact h00.mono (by decide)
    have hl7 : gI (set3 t c (cP t c 0) (cQ t c 0) (cM t c 0)) c 7 = 6 := k.2.2
    have o := one_osd (σ := set3 t c (cP t c 0) (cQ t c 0) (cM t c 0)) (rB_fr f3 hr1) (by rw [hl7]; decide) (by rw [hl7]; decide) (nlB_set3 k.2.1) hX q
    have en : nlS (set3 t c (cP t c 0) (cQ t c 0) (cM t c 0)) c = six (WS σ1 c 0) := nl_set3.trans k.1
    rw [WS_fr f3, nS_fr f3, eW, eN, en, eW] at o
    have hno : ¬ allM (WS σ c) (nS σ c) (WS σ c 0) := fun y => by
      have a := y 0 z1
      have b := vd_pos (hW 0 z1)
      omega
    refine ⟨o.2, fun g => ?_, ?_⟩
    · rw [osd_clause o.1 g, six_eq]
      unfold coneP
      rw [line_eq hW z1 z2]
      have nr := no_r3_1 hall
      constructor
      · rintro ⟨y1, y2, -⟩
        exact Or.inr ⟨nr, y1, y2⟩
      · rintro (⟨y, -⟩ | ⟨-, y1, y2⟩)
        · exact absurd y nr
        · exact ⟨y1, y2, fun _ y => absurd y hno⟩
    · constructor
      · intro y
        have ol := osd_len o.1
        rw [y] at ol
        exact absurd ol.2 (by unfold six; simp)
      · intro y
        exact absurd y.1 (no_r3_1 hall)
  · subst e
    rcases hq with ⟨q, -⟩ | ⟨q, -⟩ | ⟨-, q⟩ | ⟨q, -⟩ <;> try exact absurd q (by decide)
    have k := bound_2 (N := N) hr1 (by rw [eN]; exact hn) h7 (hN (Or.inl rfl)) q
    rw [eW, eN] at k
    have nr := no_r3_2 z1 z2
    refine ⟨k.1, fun g => ?_, ?_⟩
    · rw [k.2.2 g, ← plane_eq (by omega) j2 j3 z1 hW z2]
      constructor
      · intro y; exact Or.inr ⟨nr, y⟩
      · rintro (⟨y, -⟩ | ⟨-, y⟩)
        · exact absurd y nr
        · exact y
    · exact ⟨fun y => absurd y k.2.1, fun y => absurd y.1 nr⟩
  · subst e
    rcases hq with ⟨q, -⟩ | ⟨q, -⟩ | ⟨q, -⟩ | ⟨-, q⟩ <;> try exact absurd q (by decide)
    have k := bound_3 hr1 (by rw [eN]; exact hn) h7 (by rw [eW, eN]; exact z2) q
    rw [eW, eN] at k
    refine ⟨k.1, fun g => ?_, ?_⟩
    · rw [pIv_FF (fun i j hij hj => ⟨hij, hj⟩) k.2 g]
      constructor
      · intro y; exact Or.inl ⟨z2, y⟩
      · rintro (⟨-, y⟩ | ⟨y, -⟩)
        · exact y
        · exact absurd z2 y
    · rw [pIv_nil (fun i j hij hj => ⟨hij, hj⟩) k.2]
      exact ⟨fun y => ⟨z2, y⟩, fun y => y.2⟩
/-- the rank, as the class measures it -/
theorem rank_cls {σ σ' : ha_St} {c : Nat} {r : Int32} (h0 : 0 ≤ gI σ c 3) (hr : rB σ c) (h : measQ σ c r σ') : ∃ N, meaS (WS σ c) (nS σ c) r N ∧ (r = 2 ∨ r = 3 → e3 (nrm σ' c) N 72000000) := meas_I hr h0 h
