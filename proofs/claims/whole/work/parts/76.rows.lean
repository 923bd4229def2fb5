/-! ===== the cones' rows are the reference's ===== -/
theorem allP_i {W W' : Nat → V3} {n : Nat} (h : ∀ k, k < n → W k = W' k) {c : V3} (g : allP W n c) : allP W' n c := fun k hk => by rw [← h k hk]; exact g k hk
theorem allM_i {W W' : Nat → V3} {n : Nat} (h : ∀ k, k < n → W k = W' k) {c : V3} (g : allM W n c) : allM W' n c := fun k hk => by rw [← h k hk]; exact g k hk
theorem r3_i {W W' : Nat → V3} {n : Nat} (h : ∀ k, k < n → W k = W' k) (g : r3 W n) : r3 W' n := by
  obtain ⟨i, j, k, hi, hj, hk, q⟩ := g
  rw [h i hi, h j hj, h k hk] at q
  exact ⟨i, j, k, hi, hj, hk, q⟩
theorem FF_i {W W' : Nat → V3} {n : Nat} (h : ∀ k, k < n → W k = W' k) {g : V3} (f : FF W n g) : FF W' n g := by
  intro i j hi hj hc ha
  rw [← h i hi, ← h j hj] at hc ha ⊢
  exact f i j hi hj hc (allP_i (fun k hk => (h k hk).symm) ha)
theorem ref_i {W W' : Nat → V3} {n : Nat} (h : ∀ k, k < n → W k = W' k) {g : V3} (f : refIn W n g) : refIn W' n g := by
  rcases f with f | ⟨i, hi, f | ⟨j, hj, f1, f2⟩⟩
  · exact Or.inl f
  · rw [h i hi] at f; exact Or.inr ⟨i, hi, Or.inl f⟩
  · rw [h i hi, h j (by omega)] at f1 f2; exact Or.inr ⟨i, hi, Or.inr ⟨j, hj, f1, f2⟩⟩
theorem cone_i {W W' : Nat → V3} {n : Nat} (h : ∀ k, k < n → W k = W' k) {g : V3} : coneP W n g ↔ coneP W' n g := by
  have h' : ∀ k, k < n → W' k = W k := fun k hk => (h k hk).symm
  constructor
  · rintro (⟨a, b⟩ | ⟨a, b⟩)
    · exact Or.inl ⟨r3_i h a, FF_i h b⟩
    · exact Or.inr ⟨fun z => a (r3_i h' z), ref_i h b⟩
  · rintro (⟨a, b⟩ | ⟨a, b⟩)
    · exact Or.inl ⟨r3_i h' a, FF_i h' b⟩
    · exact Or.inr ⟨fun z => a (r3_i h z), ref_i h' b⟩
theorem form_ii {W W' : Nat → V3} {n : Nat} (h : ∀ k, k < n → W k = W' k) (f : formP W n) : formP W' n := by
  have h' : ∀ k, k < n → W' k = W k := fun k hk => (h k hk).symm
  refine ⟨r3_i h f.1, fun i j hij hj hc => ?_⟩
  rw [← h i (by omega), ← h j hj] at hc ⊢
  have k := f.2 i j hij hj hc
  exact ⟨fun z => k.1 (allP_i h' z), fun z => k.2 (allM_i h' z)⟩
theorem form_i {W W' : Nat → V3} {n : Nat} (h : ∀ k, k < n → W k = W' k) : formP W n ↔ formP W' n := ⟨form_ii h, form_ii (fun k hk => (h k hk).symm)⟩
/-- a cone holds the rows of a list -/
def cR (s : ha_St) (c : Nat) (L : List I3) : Prop := L.length ≤ 30 ∧ gI s c 3 = Int32.ofNat L.length ∧ ∀ k, k < L.length → rwS s c k = L.getD k zer
theorem cR_0 {s : ha_St} {c : Nat} (h : gI s c 3 = 0) : cR s c [] := ⟨Nat.zero_le _, by rw [h]; rfl, fun k hk => absurd hk (Nat.not_lt_zero _)⟩
theorem cR_add {s : ha_St} {c : Nat} {L : List I3} {x y z : Int32} (h : cR s c L) (hl : L.length < 30) : cR (addRow s c x y z) c (L ++ [(x.toInt64, y.toInt64, z.toInt64)]) := by
  obtain ⟨h1, h2, h3⟩ := h
  have e : (gI s c 3).toNatClampNeg = L.length := by rw [h2]; exact oN_tn (by omega)
  refine ⟨by rw [List.length_append]; exact hl, ?_, fun k hk => ?_⟩
  · unfold addRow
    rw [gI_sI, if_pos ⟨rfl, rfl⟩, h2, List.length_append]
    exact (i32s _ (by omega)).1
  · rw [List.length_append, List.length_singleton] at hk
    unfold rwS cP cQ cM addRow
    simp only [gL_sI, gL_sL, e]
    by_cases hke : k = L.length
    · subst hke
      rw [if_neg (by omega), if_neg (by omega), if_pos (by first | trivial | exact ⟨trivial, trivial⟩ | omega), if_neg (by omega), if_pos (by first | trivial | exact ⟨trivial, trivial⟩ | omega), if_pos (by first | trivial | exact ⟨trivial, trivial⟩ | omega), List.getD_eq_getElem?_getD, List.getElem?_append_right (Nat.le_refl _)]
      simp
    · have hk2 : k < L.length := by omega
      rw [if_neg (by omega), if_neg (by omega), if_neg (by omega), if_neg (by omega), if_neg (by omega), if_neg (by omega), if_neg (by omega), if_neg (by omega), if_neg (by omega)]
      have := h3 k hk2
      unfold rwS cP cQ cM at this
      rw [this, List.getD_eq_getElem?_getD, List.getD_eq_getElem?_getD, List.getElem?_append_left hk2]
theorem cR_same {s t : ha_St} {c : Nat} {L : List I3} (h : cR s c L) (h1 : gI t c 3 = gI s c 3) (h2 : gL t (c + 1) = gL s (c + 1)) (h3 : gL t (c + 2) = gL s (c + 2)) (h4 : gL t (c + 3) = gL s (c + 3)) : cR t c L := by
  refine ⟨h.1, h1.trans h.2.1, fun k hk => ?_⟩
  rw [← h.2.2 k hk]
  unfold rwS cP cQ cM
  rw [h2, h3, h4]
theorem cR_b {s : ha_St} {c : Nat} {L : List I3} (h : cR s c L) (hB : lB L) : (0 ≤ gI s c 3 ∧ nS s c = L.length) ∧ rB s c ∧ ∀ k, k < L.length → WS s c k = WL L k := by
  have hn : nS s c = L.length := by unfold nS; rw [h.2.1]; exact oN_tn h.1
  have hw : ∀ k, k < L.length → WS s c k = WL L k := fun k hk => by unfold WS WL; rw [h.2.2 k hk]
  refine ⟨⟨by rw [h.2.1]; exact oN_nn h.1, hn⟩, fun k hk => ?_, hw⟩
  rw [hn] at hk
  rw [hw k hk, h.2.2 k hk]
  exact hB.2 k hk
theorem px_fr {lo hi : Nat} {σ s : ha_St} {a t : Nat} {p : Int32} (h : frX lo hi σ s) (ha : hi ≤ a) : clRow s a t p = clRow σ a t p := by
  have e : gI s a = gI σ a := (h.2.2.2 a (Or.inr ha)).1
  unfold clRow pxOf pyOf tuOf pyOf pxOf gripOf
  rw [e]
theorem rowAt_add {σ s : ha_St} {lo hi c i a : Nat} {p : Int32} {L : List I3} (hf : frX lo hi σ s) (ha : hi ≤ a) (h : cR s c L) (hl : L.length < 30) : cR (rowAt c s a p) c (L ++ [clRow σ a (gT σ a).1 p]) := by
  have e : clRow s a (gT s a).1 p = clRow σ a (gT σ a).1 p := by rw [hf.1]; exact px_fr hf ha
  rw [← e]
  exact cR_add h hl
theorem cAt_i {σ : ha_St} (h : RC σ) {i : Nat} (hi : i < nC σ) : cAt σ (Int32.ofNat i) = gR σ 1 i := by
  have hn := nC_le h.2.1
  unfold cAt
  rw [oN_tn (by omega), if_pos]
  refine ⟨oN_nn (by omega), ?_⟩
  rw [h.1, ← nI_tn h.2.1.1]
  exact (oN_lt (by omega) (by show nC σ ≤ 30; omega)).mpr hi
theorem getD_mem {L : List I3} {k : Nat} (h : k < L.length) : L.getD k zer ∈ L := by
  rw [List.getD_eq_getElem?_getD, List.getElem?_eq_getElem h, Option.getD_some]
  exact List.getElem_mem h
theorem lB_of {L : List I3} (h : L.length ≤ 30) (hm : ∀ x, x ∈ L → e3 x (toV x) 6000 ∧ toV x ≠ v0) : lB L := ⟨h, fun k hk => hm _ (getD_mem hk)⟩
theorem adL_mem {σ : ha_St} {P : Nat → Prop} : ∀ {n : Nat} {x : I3}, x ∈ adL σ P n → ∃ j, j < n ∧ x = dr3 σ j
  | 0, x, h => absurd h List.not_mem_nil
  | n + 1, x, h => by
    unfold adL at h
    rcases List.mem_append.mp h with q | q
    · obtain ⟨j, hj, e⟩ := adL_mem q
      exact ⟨j, by omega, e⟩
    · split at q
      · rw [List.mem_singleton] at q; exact ⟨n, by omega, q⟩
      · exact absurd q List.not_mem_nil
theorem adL_lB {σ : ha_St} (h : RC σ) {P : Nat → Prop} : lB (adL σ P (nC σ)) := by
  refine lB_of (Nat.le_trans (adL_le _) (by have := nC_le h.2.1; omega)) (fun x hx => ?_)
  obtain ⟨j, hj, e⟩ := adL_mem hx
  obtain ⟨a, -, hc⟩ := h.2.2.1 j hj
  have k := row_dir hc
  rw [e]
  exact ⟨k.2.1.mono (by decide), k.2.2⟩
theorem nC_0 {σ : ha_St} (h : RC σ) : (gI σ 0 1).toNatClampNeg = nC σ := by unfold nC; rw [h.1]
theorem plac_R {σ : ha_St} (h : RC σ) : frX 2 9 σ (placF σ) ∧ cR (placF σ) 2 (plR σ) ∧ lB (plR σ) := by
  have hn := nC_le h.2.1
  have key : frX 2 9 σ (placF σ) ∧ cR (placF σ) 2 (plR σ) := by
    unfold placF plR
    rw [nC_0 h]
    refine itF_ind (f := tpS) (fun i s => frX 2 9 σ s ∧ cR s 2 (adL σ (adP σ (-1) 0) i)) ⟨clr_fr, cR_0 clr_3⟩ (nC σ) ?_
    rintro i s hi ⟨hf, hc⟩
    obtain ⟨a, ha, hct⟩ := h.2.2.1 i hi
    have hct' := hct
    obtain ⟨t, hT, ht, h74, hk, -⟩ := hct'
    have hca : cAt σ (Int32.ofNat i) = some a := (cAt_i h hi).trans ha
    have hp : pAt s (Int32.ofNat i) = if t = 2 then none else some a := by rw [frX_pAt hf (by omega)]; exact pAt_of hca hT
    have kt := (kind_tag ht).1
    have hne : Int32.ofNat i ≠ -1 := by
      have : ∀ i : Nat, i < 10 → Int32.ofNat i ≠ -1 := by decide
      exact this i (by omega)
    unfold tpS
    by_cases q : t = 2
    · rw [hp, if_pos q, adL_n (fun z => z.2.elim (fun y => y rfl) (fun y => y (by rw [← hk]; exact kt.mpr q)))]
      exact ⟨hf, hc⟩
    · rw [hp, if_neg q, adL_y ⟨hne, Or.inr (fun y => q (kt.mp (by rw [hk]; exact y)))⟩]
      have hl := adL_le (σ := σ) (P := adP σ (-1) 0) i
      have k := rowAt_add (a := a) (i := i) (p := -1) hf (by omega) hc (show _ < 30 by omega)
      rw [(row_dir hct).1] at k
      exact ⟨hf.tr frX_add, k⟩
  exact ⟨key.1, key.2, adL_lB h⟩
theorem form_R {σ : ha_St} (h : RC σ) {lo but : Int32} (hb : ∀ i : Nat, i < 10 → (Int32.ofNat i = lo ↔ Int32.ofNat i = but)) : frX 2 9 σ (formF σ lo) ∧ cR (formF σ lo) 2 (foR σ but) ∧ lB (foR σ but) := by
  have hn := nC_le h.2.1
  have key : frX 2 9 σ (formF σ lo) ∧ cR (formF σ lo) 2 (foR σ but) := by
    unfold formF foR
    rw [nC_0 h]
    refine itF_ind (f := fhS lo) (fun i s => frX 2 9 σ s ∧ cR s 2 (adL σ (adP σ but 1) i)) ⟨clr_fr, cR_0 clr_3⟩ (nC σ) ?_
    rintro i s hi ⟨hf, hc⟩
    obtain ⟨a, ha, hct⟩ := h.2.2.1 i hi
    have hct' := hct
    obtain ⟨t, hT, ht, h74, -⟩ := hct'
    have hca : cAt s (Int32.ofNat i) = some a := by rw [frX_cAt hf (by omega)]; exact (cAt_i h hi).trans ha
    unfold fhS
    rw [hca]
    show _ ∧ _
    by_cases q : Int32.ofNat i = lo
    · simp only [if_pos q]
      rw [adL_n (fun z => z.1 ((hb i (by omega)).mp q))]
      exact ⟨hf, hc⟩
    · simp only [if_neg q]
      rw [adL_y ⟨fun z => q ((hb i (by omega)).mpr z), Or.inl (by decide)⟩]
      have hl := adL_le (σ := σ) (P := adP σ but 1) i
      have k := rowAt_add (a := a) (i := i) (p := -1) hf (by omega) hc (show _ < 30 by omega)
      rw [(row_dir hct).1] at k
      exact ⟨hf.tr frX_add, k⟩
  exact ⟨key.1, key.2, adL_lB h⟩
theorem pL_mem {σ : ha_St} {c : Nat} : ∀ {m : Nat} {x : I3}, x ∈ pL σ c m → ∃ p, p < m ∧ x = ps3 σ c (Int32.ofNat p)
  | 0, x, h => absurd h List.not_mem_nil
  | m + 1, x, h => by
    unfold pL at h
    rcases List.mem_append.mp h with q | q
    · obtain ⟨p, hp, e⟩ := pL_mem q
      exact ⟨p, by omega, e⟩
    · rw [List.mem_singleton] at q; exact ⟨m, by omega, q⟩
theorem puL_mem {σ : ha_St} : ∀ {n : Nat} {x : I3}, x ∈ puL σ n → ∃ j p, j < n ∧ p < (mPc σ j).toNatClampNeg ∧ x = ps3 σ j (Int32.ofNat p)
  | 0, x, h => absurd h List.not_mem_nil
  | n + 1, x, h => by
    unfold puL at h
    rcases List.mem_append.mp h with q | q
    · obtain ⟨j, p, h1, h2⟩ := puL_mem q
      exact ⟨j, p, by omega, h2⟩
    · split at q
      · exact absurd q List.not_mem_nil
      · obtain ⟨p, hp, e⟩ := pL_mem q
        exact ⟨n, p, by omega, hp, e⟩
theorem p_lt {σ : ha_St} {j p : Nat} (h : p < (mPc σ j).toNatClampNeg) : 0 ≤ Int32.ofNat p ∧ Int32.ofNat p < mPc σ j := by
  have b := mPc_b (σ := σ) (c := j)
  have h0 : 0 ≤ mPc σ j := by have := b.1; grind
  refine ⟨oN_nn (by omega), ?_⟩
  rw [← nI_tn h0]
  exact (oN_lt (by omega) (by omega)).mpr h
theorem puL_lB {σ : ha_St} (h : RC σ) : lB (puL σ (nC σ)) := by
  refine lB_of (Nat.le_trans (puL_len _) (by have := nC_le h.2.1; omega)) (fun x hx => ?_)
  obtain ⟨j, p, hj, hp, e⟩ := puL_mem hx
  obtain ⟨a, -, hc⟩ := h.2.2.1 j hj
  have pl := p_lt hp
  have k := row_psh hc pl.1 pl.2
  rw [e]
  exact k.2
theorem count_pc {σ : ha_St} {i a t : Nat} (hk : kindOf t = gI σ 45 i) (ht : pT t) : countOf t = mPc σ i := by
  rw [(kind_tag ht).2.2.2.1, hk]
  rfl
theorem clS_fr' {s : ha_St} {a : Nat} (x : Nat) (h : x ≠ 16) : gL (clS s a) x = gL s x := by
  funext y
  unfold clS
  simp only [gL_sL]
  rw [if_neg (by omega), if_neg (by omega), if_neg (by omega)]
theorem clI_row {u : ha_St} {a : Nat} {p : Int32} : clI (rowAt 9 u a p) = clI u := by
  unfold clI rowAt addRow
  simp only [gL_sI, gL_sL]
  rw [if_neg (by omega), if_neg (by omega), if_neg (by omega), if_neg (by omega), if_neg (by omega), if_neg (by omega), if_neg (by omega), if_neg (by omega), if_neg (by omega)]
theorem clI_0 {σ : ha_St} : clI (rp0 σ) = zer := by
  unfold clI rp0 zer
  simp [gL_sL]
theorem cl3 {s : ha_St} {x y z : Int64} : clI (sL (sL (sL s 16 0 x) 16 1 y) 16 2 z) = (x, y, z) := by
  unfold clI
  rw [gL_sL, if_neg (by omega), gL_sL, if_neg (by omega), gL_sL, if_pos ⟨rfl, rfl⟩, gL_sL, if_neg (by omega), gL_sL, if_pos ⟨rfl, rfl⟩, gL_sL, if_pos ⟨rfl, rfl⟩]
theorem clI_S {s : ha_St} {a : Nat} {X Y Z : Int64} (h1 : (pxOf s a (gT s a).1 (-1)).toInt64 = X) (h2 : (pyOf s a (gT s a).1 (-1)).toInt64 = Y) (h3 : (tuOf s a (gT s a).1 (-1)).toInt64 = Z) : clI (clS s a) = ((clI s).1 + X, (clI s).2.1 + Y, (clI s).2.2 + Z) := by
  unfold clS
  rw [cl3, h1, h2, h3]
  rfl
theorem clS_3 {s : ha_St} {a : Nat} : gI (clS s a) = gI s := rfl
theorem push_R {σ : ha_St} (h : RC σ) : frX 9 17 σ (pushF σ) ∧ cR (pushF σ) 9 (puL σ (nC σ)) ∧ clI (pushF σ) = clL σ (nC σ) := by
  have hn := nC_le h.2.1
  unfold pushF
  rw [nC_0 h]
  refine itF_ind (f := rpS) (fun i s => frX 9 17 σ s ∧ cR s 9 (puL σ i) ∧ clI s = clL σ i) ⟨rp0_fr, cR_0 rp0_3, clI_0⟩ (nC σ) ?_
  rintro i s hi ⟨hf, hc, hl⟩
  obtain ⟨a, ha, hct⟩ := h.2.2.1 i hi
  have hct' := hct
  obtain ⟨t, hT, ht, h74, hk, -⟩ := hct'
  have hca : cAt s (Int32.ofNat i) = some a := by rw [frX_cAt hf (by omega)]; exact (cAt_i h hi).trans ha
  have hTs : (gT s a).1 = t := by rw [hf.1, hT]
  have kt := (kind_tag ht).1
  unfold rpS
  rw [hca]
  simp only [hTs]
  by_cases q : t = 2
  · have k2 : gI σ 45 i = 2 := by rw [← hk]; exact kt.mpr q
    rw [if_pos q]
    have ep : puL σ (i + 1) = puL σ i := by
      show puL σ i ++ _ = _
      rw [if_pos k2, List.append_nil]
    rw [ep]
    refine ⟨hf.tr clS_fr, cR_same hc (by rw [clS_3]) ?_ ?_ ?_, ?_⟩
    · exact (clS_fr' (s := s) (a := a) 10 (by omega))
    · exact (clS_fr' (s := s) (a := a) 11 (by omega))
    · exact (clS_fr' (s := s) (a := a) 12 (by omega))
    · have er : clRow s a (gT s a).1 (-1) = dr3 σ i := by
        rw [hf.1, px_fr hf (by omega)]
        exact (row_dir hct).1
      have e1 : (pxOf s a (gT s a).1 (-1)).toInt64 = dirV σ i 0 := congrArg (fun z : I3 => z.1) er
      have e2 : (pyOf s a (gT s a).1 (-1)).toInt64 = dirV σ i 1 := congrArg (fun z : I3 => z.2.1) er
      have e3' : (tuOf s a (gT s a).1 (-1)).toInt64 = dirV σ i 2 := congrArg (fun z : I3 => z.2.2) er
      unfold clL
      rw [if_pos k2, clI_S e1 e2 e3', hl]
  · have k2 : ¬ gI σ 45 i = 2 := fun z => q (kt.mp (by rw [hk]; exact z))
    rw [if_neg q]
    have ec : countOf t = mPc σ i := count_pc (a := a) hk ht
    rw [ec]
    have J := itF_ind (f := apS a) (fun k u => frX 9 17 σ u ∧ cR u 9 (puL σ i ++ pL σ i k) ∧ clI u = clL σ i) (s := s) ⟨hf, by unfold pL; rw [List.append_nil]; exact hc, hl⟩ (mPc σ i).toNatClampNeg ?_
    · refine ⟨J.1, ?_, ?_⟩
      · show cR _ 9 (puL σ i ++ _)
        rw [if_neg k2]
        exact J.2.1
      · unfold clL
        rw [if_neg k2]
        exact J.2.2
    · rintro k u hk' ⟨g1, g2, g3⟩
      have pl := p_lt hk'
      have rp := row_psh hct pl.1 pl.2
      have hlen : (puL σ i ++ pL σ i k).length < 30 := by
        have h1 := puL_len (σ := σ) i
        have h2 := (mPc_b (σ := σ) (c := i)).2.2
        rw [List.length_append, pL_len]
        omega
      have r := rowAt_add (a := a) (i := i) (p := Int32.ofNat k) g1 (by omega) g2 hlen
      rw [rp.1] at r
      refine ⟨g1.tr ((frX_add (c := 9)).up (by omega) (by omega)), ?_, clI_row.trans g3⟩
      rw [List.append_assoc] at r
      exact r
