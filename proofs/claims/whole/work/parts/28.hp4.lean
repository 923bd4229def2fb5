/-! ===== the class: cones filled ===== -/
/-- only the cells from lo to hi have changed -/
def frX (lo hi : Nat) (σ σ' : ha_St) : Prop := gT σ' = gT σ ∧ gR σ' = gR σ ∧ gn σ' = gn σ ∧ ∀ a, a < lo ∨ hi ≤ a → gI σ' a = gI σ a ∧ gL σ' a = gL σ a
theorem frX.rf {lo hi : Nat} {σ : ha_St} : frX lo hi σ σ := ⟨rfl, rfl, rfl, fun _ _ => ⟨rfl, rfl⟩⟩
theorem frX.tr {lo hi : Nat} {σ σ1 σ2 : ha_St} (h : frX lo hi σ σ1) (g : frX lo hi σ1 σ2) : frX lo hi σ σ2 := ⟨g.1.trans h.1, g.2.1.trans h.2.1, g.2.2.1.trans h.2.2.1, fun a ha => ⟨(g.2.2.2 a ha).1.trans (h.2.2.2 a ha).1, (g.2.2.2 a ha).2.trans (h.2.2.2 a ha).2⟩⟩
theorem frX.up {lo hi lo' hi' : Nat} {σ σ' : ha_St} (h : frX lo hi σ σ') (h1 : lo' ≤ lo) (h2 : hi ≤ hi') : frX lo' hi' σ σ' := ⟨h.1, h.2.1, h.2.2.1, fun a ha => h.2.2.2 a (by omega)⟩
theorem frX.LY {lo hi : Nat} {σ σ' : ha_St} (h : frX lo hi σ σ') (hY : LY σ) : LY σ' := hY.same h.1 h.2.1 h.2.2.1
theorem frX_sI {lo hi a j : Nat} {σ : ha_St} {v : Int32} (h1 : lo ≤ a) (h2 : a < hi) : frX lo hi σ (sI σ a j v) := ⟨rfl, rfl, rfl, fun x hx => ⟨funext fun y => by rw [gI_sI, if_neg (by omega)], rfl⟩⟩
theorem frX_sL {lo hi a j : Nat} {σ : ha_St} {v : Int64} (h1 : lo ≤ a) (h2 : a < hi) : frX lo hi σ (sL σ a j v) := ⟨rfl, rfl, rfl, fun x hx => ⟨rfl, funext fun y => by rw [gL_sL, if_neg (by omega)]⟩⟩
theorem frX_add {c : Nat} {σ : ha_St} {x y z : Int32} : frX c (c + 7) σ (addRow σ c x y z) :=
  (((frX_sL (by omega) (by omega)).tr (frX_sL (by omega) (by omega))).tr (frX_sL (by omega) (by omega))).tr (frX_sI (by omega) (by omega))
theorem frC.X {c : Nat} {σ σ' : ha_St} (h : frC c σ σ') : frX c (c + 7) σ σ' := ⟨h.1, h.2.1, h.2.2.1, fun a ha => h.2.2.2.1 a (by omega)⟩
theorem chain_frC {R : Nat → ha_St → ha_St → Prop} {c : Nat} (hR : ∀ i s s', R i s s' → frC c s s') : ∀ (n : Nat) (s s' : ha_St), chain R n s s' → frC c s s'
  | 0, s, s', h => by rw [show s' = s from h]; exact frC.rf
  | n + 1, s, s', ⟨m, h1, h2⟩ => (chain_frC hR n s m h1).tr (hR n m s' h2)
theorem chain_nOK {R : Nat → ha_St → ha_St → Prop} {c : Nat} (hR : ∀ i s s', R i s s' → nOK s c → nOK s' c) : ∀ (n : Nat) (s s' : ha_St), chain R n s s' → nOK s c → nOK s' c
  | 0, s, s', h, g => by rw [show s' = s from h]; exact g
  | n + 1, s, s', ⟨m, h1, h2⟩, g => hR n m s' h2 (chain_nOK hR n s m h1 g)
theorem frC_lineIn {c : Nat} {σ : ha_St} : frC c σ (lineIn σ c) := by
  unfold lineIn
  generalize hs : line3 σ c = s
  have h : frC c σ s := by rw [← hs]; exact frC_line3
  exact h.tr frC_set3
theorem nOK_lineIn {c : Nat} {σ : ha_St} (h : nOK σ c) : nOK (lineIn σ c) c := by
  unfold lineIn
  generalize hs : line3 σ c = s
  have h : nOK s c := by rw [← hs]; exact nOK_line3 h
  exact nOK_set3 h
theorem frC_planeR {c i : Nat} {a b w : Int64} {s s' : ha_St} (h : planeR c a b w i s s') : frC c s s' := by
  have h1 : oneSided (tcr s c a b w i) c s' := h
  have h2 : frC c s (tcr s c a b w i) := frC_tcr
  exact h2.tr (frC_one h1)
theorem nOK_planeR {c i : Nat} {a b w : Int64} {s s' : ha_St} (h : planeR c a b w i s s') (g : nOK s c) : nOK s' c := by
  have h1 : oneSided (tcr s c a b w i) c s' := h
  exact nOK_one h1 (nOK_tcr g)
theorem frC_spaceJ {c i j : Nat} {s s' : ha_St} (h : spaceJ c i j s s') : frC c s s' := frC_pair (show pairStep c i (i + 1 + j) s s' from h)
theorem nOK_spaceJ {c i j : Nat} {s s' : ha_St} (h : spaceJ c i j s s') (g : nOK s c) : nOK s' c := nOK_pair (show pairStep c i (i + 1 + j) s s' from h) g
theorem frC_spaceR {c n i : Nat} {s s' : ha_St} (h : spaceR c n i s s') : frC c s s' := chain_frC (R := spaceJ c i) (fun j t t' z => frC_spaceJ z) _ _ _ h
theorem nOK_spaceR {c n i : Nat} {s s' : ha_St} (h : spaceR c n i s s') (g : nOK s c) : nOK s' c := chain_nOK (R := spaceJ c i) (fun j t t' z => nOK_spaceJ z) _ _ _ h g
theorem bb3_fr {c : Nat} {s : ha_St} {a b w a' b' w' x y z : Int64} : frC c s (bb (bb (bb s c a b w) c a' b' w') c x y z) := by
  have g1 : frC c s (bb s c a b w) := frC_bb
  generalize bb s c a b w = t at g1
  have g2 : frC c t (bb t c a' b' w') := frC_bb
  generalize bb t c a' b' w' = u at g2
  exact (g1.tr g2).tr frC_bb
theorem bb3_nOK {c : Nat} {s : ha_St} {a b w a' b' w' x y z : Int64} (h : nOK s c) : nOK (bb (bb (bb s c a b w) c a' b' w') c x y z) c := by
  have g1 : nOK (bb s c a b w) c := nOK_bb h
  generalize bb s c a b w = t at g1
  have g2 : nOK (bb t c a' b' w') c := nOK_bb g1
  generalize bb t c a' b' w' = u at g2
  exact nOK_bb g2
theorem bndQ_fr {σ σ' : ha_St} {c : Nat} (h : bndQ σ c σ') : frC c σ σ' ∧ nOK σ' c := by
  obtain ⟨r, σ1, hm, h⟩ := h
  have f00 : frC c σ (sI σ c 7 0) := frC_sI (by omega)
  have f0 : frC c σ σ1 := f00.tr hm.1.fr
  have n00 : nOK (sI σ c 7 0) c := by unfold nOK; rw [gI_sI, if_pos ⟨rfl, rfl⟩]; decide
  have n0 : nOK σ1 c := hm.1.n n00
  clear hm n00 f00
  rcases h with ⟨-, h⟩ | ⟨-, h⟩ | ⟨-, h⟩ | ⟨-, h⟩
  · rw [h]
    exact ⟨f0.tr bb3_fr, bb3_nOK n0⟩
  · exact ⟨f0.tr (frC_lineIn.tr (frC_one h)), nOK_one h (nOK_lineIn n0)⟩
  · have g1 : frC c σ1 (bb σ1 c (gL σ1 c 8) (gL σ1 c 9) (gL σ1 c 10)) := frC_bb
    have g2 := chain_frC (fun i s s' q => frC_planeR q) _ _ _ h
    have g3 := chain_nOK (fun i s s' q => nOK_planeR q) _ _ _ h (nOK_bb n0)
    exact ⟨(f0.tr g1).tr g2, g3⟩
  · have g2 := chain_frC (fun i s s' q => frC_spaceR q) _ _ _ h
    have g3 := chain_nOK (fun i s s' q => nOK_spaceR q) _ _ _ h n0
    exact ⟨f0.tr g2, g3⟩
/-- the contacts are seen alike -/
theorem frX_PN {lo hi : Nat} {σ σ' : ha_St} (h : frX lo hi σ σ') (h0 : 0 < lo) (hP : PN σ) : PN σ' := by
  unfold PN at *
  rw [(h.2.2.2 0 (Or.inl h0)).1, h.2.1, h.1]
  exact hP
theorem frX_cAt {lo hi : Nat} {σ σ' : ha_St} (h : frX lo hi σ σ') (h0 : 0 < lo) {i : Int32} : cAt σ' i = cAt σ i := by
  unfold cAt
  rw [(h.2.2.2 0 (Or.inl h0)).1, h.2.1]
theorem frX_pAt {lo hi : Nat} {σ σ' : ha_St} (h : frX lo hi σ σ') (h0 : 0 < lo) {i : Int32} : pAt σ' i = pAt σ i := by
  unfold pAt
  rw [frX_cAt h h0, h.1]
def rowAt (c : Nat) (s : ha_St) (a : Nat) (push : Int32) : ha_St := addRow s c (pxOf s a (gT s a).1 push) (pyOf s a (gT s a).1 push) (tuOf s a (gT s a).1 push)
theorem rowAt_of {c a t ln : Nat} {s : ha_St} {push : Int32} (h : gT s a = (t, ln)) : rowAt c s a push = addRow s c (pxOf s a t push) (pyOf s a t push) (tuOf s a t push) := by unfold rowAt; rw [h]
theorem rowAt_3 {c a : Nat} {s : ha_St} {push : Int32} : gI (rowAt c s a push) c 3 = gI s c 3 + 1 := by unfold rowAt addRow; rw [gI_sI, if_pos ⟨rfl, rfl⟩]
def tpS (i : Nat) (s : ha_St) : ha_St := match pAt s (Int32.ofNat i) with
  | none => s
  | some a => rowAt 2 s a (-1)
def clr (σ : ha_St) (c : Nat) : ha_St := sI (sI σ c 3 0) c 7 0
def placF (σ : ha_St) : ha_St := itF tpS (gI σ 0 1).toNatClampNeg (clr σ 2)
theorem clr_fr {c : Nat} {σ : ha_St} : frX c (c + 7) σ (clr σ c) := (frX_sI (by omega) (by omega)).tr (frX_sI (by omega) (by omega))
theorem clr_3 {c : Nat} {σ : ha_St} : gI (clr σ c) c 3 = 0 := by unfold clr; rw [gI_sI, if_neg (by omega), gI_sI, if_pos ⟨rfl, rfl⟩]
set_option maxRecDepth 100000 in
set_option maxHeartbeats 4000000 in
theorem m_X10_takePlacing {G : ha_G} {l : Launch} {σ : ha_St} (hY : LY σ) (hP : PN σ) : hM G l yX10_takePlacing cX10_takePlacing 3 none { frames := 4, cells := 0, slots := 0, locals := 85 } [.ref (ad G 0)] σ (fun v σ' => v = none ∧ σ' = placF σ ∧ frX 2 9 σ σ' ∧ 0 ≤ gI σ' 2 3 ∧ gI σ' 2 3 ≤ 10) := by
  have hY0 := hY
  have hP0 := hP
  refine hM_ofF [(0, .ref (ad G 0))] (by decide +kernel) (Nat.le_of_ble_eq_true rfl) rfl ?_
  intro p e s m args below meth c0 C hin
  refine h_aload_n C 0 dX10_takePlacing_0 rfl rfl ?_
  refine gfX10_22 C (ty_0 hY) dX10_takePlacing_1 ?_
  refine h_tref (b := 2) (rf_0_2 hY) ?_
  refine h_callV C (m_X2_clear (ty_2 hY)) caX10_356 kX2 (ty_2 hY) ⟨by decide, by decide, by decide, by decide⟩ rfl rfl (Nat.le_of_ble_eq_true rfl) dX10_takePlacing_4 ?_
  rintro v σ' ⟨rfl, h2⟩; rw [show sI (sI σ 2 3 0) 2 7 0 = clr σ 2 from rfl] at h2; rw [h2]; clear h2
  show hW _ _ _ _ _ _ _ _ _ _ _ _ _ 7 [(0, .ref (ad G 0))] [] (clr σ 2) 0 0
  refine h_iconst C 0 dX10_takePlacing_7 (by decide) ?_
  refine h_istore_n C [(1, .int 0), (0, .ref (ad G 0))] dX10_takePlacing_8 rfl (by decide) rfl ?_
  refine h_sub [1, 0] rfl ?_
  refine h_loop (α := Int32 × ha_St) (fun (i, σ1) => 0 ≤ i ∧ i ≤ gI σ 0 1 ∧ σ1 = itF tpS i.toNatClampNeg (clr σ 2) ∧ frX 2 9 σ σ1 ∧ 0 ≤ gI σ1 2 3 ∧ gI σ1 2 3 ≤ i) (fun (i, σ1) => tm (gI σ 0 1) i) (fun (i, σ1) => [(0, .ref (ad G 0)), (1, .int i)]) (fun (i, σ1) => []) (fun (i, σ1) => σ1) (fun (i, σ1) => 0) (fun (i, σ1) => 0) ?_ (0, (clr σ 2)) ?_
  · rintro ⟨i, σ1⟩ hI ih
    show hW _ _ _ _ _ _ _ _ _ _ _ _ _ 9 [(0, .ref (ad G 0)), (1, .int i)] [] σ1 0 0
    have hY : LY σ1 := hI.2.2.2.1.LY hY0
    have hP : PN σ1 := frX_PN hI.2.2.2.1 (by decide) hP0
    have hz : gI σ1 0 1 = gI σ 0 1 := by rw [(hI.2.2.2.1.2.2.2 0 (by omega)).1]
    refine h_iload_n C 1 dX10_takePlacing_9 rfl rfl ?_
    refine h_aload_n C 0 dX10_takePlacing_10 rfl rfl ?_
    refine gfX10_15 C (ty_0 hY) dX10_takePlacing_11 ?_
    refine h_icmp_ge C 42 dX10_takePlacing_14 (by decide) (fun c_14 => ?_) (fun c_14 => ?_)
    · refine h_vret C rfl (Nat.zero_le _) (Nat.zero_le _) dX10_takePlacing_42 ?_
      have he := eq_end hI.2.1 (by rw [← hz]; exact Int32.not_lt.mpr c_14)
      refine ⟨rfl, ?_, hI.2.2.2.1, hI.2.2.2.2.1, ?_⟩
      · rw [hI.2.2.1, he]; rfl
      · have h1 := hI.2.2.2.2.2; have h2 := hP0.2.1; clear C; grind
    · refine h_aload_n C 0 dX10_takePlacing_17 rfl rfl ?_
      refine h_iload_n C 1 dX10_takePlacing_18 rfl rfl ?_
      refine h_callV C (m_X10_placerAt hY hP) caX10_205 kX10 (ty_0 hY) ⟨by decide, by decide, by decide, by decide⟩ rfl rfl (Nat.le_of_ble_eq_true rfl) dX10_takePlacing_19 ?_
      rintro v σ' ⟨rfl, h2⟩; rw [h2]; clear h2
      show hW _ _ _ _ _ _ _ _ _ _ _ _ _ 22 [(0, .ref (ad G 0)), (1, .int i)] [rf G (pAt σ1 i)] σ1 0 0
      refine h_topt (fun o_1 => ?_) (fun b_2 o_1 => ?_)
      · refine h_astore_nN C [(2, .null), (0, .ref (ad G 0)), (1, .int i)] dX10_takePlacing_22 rfl (by decide) rfl ?_
        refine h_aload_nN C 0 dX10_takePlacing_23 rfl rfl ?_
        refine h_ifnullN C 36 dX10_takePlacing_24 (by decide) ?_
        refine h_iinc C [(1, .int (i + 1)), (2, .null), (0, .ref (ad G 0))] 2 (i + 1) dX10_takePlacing_36 rfl rfl (by decide) rfl ?_
        refine h_goto C 9 dX10_takePlacing_39 (by decide) ?_
        refine h_sub [2, 0] rfl ?_
        refine ih ((i + 1), σ1) ?_ ?_
        · have hlt : i < gI σ 0 1 := by rw [← hz]; exact Int32.not_le.mp c_14
          have h5 := hI.2.2.2.2
          refine ⟨(le_succ hI.1 hlt).1, (le_succ hI.1 hlt).2, ?_, hI.2.2.2.1, h5.1, by clear C; grind⟩
          rw [tn_succ hI.1 hlt]
          show _ = tpS i.toNatClampNeg (itF tpS i.toNatClampNeg (clr σ 2))
          rw [← hI.2.2.1]
          unfold tpS
          rw [nI_tn hI.1, o_1]
        · rw [← hz]
          exact tm_lt (Int32.not_le.mp c_14)
      · obtain ⟨t_2, hT_2, ht_2, hc_2, hb_2, ho_2⟩ := pAt_some hP o_1
        refine h_astore_n C [(2, .ref (ad G b_2)), (0, .ref (ad G 0)), (1, .int i)] dX10_takePlacing_22 rfl (by decide) rfl ?_
        refine h_aload_n C 0 dX10_takePlacing_23 rfl rfl ?_
        refine h_ifnull C dX10_takePlacing_24 ?_
        refine h_aload_n C 1 dX10_takePlacing_27 rfl rfl ?_
        refine gfX10_22 C (ty_0 hY) dX10_takePlacing_28 ?_
        refine h_tref (b := 2) (rf_0_2 hY) ?_
        refine h_aload_n C 0 dX10_takePlacing_31 rfl rfl ?_
        refine h_iconst C (-1) dX10_takePlacing_32 (by decide) ?_
        refine h_callV C (m_X2_add (isC_2 hY) hI.2.2.2.2.1 (by have h1 := hI.2.2.2.2.2; have h2 := hP0.2.1; have h3 := c_14; have h4 := hz; clear C; grind) hT_2 ht_2) caX10_357 kX2 (ty_2 hY) ⟨by decide, by decide, by decide, by decide⟩ rfl rfl (Nat.le_of_ble_eq_true rfl) dX10_takePlacing_33 ?_
        rintro v σ' ⟨rfl, h2⟩; rw [← rowAt_of hT_2] at h2; rw [h2]; clear h2
        show hW _ _ _ _ _ _ _ _ _ _ _ _ _ 36 [(2, .ref (ad G b_2)), (0, .ref (ad G 0)), (1, .int i)] [] (rowAt 2 σ1 b_2 (-1)) 0 0
        refine h_iinc C [(1, .int (i + 1)), (2, .ref (ad G b_2)), (0, .ref (ad G 0))] 2 (i + 1) dX10_takePlacing_36 rfl rfl (by decide) rfl ?_
        refine h_goto C 9 dX10_takePlacing_39 (by decide) ?_
        refine h_sub [2, 0] rfl ?_
        refine ih ((i + 1), (rowAt 2 σ1 b_2 (-1))) ?_ ?_
        · have hlt : i < gI σ 0 1 := by rw [← hz]; exact Int32.not_le.mp c_14
          have h5 := hI.2.2.2.2
          refine ⟨(le_succ hI.1 hlt).1, (le_succ hI.1 hlt).2, ?_, hI.2.2.2.1.tr frX_add, by rw [rowAt_3]; have := hP0.2.1; clear C; grind, by rw [rowAt_3]; clear C; grind⟩
          rw [tn_succ hI.1 hlt]
          show _ = tpS i.toNatClampNeg (itF tpS i.toNatClampNeg (clr σ 2))
          rw [← hI.2.2.1]
          unfold tpS
          rw [nI_tn hI.1, o_1]
        · rw [← hz]
          exact tm_lt (Int32.not_le.mp c_14)
  · exact ⟨by decide, hP0.1, by rw [tn_0]; rfl, clr_fr, by rw [clr_3]; decide, by rw [clr_3]; decide⟩
def rankQ (σ : ha_St) (r : Int32) (σ' : ha_St) : Prop := measQ (placF σ) 2 r σ' ∧ frX 2 9 σ σ' ∧ 0 ≤ gI (placF σ) 2 3 ∧ gI (placF σ) 2 3 ≤ 10
set_option maxRecDepth 100000 in
set_option maxHeartbeats 4000000 in
theorem m_X10_rank {G : ha_G} {l : Launch} {σ : ha_St} (hY : LY σ) (hP : PN σ) : hM G l yX10_rank cX10_rank 1 (some .int) { frames := 5, cells := 0, slots := 0, locals := 107 } [.ref (ad G 0)] σ (fun v σ' => ∃ r, v = some (.int r) ∧ rankQ σ r σ') := by
  refine hM_ofF [(0, .ref (ad G 0))] (by decide +kernel) (Nat.le_of_ble_eq_true rfl) rfl ?_
  intro p e s m args below meth c0 C hin
  refine h_aload_n C 0 dX10_rank_0 rfl rfl ?_
  refine h_callV C (m_X10_takePlacing hY hP) caX10_140 kX10 (ty_0 hY) ⟨by decide, by decide, by decide, by decide⟩ rfl rfl (Nat.le_of_ble_eq_true rfl) dX10_rank_1 ?_
  rintro v σ1 ⟨rfl, h1, f1, z0, z1⟩
  have hY : LY σ1 := f1.LY hY
  show hW _ _ _ _ _ _ _ _ _ _ _ _ _ 4 [(0, .ref (ad G 0))] [] σ1 0 0
  refine h_aload_n C 0 dX10_rank_4 rfl rfl ?_
  refine gfX10_22 C (ty_0 hY) dX10_rank_5 ?_
  refine h_tref (b := 2) (rf_0_2 hY) ?_
  refine h_callV C (m_X2_measured (isC_2 hY) z0 (by clear C; grind)) caX10_143 kX2 (ty_2 hY) ⟨by decide, by decide, by decide, by decide⟩ rfl rfl (Nat.le_of_ble_eq_true rfl) dX10_rank_8 ?_
  rintro v σ2 ⟨r, rfl, hm⟩
  have hY : LY σ2 := hm.1.fr.X.LY hY
  show hW _ _ _ _ _ _ _ _ _ _ _ _ _ 11 [(0, .ref (ad G 0))] [.int r] σ2 0 0
  refine h_iret C rfl (Nat.zero_le _) (Nat.zero_le _) dX10_rank_11 ?_
  refine ⟨_, rfl, ?_, f1.tr hm.1.fr.X, ?_, ?_⟩
  · rw [← h1]; exact hm
  · rw [← h1]; exact z0
  · rw [← h1]; exact z1
def fhS (lo : Int32) (i : Nat) (s : ha_St) : ha_St := match cAt s (Int32.ofNat i) with
  | none => s
  | some a => if Int32.ofNat i = lo then s else rowAt 2 s a (-1)
def formF (σ : ha_St) (lo : Int32) : ha_St := itF (fhS lo) (gI σ 0 1).toNatClampNeg (clr σ 2)
def formQ (σ : ha_St) (lo r : Int32) (σ' : ha_St) : Prop := bndQ (formF σ lo) 2 σ' ∧ frX 2 9 σ σ' ∧ isB r (gI σ' 2 7 = 0) ∧ 0 ≤ gI (formF σ lo) 2 3 ∧ gI (formF σ lo) 2 3 ≤ 10
set_option maxRecDepth 100000 in
set_option maxHeartbeats 4000000 in
theorem m_X10_isFormHeld {G : ha_G} {l : Launch} {σ : ha_St} {lo : Int32} (hY : LY σ) (hP : PN σ) : hM G l yX10_isFormHeld cX10_isFormHeld 4 (some .boolean) { frames := 4, cells := 0, slots := 0, locals := 99 } [.ref (ad G 0), .int lo] σ (fun v σ' => ∃ r, v = some (.int r) ∧ formQ σ lo r σ') := by
  have hY0 := hY
  have hP0 := hP
  refine hM_ofF [(0, .ref (ad G 0)), (1, .int lo)] (by decide +kernel) (Nat.le_of_ble_eq_true rfl) rfl ?_
  intro p e s m args below meth c0 C hin
  refine h_aload_n C 0 dX10_isFormHeld_0 rfl rfl ?_
  refine gfX10_22 C (ty_0 hY) dX10_isFormHeld_1 ?_
  refine h_tref (b := 2) (rf_0_2 hY) ?_
  refine h_callV C (m_X2_clear (ty_2 hY)) caX10_356 kX2 (ty_2 hY) ⟨by decide, by decide, by decide, by decide⟩ rfl rfl (Nat.le_of_ble_eq_true rfl) dX10_isFormHeld_4 ?_
  rintro v σ' ⟨rfl, h2⟩; rw [show sI (sI σ 2 3 0) 2 7 0 = clr σ 2 from rfl] at h2; rw [h2]; clear h2
  show hW _ _ _ _ _ _ _ _ _ _ _ _ _ 7 [(0, .ref (ad G 0)), (1, .int lo)] [] (clr σ 2) 0 0
  refine h_iconst C 0 dX10_isFormHeld_7 (by decide) ?_
  refine h_istore_n C [(2, .int 0), (0, .ref (ad G 0)), (1, .int lo)] dX10_isFormHeld_8 rfl (by decide) rfl ?_
  refine h_sub [1, 2, 0] rfl ?_
  refine h_loop (α := Int32 × ha_St) (fun (i, σ1) => 0 ≤ i ∧ i ≤ gI σ 0 1 ∧ σ1 = itF (fhS lo) i.toNatClampNeg (clr σ 2) ∧ frX 2 9 σ σ1 ∧ 0 ≤ gI σ1 2 3 ∧ gI σ1 2 3 ≤ i) (fun (i, σ1) => tm (gI σ 0 1) i) (fun (i, σ1) => [(0, .ref (ad G 0)), (1, .int lo), (2, .int i)]) (fun (i, σ1) => []) (fun (i, σ1) => σ1) (fun (i, σ1) => 0) (fun (i, σ1) => 0) ?_ (0, (clr σ 2)) ?_
  · rintro ⟨i, σ1⟩ hI ih
    show hW _ _ _ _ _ _ _ _ _ _ _ _ _ 9 [(0, .ref (ad G 0)), (1, .int lo), (2, .int i)] [] σ1 0 0
    have hY : LY σ1 := hI.2.2.2.1.LY hY0
    have hP : PN σ1 := frX_PN hI.2.2.2.1 (by decide) hP0
    have hz : gI σ1 0 1 = gI σ 0 1 := by rw [(hI.2.2.2.1.2.2.2 0 (by omega)).1]
    refine h_iload_n C 2 dX10_isFormHeld_9 rfl rfl ?_
    refine h_aload_n C 0 dX10_isFormHeld_10 rfl rfl ?_
    refine gfX10_15 C (ty_0 hY) dX10_isFormHeld_11 ?_
    refine h_icmp_ge C 47 dX10_isFormHeld_14 (by decide) (fun c_14 => ?_) (fun c_14 => ?_)
    · refine h_aload_n C 0 dX10_isFormHeld_47 rfl rfl ?_
      refine gfX10_22 C (ty_0 hY) dX10_isFormHeld_48 ?_
      refine h_tref (b := 2) (rf_0_2 hY) ?_
      refine h_callV C (m_X2_bound (isC_2 hY) hI.2.2.2.2.1 (by have h1 := hI.2.2.2.2.2; have h2 := hP0.2.1; have h3 := hI.2.1; clear C; grind)) caX10_361 kX2 (ty_2 hY) ⟨by decide, by decide, by decide, by decide⟩ rfl rfl (Nat.le_of_ble_eq_true rfl) dX10_isFormHeld_51 ?_
      rintro v σ2 ⟨rfl, hb⟩
      have hY : LY σ2 := (bndQ_fr hb).1.X.LY hY
      show hW _ _ _ _ _ _ _ _ _ _ _ _ _ 54 [(0, .ref (ad G 0)), (1, .int lo), (2, .int i)] [] σ2 0 0
      refine h_aload_n C 0 dX10_isFormHeld_54 rfl rfl ?_
      refine gfX10_22 C (ty_0 hY) dX10_isFormHeld_55 ?_
      refine h_tref (b := 2) (rf_0_2 hY) ?_
      refine gfX10_364 C (ty_2 hY) dX10_isFormHeld_58 ?_
      refine h_if_ne C 68 dX10_isFormHeld_61 (by decide) (fun c_61 => ?_) (fun c_61 => ?_)
      · refine h_iconst C 0 dX10_isFormHeld_68 (by decide) ?_
        refine h_zret C rfl (by decide) (Nat.zero_le _) (Nat.zero_le _) dX10_isFormHeld_69 ?_
        have he := eq_end hI.2.1 (by rw [← hz]; exact Int32.not_lt.mpr c_14)
        have e : σ1 = formF σ lo := by rw [hI.2.2.1, he]; rfl
        refine ⟨_, rfl, by rw [← e]; exact hb, hI.2.2.2.1.tr (bndQ_fr hb).1.X, ?_, by rw [← e]; exact hI.2.2.2.2.1, ?_⟩
        · exact Or.inr ⟨rfl, c_61⟩
        · rw [← e]; have h1 := hI.2.2.2.2.2; have h2 := hP0.2.1; have h3 := hI.2.1; clear C; grind
      · refine h_iconst C 1 dX10_isFormHeld_64 (by decide) ?_
        refine h_goto C 69 dX10_isFormHeld_65 (by decide) ?_
        refine h_zret C rfl (by decide) (Nat.zero_le _) (Nat.zero_le _) dX10_isFormHeld_69 ?_
        have he := eq_end hI.2.1 (by rw [← hz]; exact Int32.not_lt.mpr c_14)
        have e : σ1 = formF σ lo := by rw [hI.2.2.1, he]; rfl
        refine ⟨_, rfl, by rw [← e]; exact hb, hI.2.2.2.1.tr (bndQ_fr hb).1.X, ?_, by rw [← e]; exact hI.2.2.2.2.1, ?_⟩
        · exact Or.inl ⟨rfl, c_61⟩
        · rw [← e]; have h1 := hI.2.2.2.2.2; have h2 := hP0.2.1; have h3 := hI.2.1; clear C; grind
    · refine h_aload_n C 0 dX10_isFormHeld_17 rfl rfl ?_
      refine h_iload_n C 2 dX10_isFormHeld_18 rfl rfl ?_
      refine h_callV C (m_X10_contactAt hY hP) caX10_90 kX10 (ty_0 hY) ⟨by decide, by decide, by decide, by decide⟩ rfl rfl (Nat.le_of_ble_eq_true rfl) dX10_isFormHeld_19 ?_
      rintro v σ' ⟨rfl, h2⟩; rw [h2]; clear h2
      show hW _ _ _ _ _ _ _ _ _ _ _ _ _ 22 [(0, .ref (ad G 0)), (1, .int lo), (2, .int i)] [rf G (cAt σ1 i)] σ1 0 0
      refine h_topt (fun o_1 => ?_) (fun b_2 o_1 => ?_)
      · refine h_astore_nN C [(3, .null), (0, .ref (ad G 0)), (1, .int lo), (2, .int i)] dX10_isFormHeld_22 rfl (by decide) rfl ?_
        refine h_aload_nN C 0 dX10_isFormHeld_23 rfl rfl ?_
        refine h_ifnullN C 41 dX10_isFormHeld_24 (by decide) ?_
        refine h_iinc C [(2, .int (i + 1)), (3, .null), (0, .ref (ad G 0)), (1, .int lo)] 3 (i + 1) dX10_isFormHeld_41 rfl rfl (by decide) rfl ?_
        refine h_goto C 9 dX10_isFormHeld_44 (by decide) ?_
        refine h_sub [2, 3, 0] rfl ?_
        refine ih ((i + 1), σ1) ?_ ?_
        · have hlt : i < gI σ 0 1 := by rw [← hz]; exact Int32.not_le.mp c_14
          have h5 := hI.2.2.2.2
          refine ⟨(le_succ hI.1 hlt).1, (le_succ hI.1 hlt).2, ?_, hI.2.2.2.1, h5.1, by clear C; grind⟩
          rw [tn_succ hI.1 hlt]
          show _ = fhS lo i.toNatClampNeg (itF (fhS lo) i.toNatClampNeg (clr σ 2))
          rw [← hI.2.2.1]
          unfold fhS
          rw [nI_tn hI.1, o_1]
        · rw [← hz]
          exact tm_lt (Int32.not_le.mp c_14)
      · obtain ⟨t_2, hT_2, ht_2, hb_2, hi_2, hj_2, hr_2⟩ := cAt_some hP o_1
        refine h_astore_n C [(3, .ref (ad G b_2)), (0, .ref (ad G 0)), (1, .int lo), (2, .int i)] dX10_isFormHeld_22 rfl (by decide) rfl ?_
        refine h_aload_n C 0 dX10_isFormHeld_23 rfl rfl ?_
        refine h_ifnull C dX10_isFormHeld_24 ?_
        refine h_iload_n C 3 dX10_isFormHeld_27 rfl rfl ?_
        refine h_iload_n C 2 dX10_isFormHeld_28 rfl rfl ?_
        refine h_icmp_eq C 41 dX10_isFormHeld_29 (by decide) (fun c_29 => ?_) (fun c_29 => ?_)
        · refine h_iinc C [(2, .int (i + 1)), (3, .ref (ad G b_2)), (0, .ref (ad G 0)), (1, .int lo)] 3 (i + 1) dX10_isFormHeld_41 rfl rfl (by decide) rfl ?_
          refine h_goto C 9 dX10_isFormHeld_44 (by decide) ?_
          refine h_sub [2, 3, 0] rfl ?_
          refine ih ((i + 1), σ1) ?_ ?_
          · have hlt : i < gI σ 0 1 := by rw [← hz]; exact Int32.not_le.mp c_14
            have h5 := hI.2.2.2.2
            refine ⟨(le_succ hI.1 hlt).1, (le_succ hI.1 hlt).2, ?_, hI.2.2.2.1, h5.1, by clear C; grind⟩
            rw [tn_succ hI.1 hlt]
            show _ = fhS lo i.toNatClampNeg (itF (fhS lo) i.toNatClampNeg (clr σ 2))
            rw [← hI.2.2.1]
            unfold fhS
            rw [nI_tn hI.1, o_1]
            simp only
            rw [if_pos c_29]
          · rw [← hz]
            exact tm_lt (Int32.not_le.mp c_14)
        · refine h_aload_n C 1 dX10_isFormHeld_32 rfl rfl ?_
          refine gfX10_22 C (ty_0 hY) dX10_isFormHeld_33 ?_
          refine h_tref (b := 2) (rf_0_2 hY) ?_
          refine h_aload_n C 0 dX10_isFormHeld_36 rfl rfl ?_
          refine h_iconst C (-1) dX10_isFormHeld_37 (by decide) ?_
          refine h_callV C (m_X2_add (isC_2 hY) hI.2.2.2.2.1 (by have h1 := hI.2.2.2.2.2; have h2 := hP0.2.1; have h3 := c_14; have h4 := hz; clear C; grind) hT_2 ht_2) caX10_357 kX2 (ty_2 hY) ⟨by decide, by decide, by decide, by decide⟩ rfl rfl (Nat.le_of_ble_eq_true rfl) dX10_isFormHeld_38 ?_
          rintro v σ' ⟨rfl, h2⟩; rw [← rowAt_of hT_2] at h2; rw [h2]; clear h2
          show hW _ _ _ _ _ _ _ _ _ _ _ _ _ 41 [(3, .ref (ad G b_2)), (0, .ref (ad G 0)), (1, .int lo), (2, .int i)] [] (rowAt 2 σ1 b_2 (-1)) 0 0
          refine h_iinc C [(2, .int (i + 1)), (3, .ref (ad G b_2)), (0, .ref (ad G 0)), (1, .int lo)] 3 (i + 1) dX10_isFormHeld_41 rfl rfl (by decide) rfl ?_
          refine h_goto C 9 dX10_isFormHeld_44 (by decide) ?_
          refine h_sub [2, 3, 0] rfl ?_
          refine ih ((i + 1), (rowAt 2 σ1 b_2 (-1))) ?_ ?_
          · have hlt : i < gI σ 0 1 := by rw [← hz]; exact Int32.not_le.mp c_14
            have h5 := hI.2.2.2.2
            refine ⟨(le_succ hI.1 hlt).1, (le_succ hI.1 hlt).2, ?_, hI.2.2.2.1.tr frX_add, by rw [rowAt_3]; have := hP0.2.1; clear C; grind, by rw [rowAt_3]; clear C; grind⟩
            rw [tn_succ hI.1 hlt]
            show _ = fhS lo i.toNatClampNeg (itF (fhS lo) i.toNatClampNeg (clr σ 2))
            rw [← hI.2.2.1]
            unfold fhS
            rw [nI_tn hI.1, o_1]
            simp only
            rw [if_neg c_29]
          · rw [← hz]
            exact tm_lt (Int32.not_le.mp c_14)
  · exact ⟨by decide, hP0.1, by rw [tn_0]; rfl, clr_fr, by rw [clr_3]; decide, by rw [clr_3]; decide⟩
theorem isB01 {r : Int32} {P : Prop} (h : isB r P) : r = 0 ∨ r = 1 := by rcases h with ⟨h, -⟩ | ⟨h, -⟩ <;> simp [h]
set_option maxRecDepth 100000 in
set_option maxHeartbeats 4000000 in
theorem m_X10_form {G : ha_G} {l : Launch} {σ : ha_St} (hY : LY σ) (hP : PN σ) : hM G l yX10_form cX10_form 1 (some .int) { frames := 5, cells := 0, slots := 0, locals := 122 } [.ref (ad G 0)] σ (fun v σ' => ∃ r, v = some (.int r) ∧ formQ σ 10 r σ') := by
  refine hM_ofF [(0, .ref (ad G 0))] (by decide +kernel) (Nat.le_of_ble_eq_true rfl) rfl ?_
  intro p e s m args below meth c0 C hin
  refine h_aload_n C 0 dX10_form_0 rfl rfl ?_
  refine h_bipush C 10 dX10_form_1 (by decide) ?_
  refine h_callV C (m_X10_isFormHeld hY hP) caX10_166 kX10 (ty_0 hY) ⟨by decide, by decide, by decide, by decide⟩ rfl rfl (Nat.le_of_ble_eq_true rfl) dX10_form_3 ?_
  rintro v σ1 ⟨r, rfl, hf⟩
  show hW _ _ _ _ _ _ _ _ _ _ _ _ _ 6 [(0, .ref (ad G 0))] [.int r] σ1 0 0
  refine h_if_eq C 13 dX10_form_6 (by decide) (fun c_6 => ?_) (fun c_6 => ?_)
  · refine h_iconst C 0 dX10_form_13 (by decide) ?_
    refine h_iret C rfl (Nat.zero_le _) (Nat.zero_le _) dX10_form_14 ?_
    have e := isB01 hf.2.2.1
    have e2 : r = 0 := c_6
    subst e2
    exact ⟨_, rfl, hf⟩
  · refine h_iconst C 1 dX10_form_9 (by decide) ?_
    refine h_goto C 14 dX10_form_10 (by decide) ?_
    refine h_iret C rfl (Nat.zero_le _) (Nat.zero_le _) dX10_form_14 ?_
    have e := isB01 hf.2.2.1
    have e2 : r = 1 := e.resolve_left c_6
    subst e2
    exact ⟨_, rfl, hf⟩
set_option maxRecDepth 100000 in
set_option maxHeartbeats 4000000 in
theorem m_X10_without {G : ha_G} {l : Launch} {σ : ha_St} {i : Int32} (hY : LY σ) (hP : PN σ) : hM G l yX10_without cX10_without 2 (some .int) { frames := 5, cells := 0, slots := 0, locals := 122 } [.ref (ad G 0), .int i] σ (fun v σ' => ∃ r, v = some (.int r) ∧ ((¬ (0 ≤ i ∧ i < gI σ 0 1) ∧ r = -1 ∧ σ' = σ) ∨ ((0 ≤ i ∧ i < gI σ 0 1) ∧ formQ σ i r σ'))) := by
  refine hM_ofF [(0, .ref (ad G 0)), (1, .int i)] (by decide +kernel) (Nat.le_of_ble_eq_true rfl) rfl ?_
  intro p e s m args below meth c0 C hin
  refine h_aload_n C 0 dX10_without_0 rfl rfl ?_
  refine h_iload_n C 1 dX10_without_1 rfl rfl ?_
  refine h_callV C (m_X10_contactAt hY hP) caX10_90 kX10 (ty_0 hY) ⟨by decide, by decide, by decide, by decide⟩ rfl rfl (Nat.le_of_ble_eq_true rfl) dX10_without_2 ?_
  rintro v σ' ⟨rfl, h2⟩; rw [h2]; clear h2
  show hW _ _ _ _ _ _ _ _ _ _ _ _ _ 5 [(0, .ref (ad G 0)), (1, .int i)] [rf G (cAt σ i)] σ 0 0
  refine h_topt (fun o_1 => ?_) (fun b_2 o_1 => ?_)
  · refine h_ifnonnullN C dX10_without_5 ?_
    refine h_iconst C (-1) dX10_without_8 (by decide) ?_
    refine h_iret C rfl (Nat.zero_le _) (Nat.zero_le _) dX10_without_9 ?_
    exact ⟨_, rfl, Or.inl ⟨cAt_none hP o_1, rfl, rfl⟩⟩
  · obtain ⟨t_2, hT_2, ht_2, hb_2, hi_2, hj_2, hr_2⟩ := cAt_some hP o_1
    refine h_ifnonnull C 10 dX10_without_5 (by decide) ?_
    refine h_aload_n C 0 dX10_without_10 rfl rfl ?_
    refine h_iload_n C 1 dX10_without_11 rfl rfl ?_
    refine h_callV C (m_X10_isFormHeld hY hP) caX10_166 kX10 (ty_0 hY) ⟨by decide, by decide, by decide, by decide⟩ rfl rfl (Nat.le_of_ble_eq_true rfl) dX10_without_12 ?_
    rintro v σ1 ⟨r, rfl, hf⟩
    show hW _ _ _ _ _ _ _ _ _ _ _ _ _ 15 [(0, .ref (ad G 0)), (1, .int i)] [.int r] σ1 0 0
    refine h_if_eq C 22 dX10_without_15 (by decide) (fun c_15 => ?_) (fun c_15 => ?_)
    · refine h_iconst C 0 dX10_without_22 (by decide) ?_
      refine h_iret C rfl (Nat.zero_le _) (Nat.zero_le _) dX10_without_23 ?_
      have e := isB01 hf.2.2.1
      have e2 : r = 0 := c_15
      subst e2
      exact ⟨_, rfl, Or.inr ⟨⟨hi_2, hj_2⟩, hf⟩⟩
    · refine h_iconst C 1 dX10_without_18 (by decide) ?_
      refine h_goto C 23 dX10_without_19 (by decide) ?_
      refine h_iret C rfl (Nat.zero_le _) (Nat.zero_le _) dX10_without_23 ?_
      have e := isB01 hf.2.2.1
      have e2 : r = 1 := e.resolve_left c_15
      subst e2
      exact ⟨_, rfl, Or.inr ⟨⟨hi_2, hj_2⟩, hf⟩⟩
def apS (a : Nat) (k : Nat) (s : ha_St) : ha_St := rowAt 9 s a (Int32.ofNat k)
theorem countOf_ok {t : Nat} : 0 ≤ countOf t ∧ countOf t ≤ 3 := by
  unfold countOf
  by_cases h1 : t = 6
  · rw [if_pos h1]; decide
  · rw [if_neg h1]
    by_cases h2 : t = 1
    · rw [if_pos h2]; decide
    · rw [if_neg h2]; decide
set_option maxRecDepth 100000 in
set_option maxHeartbeats 4000000 in
theorem m_X10_addPushes {G : ha_G} {l : Launch} {σ : ha_St} {a t ln : Nat} (hY : LY σ) (hs0 : 0 ≤ gI σ 9 3) (hs1 : gI σ 9 3 ≤ 27) (hT : gT σ a = (t, ln)) (ht : pT t) : hM G l yX10_addPushes cX10_addPushes 3 none { frames := 4, cells := 0, slots := 0, locals := 85 } [.ref (ad G 0), .ref (ad G a)] σ (fun v σ' => v = none ∧ σ' = itF (apS a) (countOf t).toNatClampNeg σ ∧ frX 9 16 σ σ' ∧ gI σ' 9 3 = gI σ 9 3 + countOf t) := by
  have hY0 := hY
  have hT0 := hT
  refine hM_ofF [(0, .ref (ad G 0)), (1, .ref (ad G a))] (by decide +kernel) (Nat.le_of_ble_eq_true rfl) rfl ?_
  intro p e s m args below meth c0 C hin
  refine h_iconst C 0 dX10_addPushes_0 (by decide) ?_
  refine h_istore_n C [(2, .int 0), (0, .ref (ad G 0)), (1, .ref (ad G a))] dX10_addPushes_1 rfl (by decide) rfl ?_
  refine h_sub [1, 2, 0] rfl ?_
  refine h_loop (α := Int32 × ha_St) (fun (k, σ1) => 0 ≤ k ∧ k ≤ countOf t ∧ σ1 = itF (apS a) k.toNatClampNeg σ ∧ frX 9 16 σ σ1 ∧ gI σ1 9 3 = gI σ 9 3 + k) (fun (k, σ1) => tm (countOf t) k) (fun (k, σ1) => [(0, .ref (ad G 0)), (1, .ref (ad G a)), (2, .int k)]) (fun (k, σ1) => []) (fun (k, σ1) => σ1) (fun (k, σ1) => 0) (fun (k, σ1) => 0) ?_ (0, σ) ?_
  · rintro ⟨k, σ1⟩ hI ih
    show hW _ _ _ _ _ _ _ _ _ _ _ _ _ 2 [(0, .ref (ad G 0)), (1, .ref (ad G a)), (2, .int k)] [] σ1 0 0
    have hY : LY σ1 := hI.2.2.2.1.LY hY0
    have hT : gT σ1 a = (t, ln) := by rw [hI.2.2.2.1.1]; exact hT0
    refine h_iload_n C 2 dX10_addPushes_2 rfl rfl ?_
    refine h_aload_n C 1 dX10_addPushes_3 rfl rfl ?_
    refine cvX10_120 C hT ht (by decide) (by decide) (by decide) (by decide) (Nat.le_of_ble_eq_true rfl) dX10_addPushes_4 ?_
    refine h_icmp_ge C 25 dX10_addPushes_7 (by decide) (fun c_7 => ?_) (fun c_7 => ?_)
    · refine h_vret C rfl (Nat.zero_le _) (Nat.zero_le _) dX10_addPushes_25 ?_
      have he := eq_end hI.2.1 (Int32.not_lt.mpr c_7)
      refine ⟨rfl, ?_, hI.2.2.2.1, ?_⟩
      · rw [hI.2.2.1, he]
      · rw [hI.2.2.2.2, he]
    · refine h_aload_n C 0 dX10_addPushes_10 rfl rfl ?_
      refine gfX10_26 C (ty_0 hY) dX10_addPushes_11 ?_
      refine h_tref (b := 9) (rf_0_3 hY) ?_
      refine h_aload_n C 1 dX10_addPushes_14 rfl rfl ?_
      refine h_iload_n C 2 dX10_addPushes_15 rfl rfl ?_
      refine h_callV C (m_X2_add (isC_9 hY) (by rw [hI.2.2.2.2]; have h3 := hI.1; have h4 := countOf_ok (t := t); have h5 := hI.2.1; clear C; grind) (by rw [hI.2.2.2.2]; have h3 := c_7; have h4 := countOf_ok (t := t); have h5 := hI.1; clear C; grind) hT ht) caX10_357 kX2 (ty_9 hY) ⟨by decide, by decide, by decide, by decide⟩ rfl rfl (Nat.le_of_ble_eq_true rfl) dX10_addPushes_16 ?_
      rintro v σ' ⟨rfl, h2⟩; rw [← rowAt_of hT] at h2; rw [h2]; clear h2
      show hW _ _ _ _ _ _ _ _ _ _ _ _ _ 19 [(0, .ref (ad G 0)), (1, .ref (ad G a)), (2, .int k)] [] (rowAt 9 σ1 a k) 0 0
      refine h_iinc C [(2, .int (k + 1)), (0, .ref (ad G 0)), (1, .ref (ad G a))] 2 (k + 1) dX10_addPushes_19 rfl rfl (by decide) rfl ?_
      refine h_goto C 2 dX10_addPushes_22 (by decide) ?_
      refine h_sub [1, 2, 0] rfl ?_
      refine ih ((k + 1), (rowAt 9 σ1 a k)) ?_ ?_
      · have hlt := Int32.not_le.mp c_7
        refine ⟨(le_succ hI.1 hlt).1, (le_succ hI.1 hlt).2, ?_, hI.2.2.2.1.tr frX_add, by rw [rowAt_3, hI.2.2.2.2]; clear C; grind⟩
        rw [tn_succ hI.1 hlt]
        show _ = apS a k.toNatClampNeg (itF (apS a) k.toNatClampNeg σ)
        rw [← hI.2.2.1]
        unfold apS
        rw [nI_tn hI.1]
      · exact tm_lt (Int32.not_le.mp c_7)
  · exact ⟨by decide, countOf_ok.1, by rw [tn_0]; rfl, frX.rf, by clear C; grind⟩
