theorem cwX10_330 : hCSW RX10 330 yX10_failureOf cX10_failureOf 2 (some .int) [(0, 4, 7, 148)] 1 := ⟨g_at 913 (by decide +kernel) (by decide +kernel), g_at 914 (by decide +kernel) (by decide +kernel), g_at 72 (by decide +kernel) (by decide +kernel), g_at 915 (by decide +kernel) (by decide +kernel), ⟨by decide +kernel, by decide +kernel, by decide +kernel⟩⟩
theorem cwL_57 : hCSW RL 57 yL_wrench cL_wrench 6 (some .int) [(0, 11, 14, 13)] 5 := ⟨g_at 993 (by decide +kernel) (by decide +kernel), g_at 994 (by decide +kernel) (by decide +kernel), g_at 71 (by decide +kernel) (by decide +kernel), g_at 995 (by decide +kernel) (by decide +kernel), ⟨by decide +kernel, by decide +kernel, by decide +kernel⟩⟩
theorem cwL_70 : hCSW RL 70 yL_hidden cL_hidden 4 (some .int) [(0, 8, 11, 13), (0, 8, 14, 19)] 3 := ⟨g_at 1017 (by decide +kernel) (by decide +kernel), g_at 1018 (by decide +kernel) (by decide +kernel), g_at 71 (by decide +kernel) (by decide +kernel), g_at 1019 (by decide +kernel) (by decide +kernel), ⟨by decide +kernel, by decide +kernel, by decide +kernel⟩⟩
theorem cwL_103 : hCSW RL 103 yL_worst cL_worst 8 (some .int) [(0, 15, 18, 13), (0, 15, 22, 19)] 7 := ⟨g_at 1036 (by decide +kernel) (by decide +kernel), g_at 1037 (by decide +kernel) (by decide +kernel), g_at 71 (by decide +kernel) (by decide +kernel), g_at 1038 (by decide +kernel) (by decide +kernel), ⟨by decide +kernel, by decide +kernel, by decide +kernel⟩⟩
theorem cwL_155 : hCSW RL 155 yL_element cL_element 5 (some .int) [(0, 9, 12, 13), (0, 9, 16, 19)] 4 := ⟨g_at 1047 (by decide +kernel) (by decide +kernel), g_at 1048 (by decide +kernel) (by decide +kernel), g_at 71 (by decide +kernel) (by decide +kernel), g_at 1049 (by decide +kernel) (by decide +kernel), ⟨by decide +kernel, by decide +kernel, by decide +kernel⟩⟩
theorem ck_X10_148 : Cond.classLink RX10 148 ISE ∈ gtbl := g_at 916 (by decide +kernel) (by decide +kernel)
theorem ck_L_13 : Cond.classLink RL 13 IAE ∈ gtbl := g_at 996 (by decide +kernel) (by decide +kernel)
theorem ck_L_19 : Cond.classLink RL 19 ISE ∈ gtbl := g_at 1020 (by decide +kernel) (by decide +kernel)
theorem ct_IAE : Cond.castable IAE IAE ∈ ntbl := n_at 1003 (by decide +kernel) (by decide +kernel)
theorem ct_ISE : Cond.castable ISE ISE ∈ ntbl := n_at 926 (by decide +kernel) (by decide +kernel)
/-- only cells have come that nobody sees -/
def gro (σ σ' : ha_St) : Prop := ∃ g, gn σ ≤ g ∧ σ' = sG σ g
set_option maxRecDepth 100000 in
set_option maxHeartbeats 4000000 in
theorem m_X7_fail {G : ha_G} {l : Launch} {σ : ha_St} {b : Nat} : hM G l yX7_fail cX7_fail 1 none { frames := 0, cells := 0, slots := 0, locals := 0 } [.ref (ad G b)] σ (fun v σ' => v = none ∧ σ' = σ) := by
  refine hM_ofF [(0, .ref (ad G b))] (by decide +kernel) (Nat.le_of_ble_eq_true rfl) rfl ?_
  intro p e s m args below meth c0 C hin
  refine h_vret C rfl (Nat.zero_le _) (Nat.zero_le _) dX7_fail_0 ?_
  exact ⟨rfl, rfl⟩
set_option maxRecDepth 100000 in
set_option maxHeartbeats 4000000 in
theorem m_X5_fail {G : ha_G} {l : Launch} {σ : ha_St} {b : Nat} (hl : l.stackTraces = false) : hMX G l yX5_fail cX5_fail 1 none { frames := 6, cells := 1, slots := 6, locals := 90 } [.ref (ad G b)] σ (fun _ _ => False) (fun E σ' => E = ISE ∧ gro σ σ') := by
  refine hMX_of [(0, .ref (ad G b))] (by decide +kernel) (Nat.le_of_ble_eq_true rfl) rfl ?_
  intro p e s m args below meth c0 C hth hno
  refine h_throwS C hl hth hno th_X5_ISE (text := "its grip fails") (by decide +kernel) dX5_fail_0 dX5_fail_3 dX5_fail_4 dX5_fail_6 dX5_fail_9 (by decide) (by decide) (by decide) (by decide) (fun g hg => ?_) (by decide) (by decide)
  exact ⟨rfl, g, hg, rfl⟩
set_option maxRecDepth 100000 in
set_option maxHeartbeats 4000000 in
theorem m_X10_failureOf_1 {G : ha_G} {l : Launch} {σ : ha_St} {b : Nat} (hl : l.stackTraces = false) (hT : gT σ b = (1, 0)) : hMW G l yX10_failureOf cX10_failureOf 2 (some .int) [(0, 4, 7, 148)] { frames := 7, cells := 1, slots := 6, locals := 110 } [.ref (ad G b)] σ (fun v σ' => v = some (.int (gI σ b 4)) ∧ gro σ σ') := by
  refine hMW_of [(0, .ref (ad G b))] (by decide +kernel) (Nat.le_of_ble_eq_true rfl) rfl ?_
  intro p e s m args below meth c0 C hth htab
  refine h_aload_n C 0 dX10_failureOf_0 rfl rfl ?_
  refine h_callUX C hth (m_X5_fail hl) caX10_353_0 kX0 hT ⟨by decide, by decide, by decide, by decide⟩ rfl rfl (Nat.le_of_ble_eq_true rfl) dX10_failureOf_1 (fun E σx q hx => ?_) ?_
  · obtain ⟨rfl, g, hg, rfl⟩ := hx
    refine h_catch C [] ⟨0, 4, 7, 148⟩ [] htab (fun z hz => nomatch hz) (by decide) (by decide) ck_X10_148 ct_ISE ?_
    show hW _ _ _ _ _ _ _ _ _ _ _ _ _ 7 [(0, .ref (ad G b))] [.ref q] (sG σ g) 1 6
    refine h_astore_n C [(1, .ref q), (0, .ref (ad G b))] dX10_failureOf_7 rfl (by decide) rfl ?_
    refine h_aload_n C 1 dX10_failureOf_8 rfl rfl ?_
    refine gfX10_87_0 C hT dX10_failureOf_9 ?_
    refine h_iret C rfl (by decide) (by decide) dX10_failureOf_12 ?_
    exact ⟨rfl, g, hg, rfl⟩
  rintro v σ' hF
  exact hF.elim
set_option maxRecDepth 100000 in
set_option maxHeartbeats 4000000 in
theorem m_X10_failureOf_2 {G : ha_G} {l : Launch} {σ : ha_St} {b : Nat} (hl : l.stackTraces = false) (hT : gT σ b = (2, 0)) : hMW G l yX10_failureOf cX10_failureOf 2 (some .int) [(0, 4, 7, 148)] { frames := 7, cells := 1, slots := 6, locals := 110 } [.ref (ad G b)] σ (fun v σ' => v = some (.int (-15)) ∧ gro σ σ') := by
  refine hMW_of [(0, .ref (ad G b))] (by decide +kernel) (Nat.le_of_ble_eq_true rfl) rfl ?_
  intro p e s m args below meth c0 C hth htab
  refine h_aload_n C 0 dX10_failureOf_0 rfl rfl ?_
  refine h_callU C m_X7_fail caX10_353_1 kX1 hT ⟨by decide, by decide, by decide, by decide⟩ rfl rfl (Nat.le_of_ble_eq_true rfl) dX10_failureOf_1 ?_
  rintro v σ' ⟨rfl, h2⟩; rw [h2]; clear h2
  show hW _ _ _ _ _ _ _ _ _ _ _ _ _ 4 [(0, .ref (ad G b))] [] σ 0 0
  refine h_goto C 13 dX10_failureOf_4 (by decide) ?_
  refine h_bipush C (-15) dX10_failureOf_13 (by decide) ?_
  refine h_iret C rfl (Nat.zero_le _) (Nat.zero_le _) dX10_failureOf_15 ?_
  exact ⟨rfl, gn σ, Nat.le_refl _, rfl⟩
set_option maxRecDepth 100000 in
set_option maxHeartbeats 4000000 in
theorem m_X10_failureOf_6 {G : ha_G} {l : Launch} {σ : ha_St} {b : Nat} (hl : l.stackTraces = false) (hT : gT σ b = (6, 0)) : hMW G l yX10_failureOf cX10_failureOf 2 (some .int) [(0, 4, 7, 148)] { frames := 7, cells := 1, slots := 6, locals := 110 } [.ref (ad G b)] σ (fun v σ' => v = some (.int (gI σ b 4)) ∧ gro σ σ') := by
  refine hMW_of [(0, .ref (ad G b))] (by decide +kernel) (Nat.le_of_ble_eq_true rfl) rfl ?_
  intro p e s m args below meth c0 C hth htab
  refine h_aload_n C 0 dX10_failureOf_0 rfl rfl ?_
  refine h_callUX C hth (m_X5_fail hl) caX10_353_5 kX5 hT ⟨by decide, by decide, by decide, by decide⟩ rfl rfl (Nat.le_of_ble_eq_true rfl) dX10_failureOf_1 (fun E σx q hx => ?_) ?_
  · obtain ⟨rfl, g, hg, rfl⟩ := hx
    refine h_catch C [] ⟨0, 4, 7, 148⟩ [] htab (fun z hz => nomatch hz) (by decide) (by decide) ck_X10_148 ct_ISE ?_
    show hW _ _ _ _ _ _ _ _ _ _ _ _ _ 7 [(0, .ref (ad G b))] [.ref q] (sG σ g) 1 6
    refine h_astore_n C [(1, .ref q), (0, .ref (ad G b))] dX10_failureOf_7 rfl (by decide) rfl ?_
    refine h_aload_n C 1 dX10_failureOf_8 rfl rfl ?_
    refine gfX10_87_5 C hT dX10_failureOf_9 ?_
    refine h_iret C rfl (by decide) (by decide) dX10_failureOf_12 ?_
    exact ⟨rfl, g, hg, rfl⟩
  rintro v σ' hF
  exact hF.elim
set_option maxRecDepth 100000 in
set_option maxHeartbeats 4000000 in
theorem m_X10_failureOf_8 {G : ha_G} {l : Launch} {σ : ha_St} {b : Nat} (hl : l.stackTraces = false) (hT : gT σ b = (8, 0)) : hMW G l yX10_failureOf cX10_failureOf 2 (some .int) [(0, 4, 7, 148)] { frames := 7, cells := 1, slots := 6, locals := 110 } [.ref (ad G b)] σ (fun v σ' => v = some (.int (-15)) ∧ gro σ σ') := by
  refine hMW_of [(0, .ref (ad G b))] (by decide +kernel) (Nat.le_of_ble_eq_true rfl) rfl ?_
  intro p e s m args below meth c0 C hth htab
  refine h_aload_n C 0 dX10_failureOf_0 rfl rfl ?_
  refine h_callU C m_X7_fail caX10_353_7 kX7 hT ⟨by decide, by decide, by decide, by decide⟩ rfl rfl (Nat.le_of_ble_eq_true rfl) dX10_failureOf_1 ?_
  rintro v σ' ⟨rfl, h2⟩; rw [h2]; clear h2
  show hW _ _ _ _ _ _ _ _ _ _ _ _ _ 4 [(0, .ref (ad G b))] [] σ 0 0
  refine h_goto C 13 dX10_failureOf_4 (by decide) ?_
  refine h_bipush C (-15) dX10_failureOf_13 (by decide) ?_
  refine h_iret C rfl (Nat.zero_le _) (Nat.zero_le _) dX10_failureOf_15 ?_
  exact ⟨rfl, gn σ, Nat.le_refl _, rfl⟩
def failV (σ : ha_St) (b t : Nat) : Int32 := if t = 6 ∨ t = 1 then gI σ b 4 else -15
theorem m_X10_failureOf {G : ha_G} {l : Launch} {σ : ha_St} {b t : Nat} (hl : l.stackTraces = false) (hT : gT σ b = (t, 0)) (ht : pT t) : hMW G l yX10_failureOf cX10_failureOf 2 (some .int) [(0, 4, 7, 148)] { frames := 7, cells := 1, slots := 6, locals := 110 } [.ref (ad G b)] σ (fun v σ' => v = some (.int (failV σ b t)) ∧ gro σ σ') := by
  rcases ht with rfl | rfl | rfl | rfl
  · exact m_X10_failureOf_1 hl hT
  · exact m_X10_failureOf_2 hl hT
  · exact m_X10_failureOf_6 hl hT
  · exact m_X10_failureOf_8 hl hT
def tossV (σ : ha_St) (d : Int32) : Int32 := match sAt d with
  | none => -1
  | some a => if bareP σ a then -11 else match gR σ a 0 with
    | none => -12
    | some c => failV σ c (gT σ c).1
set_option maxRecDepth 100000 in
set_option maxHeartbeats 4000000 in
theorem m_X10_toss {G : ha_G} {l : Launch} {σ : ha_St} {d : Int32} (hl : l.stackTraces = false) (hY : LY σ) (hP : PN σ) (hSH : SH σ) : hMT G l yX10_toss cX10_toss 4 (some .int) { frames := 8, cells := 1, slots := 6, locals := 131 } [.ref (ad G 0), .int d] σ (fun v σ' => v = some (.int (tossV σ d)) ∧ gro σ σ') := by
  refine hMT_of [(0, .ref (ad G 0)), (1, .int d)] (by decide +kernel) (Nat.le_of_ble_eq_true rfl) rfl ?_
  intro p e s m args below meth c0 C hth
  refine h_aload_n C 0 dX10_toss_0 rfl rfl ?_
  refine h_iload_n C 1 dX10_toss_1 rfl rfl ?_
  refine h_callV C (m_X10_shelfAt hY) caX10_270 kX10 (ty_0 hY) ⟨by decide, by decide, by decide, by decide⟩ rfl rfl (Nat.le_of_ble_eq_true rfl) dX10_toss_2 ?_
  rintro v σ' ⟨rfl, h2⟩; rw [h2]; clear h2
  show hW _ _ _ _ _ _ _ _ _ _ _ _ _ 5 [(0, .ref (ad G 0)), (1, .int d)] [rf G (sAt d)] σ 0 0
  refine h_topt (fun o_1 => ?_) (fun b_2 o_1 => ?_)
  · refine h_astore_nN C [(2, .null), (0, .ref (ad G 0)), (1, .int d)] dX10_toss_5 rfl (by decide) rfl ?_
    refine h_aload_nN C 0 dX10_toss_6 rfl rfl ?_
    refine h_ifnonnullN C dX10_toss_7 ?_
    refine h_iconst C (-1) dX10_toss_10 (by decide) ?_
    refine h_iret C rfl (Nat.zero_le _) (Nat.zero_le _) dX10_toss_11 ?_
    refine ⟨?_, gn σ, Nat.le_refl _, rfl⟩
    unfold tossV
    simp only [o_1]
  · obtain ⟨hS_b_2, hO_b_2, hl_b_2, hu_b_2⟩ := sh_at hSH o_1
    have hTs_b_2 : gT σ b_2 = (10, 0) := hS_b_2.1
    refine h_astore_n C [(2, .ref (ad G b_2)), (0, .ref (ad G 0)), (1, .int d)] dX10_toss_5 rfl (by decide) rfl ?_
    refine h_aload_n C 0 dX10_toss_6 rfl rfl ?_
    refine h_ifnonnull C 12 dX10_toss_7 (by decide) ?_
    refine h_aload_n C 0 dX10_toss_12 rfl rfl ?_
    refine h_callV C (m_X9_isBare hS_b_2) caX10_312 kX9 hTs_b_2 ⟨by decide, by decide, by decide, by decide⟩ rfl rfl (Nat.le_of_ble_eq_true rfl) dX10_toss_13 ?_
    rintro v σ' ⟨⟨r_13, rfl, hb_13⟩, h2⟩; rw [h2]; clear h2
    show hW _ _ _ _ _ _ _ _ _ _ _ _ _ 16 [(2, .ref (ad G b_2)), (0, .ref (ad G 0)), (1, .int d)] [.int r_13] σ 0 0
    refine h_if_eq C 22 dX10_toss_16 (by decide) (fun c_16 => ?_) (fun c_16 => ?_)
    · refine h_aload_n C 0 dX10_toss_22 rfl rfl ?_
      refine gfX10_323 C hTs_b_2 dX10_toss_23 ?_
      refine h_topt (fun o_3 => ?_) (fun b_4 o_3 => ?_)
      · refine h_astore_nN C [(3, .null), (2, .ref (ad G b_2)), (0, .ref (ad G 0)), (1, .int d)] dX10_toss_26 rfl (by decide) rfl ?_
        refine h_aload_nN C 0 dX10_toss_27 rfl rfl ?_
        refine h_ifnonnullN C dX10_toss_28 ?_
        refine h_bipush C (-12) dX10_toss_31 (by decide) ?_
        refine h_goto C 40 dX10_toss_33 (by decide) ?_
        refine h_iret C rfl (Nat.zero_le _) (Nat.zero_le _) dX10_toss_40 ?_
        refine ⟨?_, gn σ, Nat.le_refl _, rfl⟩
        unfold tossV
        simp only [o_1]
        rw [if_neg (isB_0 hb_13 c_16)]
        simp only [o_3]
      · obtain ⟨t_4, hT_4, ht_4⟩ := hS_b_2.2.1 _ o_3
        refine h_astore_n C [(3, .ref (ad G b_4)), (2, .ref (ad G b_2)), (0, .ref (ad G 0)), (1, .int d)] dX10_toss_26 rfl (by decide) rfl ?_
        refine h_aload_n C 0 dX10_toss_27 rfl rfl ?_
        refine h_ifnonnull C 36 dX10_toss_28 (by decide) ?_
        refine h_aload_n C 0 dX10_toss_36 rfl rfl ?_
        refine h_callSW C hth (m_X10_failureOf hl hT_4 ht_4) cwX10_330 ⟨by decide, by decide, by decide, by decide⟩ rfl rfl (Nat.le_of_ble_eq_true rfl) dX10_toss_37 ?_
        rintro v σ' ⟨rfl, g, hg, rfl⟩
        show hW _ _ _ _ _ _ _ _ _ _ _ _ _ 40 [(3, .ref (ad G b_4)), (2, .ref (ad G b_2)), (0, .ref (ad G 0)), (1, .int d)] [.int (failV σ b_4 t_4)] (sG σ g) 1 6
        refine h_iret C rfl (by decide) (by decide) dX10_toss_40 ?_
        refine ⟨?_, g, hg, rfl⟩
        unfold tossV
        simp only [o_1]
        rw [if_neg (isB_0 hb_13 c_16)]
        simp only [o_3]
        rw [hT_4]
    · refine h_bipush C (-11) dX10_toss_19 (by decide) ?_
      refine h_iret C rfl (Nat.zero_le _) (Nat.zero_le _) dX10_toss_21 ?_
      refine ⟨?_, gn σ, Nat.le_refl _, rfl⟩
      unfold tossV
      simp only [o_1]
      rw [if_pos (isB_1 hb_13 c_16)]
def okW (σ : ha_St) (i p k : Int32) (b : Nat) : Prop := cAt σ i = some b ∧ (-1 ≤ p ∧ p < countOf (gT σ b).1) ∧ 0 ≤ k ∧ k ≤ 2
def wrL (σ : ha_St) (b : Nat) (p k : Int32) : Int64 := if k = 0 then (pxOf σ b (gT σ b).1 p).toInt64 else if k = 1 then (pyOf σ b (gT σ b).1 p).toInt64 else (tuOf σ b (gT σ b).1 p).toInt64
def wrenX (σ : ha_St) (i p k : Int32) : String → ha_St → Prop := fun E σ' => E = IAE ∧ (∀ b, ¬ okW σ i p k b) ∧ gro σ σ'
def wrenQ (σ : ha_St) (i p k : Int32) (x : Int64) (σ' : ha_St) : Prop := ∃ b, okW σ i p k b ∧ x = wrL σ b p k ∧ σ' = σ
set_option maxRecDepth 100000 in
set_option maxHeartbeats 4000000 in
theorem m_X10_wrench {G : ha_G} {l : Launch} {σ : ha_St} {i pu kk : Int32} (hl : l.stackTraces = false) (hY : LY σ) (hP : PN σ) : hMX G l yX10_wrench cX10_wrench 5 (some .long) { frames := 6, cells := 1, slots := 6, locals := 90 } [.ref (ad G 0), .int i, .int pu, .int kk] σ (fun v σ' => ∃ x, v = some (.long x) ∧ wrenQ σ i pu kk x σ') (wrenX σ i pu kk) := by
  refine hMX_of [(0, .ref (ad G 0)), (1, .int i), (2, .int pu), (3, .int kk)] (by decide +kernel) (Nat.le_of_ble_eq_true rfl) rfl ?_
  intro p e s m args below meth c0 C hth hno
  refine h_aload_n C 0 dX10_wrench_0 rfl rfl ?_
  refine h_iload_n C 1 dX10_wrench_1 rfl rfl ?_
  refine h_callV C (m_X10_contactAt hY hP) caX10_90 kX10 (ty_0 hY) ⟨by decide, by decide, by decide, by decide⟩ rfl rfl (Nat.le_of_ble_eq_true rfl) dX10_wrench_2 ?_
  rintro v σ' ⟨rfl, h2⟩; rw [h2]; clear h2
  show hW _ _ _ _ _ _ _ _ _ _ _ _ _ 5 [(0, .ref (ad G 0)), (1, .int i), (2, .int pu), (3, .int kk)] [rf G (cAt σ i)] σ 0 0
  refine h_topt (fun o_1 => ?_) (fun b_2 o_1 => ?_)
  · refine h_astoreN C [(4, .null), (0, .ref (ad G 0)), (1, .int i), (2, .int pu), (3, .int kk)] dX10_wrench_5 (by decide) rfl ?_
    refine h_aloadN C 0 dX10_wrench_7 rfl ?_
    refine h_ifnullN C 35 dX10_wrench_9 (by decide) ?_
    refine h_throwS C hl hth hno th_X10_IAE (text := "no such wrench") (by decide +kernel) dX10_wrench_35 dX10_wrench_38 dX10_wrench_39 dX10_wrench_41 dX10_wrench_44 (by decide) (by decide) (by decide) (by decide) (fun g hg => ?_) (by decide) (by decide)
    refine ⟨rfl, fun b q => ?_, g, hg, rfl⟩
    have q1 := q.1
    rw [o_1] at q1
    cases q1
  · obtain ⟨t_2, hT_2, ht_2, hb_2, hi_2, hj_2, hr_2⟩ := cAt_some hP o_1
    refine h_astore C [(4, .ref (ad G b_2)), (0, .ref (ad G 0)), (1, .int i), (2, .int pu), (3, .int kk)] dX10_wrench_5 (by decide) rfl ?_
    refine h_aload C 0 dX10_wrench_7 rfl ?_
    refine h_ifnull C dX10_wrench_9 ?_
    refine h_iload_n C 3 dX10_wrench_12 rfl rfl ?_
    refine h_iconst C (-1) dX10_wrench_13 (by decide) ?_
    refine h_icmp_lt C 35 dX10_wrench_14 (by decide) (fun c_14 => ?_) (fun c_14 => ?_)
    · refine h_throwS C hl hth hno th_X10_IAE (text := "no such wrench") (by decide +kernel) dX10_wrench_35 dX10_wrench_38 dX10_wrench_39 dX10_wrench_41 dX10_wrench_44 (by decide) (by decide) (by decide) (by decide) (fun g hg => ?_) (by decide) (by decide)
      refine ⟨rfl, fun b q => ?_, g, hg, rfl⟩
      obtain ⟨q1, q2, q3⟩ := q
      cases o_1.symm.trans q1
      exact absurd c_14 (Int32.not_lt.mpr q2.1)
    · refine h_iload_n C 3 dX10_wrench_17 rfl rfl ?_
      refine h_aload C 0 dX10_wrench_18 rfl ?_
      refine cvX10_120 C hT_2 ht_2 (by decide) (by decide) (by decide) (by decide) (Nat.le_of_ble_eq_true rfl) dX10_wrench_20 ?_
      refine h_icmp_ge C 35 dX10_wrench_23 (by decide) (fun c_23 => ?_) (fun c_23 => ?_)
      · refine h_throwS C hl hth hno th_X10_IAE (text := "no such wrench") (by decide +kernel) dX10_wrench_35 dX10_wrench_38 dX10_wrench_39 dX10_wrench_41 dX10_wrench_44 (by decide) (by decide) (by decide) (by decide) (fun g hg => ?_) (by decide) (by decide)
        refine ⟨rfl, fun b q => ?_, g, hg, rfl⟩
        obtain ⟨q1, q2, q3⟩ := q
        cases o_1.symm.trans q1
        rw [hT_2] at q2
        exact absurd q2.2 (Int32.not_lt.mpr c_23)
      · refine h_iload_n C 4 dX10_wrench_26 rfl rfl ?_
        refine h_if_lt C 35 dX10_wrench_27 (by decide) (fun c_27 => ?_) (fun c_27 => ?_)
        · refine h_throwS C hl hth hno th_X10_IAE (text := "no such wrench") (by decide +kernel) dX10_wrench_35 dX10_wrench_38 dX10_wrench_39 dX10_wrench_41 dX10_wrench_44 (by decide) (by decide) (by decide) (by decide) (fun g hg => ?_) (by decide) (by decide)
          refine ⟨rfl, fun b q => ?_, g, hg, rfl⟩
          obtain ⟨q1, q2, q3⟩ := q
          cases o_1.symm.trans q1
          exact absurd c_27 (Int32.not_lt.mpr q3.1)
        · refine h_iload_n C 4 dX10_wrench_30 rfl rfl ?_
          refine h_iconst C 2 dX10_wrench_31 (by decide) ?_
          refine h_icmp_le C 45 dX10_wrench_32 (by decide) (fun c_32 => ?_) (fun c_32 => ?_)
          · refine h_iload_n C 4 dX10_wrench_45 rfl rfl ?_
            refine h_if_ne C 59 dX10_wrench_46 (by decide) (fun c_46 => ?_) (fun c_46 => ?_)
            · refine h_iload_n C 4 dX10_wrench_59 rfl rfl ?_
              refine h_iconst C 1 dX10_wrench_60 (by decide) ?_
              refine h_icmp_ne C 74 dX10_wrench_61 (by decide) (fun c_61 => ?_) (fun c_61 => ?_)
              · refine h_aload C 0 dX10_wrench_74 rfl ?_
                refine h_iload_n C 3 dX10_wrench_76 rfl rfl ?_
                refine cvX10_137 C hT_2 ht_2 (by decide) (by decide) (by decide) (by decide) (Nat.le_of_ble_eq_true rfl) dX10_wrench_77 ?_
                refine h_i2l C dX10_wrench_80 ?_
                refine h_vxret ?_
                refine h_lret C rfl (Nat.zero_le _) (Nat.zero_le _) dX10_wrench_81 ?_
                refine ⟨_, rfl, b_2, ⟨o_1, ⟨Int32.not_lt.mp c_14, by rw [hT_2]; exact Int32.not_le.mp c_23⟩, Int32.not_lt.mp c_27, c_32⟩, ?_, rfl⟩
                unfold wrL
                rw [hT_2]
                rw [if_neg c_46, if_neg c_61]
              · refine h_aload C 0 dX10_wrench_64 rfl ?_
                refine h_iload_n C 3 dX10_wrench_66 rfl rfl ?_
                refine cvX10_134 C hT_2 ht_2 (by decide) (by decide) (by decide) (by decide) (Nat.le_of_ble_eq_true rfl) dX10_wrench_67 ?_
                refine h_i2l C dX10_wrench_70 ?_
                refine h_goto C 81 dX10_wrench_71 (by decide) ?_
                refine h_vxret ?_
                refine h_lret C rfl (Nat.zero_le _) (Nat.zero_le _) dX10_wrench_81 ?_
                refine ⟨_, rfl, b_2, ⟨o_1, ⟨Int32.not_lt.mp c_14, by rw [hT_2]; exact Int32.not_le.mp c_23⟩, Int32.not_lt.mp c_27, c_32⟩, ?_, rfl⟩
                unfold wrL
                rw [hT_2]
                rw [if_neg c_46, if_pos c_61]
            · refine h_aload C 0 dX10_wrench_49 rfl ?_
              refine h_iload_n C 3 dX10_wrench_51 rfl rfl ?_
              refine cvX10_130 C hT_2 ht_2 (by decide) (by decide) (by decide) (by decide) (Nat.le_of_ble_eq_true rfl) dX10_wrench_52 ?_
              refine h_i2l C dX10_wrench_55 ?_
              refine h_goto C 81 dX10_wrench_56 (by decide) ?_
              refine h_vxret ?_
              refine h_lret C rfl (Nat.zero_le _) (Nat.zero_le _) dX10_wrench_81 ?_
              refine ⟨_, rfl, b_2, ⟨o_1, ⟨Int32.not_lt.mp c_14, by rw [hT_2]; exact Int32.not_le.mp c_23⟩, Int32.not_lt.mp c_27, c_32⟩, ?_, rfl⟩
              unfold wrL
              rw [hT_2]
              rw [if_pos c_46]
          · refine h_throwS C hl hth hno th_X10_IAE (text := "no such wrench") (by decide +kernel) dX10_wrench_35 dX10_wrench_38 dX10_wrench_39 dX10_wrench_41 dX10_wrench_44 (by decide) (by decide) (by decide) (by decide) (fun g hg => ?_) (by decide) (by decide)
            refine ⟨rfl, fun b q => ?_, g, hg, rfl⟩
            obtain ⟨q1, q2, q3⟩ := q
            cases o_1.symm.trans q1
            exact absurd q3.2 c_32
def hidX (σ : ha_St) (w : Int32) : String → ha_St → Prop := fun E σ' => (E = IAE ∧ ¬ (0 ≤ w ∧ w ≤ 2) ∧ gro σ σ') ∨ (E = ISE ∧ (0 ≤ w ∧ w ≤ 2) ∧ ∃ r σ1, rankQ σ r σ1 ∧ r ≠ 2 ∧ gro σ1 σ')
def hidQ (σ : ha_St) (w : Int32) (x : Int64) (σ' : ha_St) : Prop := (0 ≤ w ∧ w ≤ 2) ∧ ∃ σ1, rankQ σ 2 σ1 ∧ σ' = redF σ1 ∧ x = if w = 0 then gL σ' 2 8 else if w = 1 then gL σ' 2 9 else gL σ' 2 10
theorem redF_fr {σ : ha_St} : frX 2 9 σ (redF σ) := by
  unfold redF
  split
  · exact frX.rf
  · exact (frC_set3 (c := 2)).X
set_option maxRecDepth 100000 in
set_option maxHeartbeats 4000000 in
theorem m_X10_hidden {G : ha_G} {l : Launch} {σ : ha_St} {w : Int32} (hl : l.stackTraces = false) (hY : LY σ) (hP : PN σ) : hMX G l yX10_hidden cX10_hidden 2 (some .long) { frames := 6, cells := 1, slots := 6, locals := 107 } [.ref (ad G 0), .int w] σ (fun v σ' => ∃ x, v = some (.long x) ∧ hidQ σ w x σ') (hidX σ w) := by
  refine hMX_of [(0, .ref (ad G 0)), (1, .int w)] (by decide +kernel) (Nat.le_of_ble_eq_true rfl) rfl ?_
  intro p e s m args below meth c0 C hth hno
  refine h_iload_n C 1 dX10_hidden_0 rfl rfl ?_
  refine h_if_lt C 9 dX10_hidden_1 (by decide) (fun c_1 => ?_) (fun c_1 => ?_)
  · refine h_throwS C hl hth hno th_X10_IAE (text := "a motion has parts 0, 1, 2") (by decide +kernel) dX10_hidden_9 dX10_hidden_12 dX10_hidden_13 dX10_hidden_15 dX10_hidden_18 (by decide) (by decide) (by decide) (by decide) (fun g hg => ?_) (by decide) (by decide)
    refine Or.inl ⟨rfl, fun q => ?_, g, hg, rfl⟩
    exact absurd c_1 (Int32.not_lt.mpr q.1)
  · refine h_iload_n C 1 dX10_hidden_4 rfl rfl ?_
    refine h_iconst C 2 dX10_hidden_5 (by decide) ?_
    refine h_icmp_le C 19 dX10_hidden_6 (by decide) (fun c_6 => ?_) (fun c_6 => ?_)
    · refine h_aload_n C 0 dX10_hidden_19 rfl rfl ?_
      refine h_callV C (m_X10_takePlacing hY hP) caX10_140 kX10 (ty_0 hY) ⟨by decide, by decide, by decide, by decide⟩ rfl rfl (Nat.le_of_ble_eq_true rfl) dX10_hidden_20 ?_
      rintro v σ1 ⟨rfl, h1, f1, z0, z1⟩
      have hY : LY σ1 := f1.LY hY
      show hW _ _ _ _ _ _ _ _ _ _ _ _ _ 23 [(0, .ref (ad G 0)), (1, .int w)] [] σ1 0 0
      refine h_aload_n C 0 dX10_hidden_23 rfl rfl ?_
      refine gfX10_22 C (ty_0 hY) dX10_hidden_24 ?_
      refine h_tref (b := 2) (rf_0_2 hY) ?_
      refine h_callV C (m_X2_measured (isC_2 hY) z0 (Int32.le_trans z1 (by decide))) caX10_143 kX2 (ty_2 hY) ⟨by decide, by decide, by decide, by decide⟩ rfl rfl (Nat.le_of_ble_eq_true rfl) dX10_hidden_27 ?_
      rintro v σ2 ⟨rr, rfl, hm⟩
      have f2 : frX 2 9 σ1 σ2 := hm.1.fr.X
      have hY : LY σ2 := f2.LY hY
      have hrk : rankQ σ rr σ2 := by
        rw [h1] at hm z0 z1
        exact ⟨hm, f1.tr f2, z0, z1⟩
      show hW _ _ _ _ _ _ _ _ _ _ _ _ _ 30 [(0, .ref (ad G 0)), (1, .int w)] [.int rr] σ2 0 0
      refine h_iconst C 2 dX10_hidden_30 (by decide) ?_
      refine h_icmp_eq C 44 dX10_hidden_31 (by decide) (fun c_31 => ?_) (fun c_31 => ?_)
      · refine h_aload_n C 0 dX10_hidden_44 rfl rfl ?_
        refine gfX10_22 C (ty_0 hY) dX10_hidden_45 ?_
        refine h_tref (b := 2) (rf_0_2 hY) ?_
        refine h_callV C (m_X2_reduceNormal hY) caX10_153 kX2 (ty_2 hY) ⟨by decide, by decide, by decide, by decide⟩ rfl rfl (Nat.le_of_ble_eq_true rfl) dX10_hidden_48 ?_
        rintro v σ' ⟨rfl, h2⟩; rw [h2]; clear h2
        show hW _ _ _ _ _ _ _ _ _ _ _ _ _ 51 [(0, .ref (ad G 0)), (1, .int w)] [] (redF σ2) 0 0
        have hY : LY (redF σ2) := redF_fr.LY hY
        refine h_iload_n C 1 dX10_hidden_51 rfl rfl ?_
        refine h_if_ne C 65 dX10_hidden_52 (by decide) (fun c_52 => ?_) (fun c_52 => ?_)
        · refine h_iload_n C 1 dX10_hidden_65 rfl rfl ?_
          refine h_iconst C 1 dX10_hidden_66 (by decide) ?_
          refine h_icmp_ne C 80 dX10_hidden_67 (by decide) (fun c_67 => ?_) (fun c_67 => ?_)
          · refine h_aload_n C 0 dX10_hidden_80 rfl rfl ?_
            refine gfX10_22 C (ty_0 hY) dX10_hidden_81 ?_
            refine h_tref (b := 2) (rf_0_2 hY) ?_
            refine gfX10_163 C (ty_2 hY) dX10_hidden_84 ?_
            refine h_vxret ?_
            refine h_lret C rfl (Nat.zero_le _) (Nat.zero_le _) dX10_hidden_87 ?_
            refine ⟨_, rfl, ⟨Int32.not_lt.mp c_1, c_6⟩, σ2, by rw [← c_31]; exact hrk, rfl, ?_⟩
            rw [if_neg c_52, if_neg c_67]
          · refine h_aload_n C 0 dX10_hidden_70 rfl rfl ?_
            refine gfX10_22 C (ty_0 hY) dX10_hidden_71 ?_
            refine h_tref (b := 2) (rf_0_2 hY) ?_
            refine gfX10_160 C (ty_2 hY) dX10_hidden_74 ?_
            refine h_goto C 87 dX10_hidden_77 (by decide) ?_
            refine h_vxret ?_
            refine h_lret C rfl (Nat.zero_le _) (Nat.zero_le _) dX10_hidden_87 ?_
            refine ⟨_, rfl, ⟨Int32.not_lt.mp c_1, c_6⟩, σ2, by rw [← c_31]; exact hrk, rfl, ?_⟩
            rw [if_neg c_52, if_pos c_67]
        · refine h_aload_n C 0 dX10_hidden_55 rfl rfl ?_
          refine gfX10_22 C (ty_0 hY) dX10_hidden_56 ?_
          refine h_tref (b := 2) (rf_0_2 hY) ?_
          refine gfX10_156 C (ty_2 hY) dX10_hidden_59 ?_
          refine h_goto C 87 dX10_hidden_62 (by decide) ?_
          refine h_vxret ?_
          refine h_lret C rfl (Nat.zero_le _) (Nat.zero_le _) dX10_hidden_87 ?_
          refine ⟨_, rfl, ⟨Int32.not_lt.mp c_1, c_6⟩, σ2, by rw [← c_31]; exact hrk, rfl, ?_⟩
          rw [if_pos c_52]
      · refine h_throwS C hl hth hno th_X10_ISE (text := "the rank isn't 2") (by decide +kernel) dX10_hidden_34 dX10_hidden_37 dX10_hidden_38 dX10_hidden_40 dX10_hidden_43 (by decide) (by decide) (by decide) (by decide) (fun g hg => ?_) (by decide) (by decide)
        exact Or.inr ⟨rfl, ⟨Int32.not_lt.mp c_1, c_6⟩, rr, σ2, hrk, c_31, g, hg, rfl⟩
    · refine h_throwS C hl hth hno th_X10_IAE (text := "a motion has parts 0, 1, 2") (by decide +kernel) dX10_hidden_9 dX10_hidden_12 dX10_hidden_13 dX10_hidden_15 dX10_hidden_18 (by decide) (by decide) (by decide) (by decide) (fun g hg => ?_) (by decide) (by decide)
      refine Or.inl ⟨rfl, fun q => ?_, g, hg, rfl⟩
      exact absurd q.2 c_6
def eleX (σ : ha_St) (d i : Int32) : String → ha_St → Prop := fun E σ' => (E = IAE ∧ sAt d = none ∧ gro σ σ') ∨ (E = ISE ∧ (∃ a, sAt d = some a ∧ ¬ plcP σ a i 1) ∧ gro σ σ')
def eleQ (σ : ha_St) (d i : Int32) (x : Int64) (σ' : ha_St) : Prop := ∃ a, sAt d = some a ∧ plcP σ a i 1 ∧ x = valOf σ a i ∧ σ' = σ
set_option maxRecDepth 100000 in
set_option maxHeartbeats 4000000 in
theorem m_X10_element {G : ha_G} {l : Launch} {σ : ha_St} {d i : Int32} (hl : l.stackTraces = false) (hY : LY σ) (hP : PN σ) (hSH : SH σ) : hMX G l yX10_element cX10_element 4 (some .long) { frames := 6, cells := 1, slots := 6, locals := 90 } [.ref (ad G 0), .int d, .int i] σ (fun v σ' => ∃ x, v = some (.long x) ∧ eleQ σ d i x σ') (eleX σ d i) := by
  refine hMX_of [(0, .ref (ad G 0)), (1, .int d), (2, .int i)] (by decide +kernel) (Nat.le_of_ble_eq_true rfl) rfl ?_
  intro p e s m args below meth c0 C hth hno
  refine h_aload_n C 0 dX10_element_0 rfl rfl ?_
  refine h_iload_n C 1 dX10_element_1 rfl rfl ?_
  refine h_callV C (m_X10_shelfAt hY) caX10_270 kX10 (ty_0 hY) ⟨by decide, by decide, by decide, by decide⟩ rfl rfl (Nat.le_of_ble_eq_true rfl) dX10_element_2 ?_
  rintro v σ' ⟨rfl, h2⟩; rw [h2]; clear h2
  show hW _ _ _ _ _ _ _ _ _ _ _ _ _ 5 [(0, .ref (ad G 0)), (1, .int d), (2, .int i)] [rf G (sAt d)] σ 0 0
  refine h_topt (fun o_1 => ?_) (fun b_2 o_1 => ?_)
  · refine h_astore_nN C [(3, .null), (0, .ref (ad G 0)), (1, .int d), (2, .int i)] dX10_element_5 rfl (by decide) rfl ?_
    refine h_aload_nN C 0 dX10_element_6 rfl rfl ?_
    refine h_ifnonnullN C dX10_element_7 ?_
    refine h_throwSW C hl hth hno th_X10_IAE (text := "no such shelf") (by decide +kernel) dX10_element_10 dX10_element_13 dX10_element_14 dX10_element_17 dX10_element_20 (by decide) (by decide) (by decide) (by decide) (fun g hg => ?_) (by decide) (by decide)
    exact Or.inl ⟨rfl, o_1, g, hg, rfl⟩
  · obtain ⟨hS_b_2, hO_b_2, hl_b_2, hu_b_2⟩ := sh_at hSH o_1
    have hTs_b_2 : gT σ b_2 = (10, 0) := hS_b_2.1
    refine h_astore_n C [(3, .ref (ad G b_2)), (0, .ref (ad G 0)), (1, .int d), (2, .int i)] dX10_element_5 rfl (by decide) rfl ?_
    refine h_aload_n C 0 dX10_element_6 rfl rfl ?_
    refine h_ifnonnull C 21 dX10_element_7 (by decide) ?_
    refine h_aload_n C 0 dX10_element_21 rfl rfl ?_
    refine h_iload_n C 3 dX10_element_22 rfl rfl ?_
    refine h_iconst C 1 dX10_element_23 (by decide) ?_
    refine h_callV C (m_X9_hasPlaces hS_b_2) caX10_303 kX9 hTs_b_2 ⟨by decide, by decide, by decide, by decide⟩ rfl rfl (Nat.le_of_ble_eq_true rfl) dX10_element_24 ?_
    rintro v σ' ⟨⟨r_24, rfl, hb_24⟩, h2⟩; rw [h2]; clear h2
    show hW _ _ _ _ _ _ _ _ _ _ _ _ _ 27 [(3, .ref (ad G b_2)), (0, .ref (ad G 0)), (1, .int d), (2, .int i)] [.int r_24] σ 0 0
    refine h_if_ne C 41 dX10_element_27 (by decide) (fun c_27 => ?_) (fun c_27 => ?_)
    · refine h_aload_n C 0 dX10_element_41 rfl rfl ?_
      refine h_iload_n C 3 dX10_element_42 rfl rfl ?_
      refine h_callV C (m_X9_valueAt hS_b_2) caX10_308 kX9 hTs_b_2 ⟨by decide, by decide, by decide, by decide⟩ rfl rfl (Nat.le_of_ble_eq_true rfl) dX10_element_43 ?_
      rintro v σ' ⟨rfl, h2⟩; rw [h2]; clear h2
      rw [if_pos (isB_1 hb_24 c_27)]
      show hW _ _ _ _ _ _ _ _ _ _ _ _ _ 46 [(3, .ref (ad G b_2)), (0, .ref (ad G 0)), (1, .int d), (2, .int i)] [.long (valOf σ b_2 i)] σ 0 0
      refine h_vxret ?_
      refine h_lret C rfl (Nat.zero_le _) (Nat.zero_le _) dX10_element_46 ?_
      exact ⟨_, rfl, _, o_1, isB_1 hb_24 c_27, rfl, rfl⟩
    · refine h_throwSW C hl hth hno th_X10_ISE (text := "no such place there") (by decide +kernel) dX10_element_30 dX10_element_33 dX10_element_34 dX10_element_37 dX10_element_40 (by decide) (by decide) (by decide) (by decide) (fun g hg => ?_) (by decide) (by decide)
      exact Or.inr ⟨rfl, ⟨_, o_1, isB_0 hb_24 c_27⟩, g, hg, rfl⟩
def okT (σ : ha_St) (x y d t : Int32) (a b c : Nat) : Prop := (plc x y ∧ (0 ≤ d ∧ d < 8) ∧ 0 ≤ t ∧ t ≤ 999) ∧ pAt σ (t - t / 10 * 10) = some a ∧ pAt σ (t / 10 - t / 10 / 10 * 10) = some b ∧ pAt σ (t / 100) = some c ∧ a ≠ b ∧ a ≠ c ∧ b ≠ c
def worF (σ : ha_St) (x y d : Int32) (a b c : Nat) : ha_St := weighF (aimF σ x y d) a b c (gT σ a).1 (gT σ b).1 (gT σ c).1
def divW (σ : ha_St) : Int64 := euc 100 (lAbs (gL σ 21 4)) (lAbs (gL σ 21 5))
def worX (σ : ha_St) (x y d t : Int32) : String → ha_St → Prop := fun E σ' => (E = IAE ∧ (∀ a b c, ¬ okT σ x y d t a b c) ∧ gro σ σ') ∨ (E = ISE ∧ ∃ a b c, okT σ x y d t a b c ∧ gL (worF σ x y d a b c) 21 5 = 0 ∧ gro (worF σ x y d a b c) σ')
def worQ (σ : ha_St) (x y d t lo : Int32) (v : Int64) (σ' : ha_St) : Prop := ∃ a b c, okT σ x y d t a b c ∧ σ' = worF σ x y d a b c ∧ gL σ' 21 5 ≠ 0 ∧ v = if divW σ' = 0 then 0 else (if lo = 0 then gL σ' 21 4 else gL σ' 21 5) / divW σ'
theorem lg_0 {x y : Int64} (h : lg_cmp x y = 0) : x = y := by
  rcases lg_cases x y with ⟨-, z⟩ | ⟨z, -⟩ | ⟨-, z⟩
  · rw [z] at h; exact absurd h (by decide)
  · exact z
  · rw [z] at h; exact absurd h (by decide)
set_option maxRecDepth 100000 in
set_option maxHeartbeats 4000000 in
theorem m_X10_worst {G : ha_G} {l : Launch} {σ : ha_St} {x y d t lo : Int32} (hl : l.stackTraces = false) (hY : LY σ) (hP : PN σ) : hMX G l yX10_worst cX10_worst 11 (some .long) { frames := 6, cells := 1, slots := 6, locals := 107 } [.ref (ad G 0), .int x, .int y, .int d, .int t, .int lo] σ (fun v σ' => ∃ q, v = some (.long q) ∧ worQ σ x y d t lo q σ') (worX σ x y d t) := by
  refine hMX_of [(0, .ref (ad G 0)), (1, .int x), (2, .int y), (3, .int d), (4, .int t), (5, .int lo)] (by decide +kernel) (Nat.le_of_ble_eq_true rfl) rfl ?_
  intro p e s m args below meth c0 C hth hno
  refine h_iload_n C 1 dX10_worst_0 rfl rfl ?_
  refine h_iload_n C 2 dX10_worst_1 rfl rfl ?_
  refine h_callS C m_X10_isPlace caX10_72 ⟨by decide, by decide, by decide, by decide⟩ rfl rfl (Nat.le_of_ble_eq_true rfl) dX10_worst_2 ?_
  rintro v σ' ⟨rfl, h2⟩; rw [h2]; clear h2
  show hW _ _ _ _ _ _ _ _ _ _ _ _ _ 5 [(0, .ref (ad G 0)), (1, .int x), (2, .int y), (3, .int d), (4, .int t), (5, .int lo)] [.int (if -100 ≤ x ∧ x ≤ 100 ∧ -100 ≤ y ∧ y ≤ 100 then 1 else 0)] σ 0 0
  refine h_if_eq C 28 dX10_worst_5 (by decide) (fun c_5 => ?_) (fun c_5 => ?_)
  · refine h_throwS C hl hth hno th_X10_IAE (text := "no such feature or contacts") (by decide +kernel) dX10_worst_28 dX10_worst_31 dX10_worst_32 dX10_worst_34 dX10_worst_37 (by decide) (by decide) (by decide) (by decide) (fun g hg => ?_) (by decide) (by decide)
    refine Or.inl ⟨rfl, fun a b c q => ?_, g, hg, rfl⟩
    exact if_nil c_5 q.1.1
  · refine h_iload_n C 3 dX10_worst_8 rfl rfl ?_
    refine h_callS C m_X10_isDirection caX10_76 ⟨by decide, by decide, by decide, by decide⟩ rfl rfl (Nat.le_of_ble_eq_true rfl) dX10_worst_9 ?_
    rintro v σ' ⟨rfl, h2⟩; rw [h2]; clear h2
    show hW _ _ _ _ _ _ _ _ _ _ _ _ _ 12 [(0, .ref (ad G 0)), (1, .int x), (2, .int y), (3, .int d), (4, .int t), (5, .int lo)] [.int (if 0 ≤ d ∧ d < 8 then 1 else 0)] σ 0 0
    refine h_if_eq C 28 dX10_worst_12 (by decide) (fun c_12 => ?_) (fun c_12 => ?_)
    · refine h_throwS C hl hth hno th_X10_IAE (text := "no such feature or contacts") (by decide +kernel) dX10_worst_28 dX10_worst_31 dX10_worst_32 dX10_worst_34 dX10_worst_37 (by decide) (by decide) (by decide) (by decide) (fun g hg => ?_) (by decide) (by decide)
      refine Or.inl ⟨rfl, fun a b c q => ?_, g, hg, rfl⟩
      exact if_nil c_12 q.1.2.1
    · refine h_iload C 4 dX10_worst_15 rfl ?_
      refine h_if_lt C 28 dX10_worst_17 (by decide) (fun c_17 => ?_) (fun c_17 => ?_)
      · refine h_throwS C hl hth hno th_X10_IAE (text := "no such feature or contacts") (by decide +kernel) dX10_worst_28 dX10_worst_31 dX10_worst_32 dX10_worst_34 dX10_worst_37 (by decide) (by decide) (by decide) (by decide) (fun g hg => ?_) (by decide) (by decide)
        refine Or.inl ⟨rfl, fun a b c q => ?_, g, hg, rfl⟩
        exact absurd c_17 (Int32.not_lt.mpr q.1.2.2.1)
      · refine h_iload C 4 dX10_worst_20 rfl ?_
        refine h_sipush C 999 dX10_worst_22 (by decide) ?_
        refine h_icmp_le C 38 dX10_worst_25 (by decide) (fun c_25 => ?_) (fun c_25 => ?_)
        · refine h_aload_n C 0 dX10_worst_38 rfl rfl ?_
          refine h_iload C 4 dX10_worst_39 rfl ?_
          refine h_bipush C 10 dX10_worst_41 (by decide) ?_
          refine h_irem C dX10_worst_43 (by decide) ?_
          refine h_callV C (m_X10_placerAt hY hP) caX10_205 kX10 (ty_0 hY) ⟨by decide, by decide, by decide, by decide⟩ rfl rfl (Nat.le_of_ble_eq_true rfl) dX10_worst_44 ?_
          rintro v σ' ⟨rfl, h2⟩; rw [h2]; clear h2
          show hW _ _ _ _ _ _ _ _ _ _ _ _ _ 47 [(0, .ref (ad G 0)), (1, .int x), (2, .int y), (3, .int d), (4, .int t), (5, .int lo)] [rf G (pAt σ (t - t / 10 * 10))] σ 0 0
          refine h_topt (fun o_1 => ?_) (fun b_2 o_1 => ?_)
          · refine h_astoreN C [(6, .null), (0, .ref (ad G 0)), (1, .int x), (2, .int y), (3, .int d), (4, .int t), (5, .int lo)] dX10_worst_47 (by decide) rfl ?_
            refine h_aload_n C 1 dX10_worst_49 rfl rfl ?_
            refine h_iload C 5 dX10_worst_50 rfl ?_
            refine h_bipush C 10 dX10_worst_52 (by decide) ?_
            refine h_idiv C dX10_worst_54 (by decide) ?_
            refine h_bipush C 10 dX10_worst_55 (by decide) ?_
            refine h_irem C dX10_worst_57 (by decide) ?_
            refine h_callV C (m_X10_placerAt hY hP) caX10_205 kX10 (ty_0 hY) ⟨by decide, by decide, by decide, by decide⟩ rfl rfl (Nat.le_of_ble_eq_true rfl) dX10_worst_58 ?_
            rintro v σ' ⟨rfl, h2⟩; rw [h2]; clear h2
            show hW _ _ _ _ _ _ _ _ _ _ _ _ _ 61 [(6, .null), (0, .ref (ad G 0)), (1, .int x), (2, .int y), (3, .int d), (4, .int t), (5, .int lo)] [rf G (pAt σ ((t / 10) - (t / 10) / 10 * 10))] σ 0 0
            refine h_topt (fun o_3 => ?_) (fun b_4 o_3 => ?_)
            · refine h_astoreN C [(7, .null), (6, .null), (0, .ref (ad G 0)), (1, .int x), (2, .int y), (3, .int d), (4, .int t), (5, .int lo)] dX10_worst_61 (by decide) rfl ?_
              refine h_aload_n C 2 dX10_worst_63 rfl rfl ?_
              refine h_iload C 6 dX10_worst_64 rfl ?_
              refine h_bipush C 100 dX10_worst_66 (by decide) ?_
              refine h_idiv C dX10_worst_68 (by decide) ?_
              refine h_callV C (m_X10_placerAt hY hP) caX10_205 kX10 (ty_0 hY) ⟨by decide, by decide, by decide, by decide⟩ rfl rfl (Nat.le_of_ble_eq_true rfl) dX10_worst_69 ?_
              rintro v σ' ⟨rfl, h2⟩; rw [h2]; clear h2
              show hW _ _ _ _ _ _ _ _ _ _ _ _ _ 72 [(7, .null), (6, .null), (0, .ref (ad G 0)), (1, .int x), (2, .int y), (3, .int d), (4, .int t), (5, .int lo)] [rf G (pAt σ (t / 100))] σ 0 0
              refine h_topt (fun o_5 => ?_) (fun b_6 o_5 => ?_)
              · refine h_astoreN C [(8, .null), (7, .null), (6, .null), (0, .ref (ad G 0)), (1, .int x), (2, .int y), (3, .int d), (4, .int t), (5, .int lo)] dX10_worst_72 (by decide) rfl ?_
                refine h_aloadN C 2 dX10_worst_74 rfl ?_
                refine h_ifnullN C 110 dX10_worst_76 (by decide) ?_
                refine h_throwS C hl hth hno th_X10_IAE (text := "not three contacts that place") (by decide +kernel) dX10_worst_110 dX10_worst_113 dX10_worst_114 dX10_worst_116 dX10_worst_119 (by decide) (by decide) (by decide) (by decide) (fun g hg => ?_) (by decide) (by decide)
                refine Or.inl ⟨rfl, fun a b c q => ?_, g, hg, rfl⟩
                exact absurd (o_1.symm.trans q.2.1) (by intro z; cases z)
              · obtain ⟨t_6, hT_6, ht_6, hc_6, hb_6, ho_6⟩ := pAt_some hP o_5
                refine h_astore C [(8, .ref (ad G b_6)), (7, .null), (6, .null), (0, .ref (ad G 0)), (1, .int x), (2, .int y), (3, .int d), (4, .int t), (5, .int lo)] dX10_worst_72 (by decide) rfl ?_
                refine h_aloadN C 2 dX10_worst_74 rfl ?_
                refine h_ifnullN C 110 dX10_worst_76 (by decide) ?_
                refine h_throwS C hl hth hno th_X10_IAE (text := "not three contacts that place") (by decide +kernel) dX10_worst_110 dX10_worst_113 dX10_worst_114 dX10_worst_116 dX10_worst_119 (by decide) (by decide) (by decide) (by decide) (fun g hg => ?_) (by decide) (by decide)
                refine Or.inl ⟨rfl, fun a b c q => ?_, g, hg, rfl⟩
                exact absurd (o_1.symm.trans q.2.1) (by intro z; cases z)
            · obtain ⟨t_4, hT_4, ht_4, hc_4, hb_4, ho_4⟩ := pAt_some hP o_3
              refine h_astore C [(7, .ref (ad G b_4)), (6, .null), (0, .ref (ad G 0)), (1, .int x), (2, .int y), (3, .int d), (4, .int t), (5, .int lo)] dX10_worst_61 (by decide) rfl ?_
              refine h_aload_n C 2 dX10_worst_63 rfl rfl ?_
              refine h_iload C 6 dX10_worst_64 rfl ?_
              refine h_bipush C 100 dX10_worst_66 (by decide) ?_
              refine h_idiv C dX10_worst_68 (by decide) ?_
              refine h_callV C (m_X10_placerAt hY hP) caX10_205 kX10 (ty_0 hY) ⟨by decide, by decide, by decide, by decide⟩ rfl rfl (Nat.le_of_ble_eq_true rfl) dX10_worst_69 ?_
              rintro v σ' ⟨rfl, h2⟩; rw [h2]; clear h2
              show hW _ _ _ _ _ _ _ _ _ _ _ _ _ 72 [(7, .ref (ad G b_4)), (6, .null), (0, .ref (ad G 0)), (1, .int x), (2, .int y), (3, .int d), (4, .int t), (5, .int lo)] [rf G (pAt σ (t / 100))] σ 0 0
              refine h_topt (fun o_7 => ?_) (fun b_8 o_7 => ?_)
              · refine h_astoreN C [(8, .null), (7, .ref (ad G b_4)), (6, .null), (0, .ref (ad G 0)), (1, .int x), (2, .int y), (3, .int d), (4, .int t), (5, .int lo)] dX10_worst_72 (by decide) rfl ?_
                refine h_aloadN C 2 dX10_worst_74 rfl ?_
                refine h_ifnullN C 110 dX10_worst_76 (by decide) ?_
                refine h_throwS C hl hth hno th_X10_IAE (text := "not three contacts that place") (by decide +kernel) dX10_worst_110 dX10_worst_113 dX10_worst_114 dX10_worst_116 dX10_worst_119 (by decide) (by decide) (by decide) (by decide) (fun g hg => ?_) (by decide) (by decide)
                refine Or.inl ⟨rfl, fun a b c q => ?_, g, hg, rfl⟩
                exact absurd (o_1.symm.trans q.2.1) (by intro z; cases z)
              · obtain ⟨t_8, hT_8, ht_8, hc_8, hb_8, ho_8⟩ := pAt_some hP o_7
                refine h_astore C [(8, .ref (ad G b_8)), (7, .ref (ad G b_4)), (6, .null), (0, .ref (ad G 0)), (1, .int x), (2, .int y), (3, .int d), (4, .int t), (5, .int lo)] dX10_worst_72 (by decide) rfl ?_
                refine h_aloadN C 2 dX10_worst_74 rfl ?_
                refine h_ifnullN C 110 dX10_worst_76 (by decide) ?_
                refine h_throwS C hl hth hno th_X10_IAE (text := "not three contacts that place") (by decide +kernel) dX10_worst_110 dX10_worst_113 dX10_worst_114 dX10_worst_116 dX10_worst_119 (by decide) (by decide) (by decide) (by decide) (fun g hg => ?_) (by decide) (by decide)
                refine Or.inl ⟨rfl, fun a b c q => ?_, g, hg, rfl⟩
                exact absurd (o_1.symm.trans q.2.1) (by intro z; cases z)
          · obtain ⟨t_2, hT_2, ht_2, hc_2, hb_2, ho_2⟩ := pAt_some hP o_1
            refine h_astore C [(6, .ref (ad G b_2)), (0, .ref (ad G 0)), (1, .int x), (2, .int y), (3, .int d), (4, .int t), (5, .int lo)] dX10_worst_47 (by decide) rfl ?_
            refine h_aload_n C 1 dX10_worst_49 rfl rfl ?_
            refine h_iload C 5 dX10_worst_50 rfl ?_
            refine h_bipush C 10 dX10_worst_52 (by decide) ?_
            refine h_idiv C dX10_worst_54 (by decide) ?_
            refine h_bipush C 10 dX10_worst_55 (by decide) ?_
            refine h_irem C dX10_worst_57 (by decide) ?_
            refine h_callV C (m_X10_placerAt hY hP) caX10_205 kX10 (ty_0 hY) ⟨by decide, by decide, by decide, by decide⟩ rfl rfl (Nat.le_of_ble_eq_true rfl) dX10_worst_58 ?_
            rintro v σ' ⟨rfl, h2⟩; rw [h2]; clear h2
            show hW _ _ _ _ _ _ _ _ _ _ _ _ _ 61 [(6, .ref (ad G b_2)), (0, .ref (ad G 0)), (1, .int x), (2, .int y), (3, .int d), (4, .int t), (5, .int lo)] [rf G (pAt σ ((t / 10) - (t / 10) / 10 * 10))] σ 0 0
            refine h_topt (fun o_9 => ?_) (fun b_10 o_9 => ?_)
            · refine h_astoreN C [(7, .null), (6, .ref (ad G b_2)), (0, .ref (ad G 0)), (1, .int x), (2, .int y), (3, .int d), (4, .int t), (5, .int lo)] dX10_worst_61 (by decide) rfl ?_
              refine h_aload_n C 2 dX10_worst_63 rfl rfl ?_
              refine h_iload C 6 dX10_worst_64 rfl ?_
              refine h_bipush C 100 dX10_worst_66 (by decide) ?_
              refine h_idiv C dX10_worst_68 (by decide) ?_
              refine h_callV C (m_X10_placerAt hY hP) caX10_205 kX10 (ty_0 hY) ⟨by decide, by decide, by decide, by decide⟩ rfl rfl (Nat.le_of_ble_eq_true rfl) dX10_worst_69 ?_
              rintro v σ' ⟨rfl, h2⟩; rw [h2]; clear h2
              show hW _ _ _ _ _ _ _ _ _ _ _ _ _ 72 [(7, .null), (6, .ref (ad G b_2)), (0, .ref (ad G 0)), (1, .int x), (2, .int y), (3, .int d), (4, .int t), (5, .int lo)] [rf G (pAt σ (t / 100))] σ 0 0
              refine h_topt (fun o_11 => ?_) (fun b_12 o_11 => ?_)
              · refine h_astoreN C [(8, .null), (7, .null), (6, .ref (ad G b_2)), (0, .ref (ad G 0)), (1, .int x), (2, .int y), (3, .int d), (4, .int t), (5, .int lo)] dX10_worst_72 (by decide) rfl ?_
                refine h_aload C 2 dX10_worst_74 rfl ?_
                refine h_ifnull C dX10_worst_76 ?_
                refine h_aloadN C 1 dX10_worst_79 rfl ?_
                refine h_ifnullN C 110 dX10_worst_81 (by decide) ?_
                refine h_throwS C hl hth hno th_X10_IAE (text := "not three contacts that place") (by decide +kernel) dX10_worst_110 dX10_worst_113 dX10_worst_114 dX10_worst_116 dX10_worst_119 (by decide) (by decide) (by decide) (by decide) (fun g hg => ?_) (by decide) (by decide)
                refine Or.inl ⟨rfl, fun a b c q => ?_, g, hg, rfl⟩
                exact absurd (o_9.symm.trans q.2.2.1) (by intro z; cases z)
              · obtain ⟨t_12, hT_12, ht_12, hc_12, hb_12, ho_12⟩ := pAt_some hP o_11
                refine h_astore C [(8, .ref (ad G b_12)), (7, .null), (6, .ref (ad G b_2)), (0, .ref (ad G 0)), (1, .int x), (2, .int y), (3, .int d), (4, .int t), (5, .int lo)] dX10_worst_72 (by decide) rfl ?_
                refine h_aload C 2 dX10_worst_74 rfl ?_
                refine h_ifnull C dX10_worst_76 ?_
                refine h_aloadN C 1 dX10_worst_79 rfl ?_
                refine h_ifnullN C 110 dX10_worst_81 (by decide) ?_
                refine h_throwS C hl hth hno th_X10_IAE (text := "not three contacts that place") (by decide +kernel) dX10_worst_110 dX10_worst_113 dX10_worst_114 dX10_worst_116 dX10_worst_119 (by decide) (by decide) (by decide) (by decide) (fun g hg => ?_) (by decide) (by decide)
                refine Or.inl ⟨rfl, fun a b c q => ?_, g, hg, rfl⟩
                exact absurd (o_9.symm.trans q.2.2.1) (by intro z; cases z)
            · obtain ⟨t_10, hT_10, ht_10, hc_10, hb_10, ho_10⟩ := pAt_some hP o_9
              refine h_astore C [(7, .ref (ad G b_10)), (6, .ref (ad G b_2)), (0, .ref (ad G 0)), (1, .int x), (2, .int y), (3, .int d), (4, .int t), (5, .int lo)] dX10_worst_61 (by decide) rfl ?_
              refine h_aload_n C 2 dX10_worst_63 rfl rfl ?_
              refine h_iload C 6 dX10_worst_64 rfl ?_
              refine h_bipush C 100 dX10_worst_66 (by decide) ?_
              refine h_idiv C dX10_worst_68 (by decide) ?_
              refine h_callV C (m_X10_placerAt hY hP) caX10_205 kX10 (ty_0 hY) ⟨by decide, by decide, by decide, by decide⟩ rfl rfl (Nat.le_of_ble_eq_true rfl) dX10_worst_69 ?_
              rintro v σ' ⟨rfl, h2⟩; rw [h2]; clear h2
              show hW _ _ _ _ _ _ _ _ _ _ _ _ _ 72 [(7, .ref (ad G b_10)), (6, .ref (ad G b_2)), (0, .ref (ad G 0)), (1, .int x), (2, .int y), (3, .int d), (4, .int t), (5, .int lo)] [rf G (pAt σ (t / 100))] σ 0 0
              refine h_topt (fun o_13 => ?_) (fun b_14 o_13 => ?_)
              · refine h_astoreN C [(8, .null), (7, .ref (ad G b_10)), (6, .ref (ad G b_2)), (0, .ref (ad G 0)), (1, .int x), (2, .int y), (3, .int d), (4, .int t), (5, .int lo)] dX10_worst_72 (by decide) rfl ?_
                refine h_aload C 2 dX10_worst_74 rfl ?_
                refine h_ifnull C dX10_worst_76 ?_
                refine h_aload C 1 dX10_worst_79 rfl ?_
                refine h_ifnull C dX10_worst_81 ?_
                refine h_aloadN C 0 dX10_worst_84 rfl ?_
                refine h_ifnullN C 110 dX10_worst_86 (by decide) ?_
                refine h_throwS C hl hth hno th_X10_IAE (text := "not three contacts that place") (by decide +kernel) dX10_worst_110 dX10_worst_113 dX10_worst_114 dX10_worst_116 dX10_worst_119 (by decide) (by decide) (by decide) (by decide) (fun g hg => ?_) (by decide) (by decide)
                refine Or.inl ⟨rfl, fun a b c q => ?_, g, hg, rfl⟩
                exact absurd (o_13.symm.trans q.2.2.2.1) (by intro z; cases z)
              · obtain ⟨t_14, hT_14, ht_14, hc_14, hb_14, ho_14⟩ := pAt_some hP o_13
                refine h_astore C [(8, .ref (ad G b_14)), (7, .ref (ad G b_10)), (6, .ref (ad G b_2)), (0, .ref (ad G 0)), (1, .int x), (2, .int y), (3, .int d), (4, .int t), (5, .int lo)] dX10_worst_72 (by decide) rfl ?_
                refine h_aload C 2 dX10_worst_74 rfl ?_
                refine h_ifnull C dX10_worst_76 ?_
                refine h_aload C 1 dX10_worst_79 rfl ?_
                refine h_ifnull C dX10_worst_81 ?_
                refine h_aload C 0 dX10_worst_84 rfl ?_
                refine h_ifnull C dX10_worst_86 ?_
                refine h_aload C 2 dX10_worst_89 rfl ?_
                refine h_aload C 1 dX10_worst_91 rfl ?_
                refine h_acmp_eq C (rx := (some b_2)) (ry := (some b_10)) 110 dX10_worst_93 (by decide) (fun c_93 => ?_) (fun c_93 => ?_)
                · refine h_throwS C hl hth hno th_X10_IAE (text := "not three contacts that place") (by decide +kernel) dX10_worst_110 dX10_worst_113 dX10_worst_114 dX10_worst_116 dX10_worst_119 (by decide) (by decide) (by decide) (by decide) (fun g hg => ?_) (by decide) (by decide)
                  refine Or.inl ⟨rfl, fun a b c q => ?_, g, hg, rfl⟩
                  cases o_1.symm.trans q.2.1
                  cases o_9.symm.trans q.2.2.1
                  cases o_13.symm.trans q.2.2.2.1
                  exact q.2.2.2.2.1 (Option.some.inj c_93)
                · refine h_aload C 2 dX10_worst_96 rfl ?_
                  refine h_aload C 0 dX10_worst_98 rfl ?_
                  refine h_acmp_eq C (rx := (some b_2)) (ry := (some b_14)) 110 dX10_worst_100 (by decide) (fun c_100 => ?_) (fun c_100 => ?_)
                  · refine h_throwS C hl hth hno th_X10_IAE (text := "not three contacts that place") (by decide +kernel) dX10_worst_110 dX10_worst_113 dX10_worst_114 dX10_worst_116 dX10_worst_119 (by decide) (by decide) (by decide) (by decide) (fun g hg => ?_) (by decide) (by decide)
                    refine Or.inl ⟨rfl, fun a b c q => ?_, g, hg, rfl⟩
                    cases o_1.symm.trans q.2.1
                    cases o_9.symm.trans q.2.2.1
                    cases o_13.symm.trans q.2.2.2.1
                    exact q.2.2.2.2.2.1 (Option.some.inj c_100)
                  · refine h_aload C 1 dX10_worst_103 rfl ?_
                    refine h_aload C 0 dX10_worst_105 rfl ?_
                    refine h_acmp_ne C (rx := (some b_10)) (ry := (some b_14)) 120 dX10_worst_107 (by decide) (fun c_107 => ?_) (fun c_107 => ?_)
                    · refine h_aload_n C 3 dX10_worst_120 rfl rfl ?_
                      refine gfX10_47 C (ty_0 hY) dX10_worst_121 ?_
                      refine h_tref (b := 21) (rf_0_7 hY) ?_
                      refine h_iload_n C 4 dX10_worst_124 rfl rfl ?_
                      refine h_iload_n C 5 dX10_worst_125 rfl rfl ?_
                      refine h_iload_n C 6 dX10_worst_126 rfl rfl ?_
                      refine h_callV C (m_X4_aim hY (if_one c_12)) caX10_210 kX4 (ty_21 hY) ⟨by decide, by decide, by decide, by decide⟩ rfl rfl (Nat.le_of_ble_eq_true rfl) dX10_worst_127 ?_
                      rintro v σ' ⟨rfl, h2⟩; rw [h2]; clear h2
                      show hW _ _ _ _ _ _ _ _ _ _ _ _ _ 130 [(8, .ref (ad G b_14)), (7, .ref (ad G b_10)), (6, .ref (ad G b_2)), (0, .ref (ad G 0)), (1, .int x), (2, .int y), (3, .int d), (4, .int t), (5, .int lo)] [] (aimF σ x y d) 0 0
                      have hY : LY (aimF σ x y d) := aim_fr.LY hY
                      refine h_aload_n C 3 dX10_worst_130 rfl rfl ?_
                      refine gfX10_47 C (ty_0 hY) dX10_worst_131 ?_
                      refine h_tref (b := 21) (rf_0_7 hY) ?_
                      refine h_aload C 2 dX10_worst_134 rfl ?_
                      refine h_aload C 1 dX10_worst_136 rfl ?_
                      refine h_aload C 0 dX10_worst_138 rfl ?_
                      refine h_callV C (m_X4_isWeighed hY (show gT (aimF σ x y d) b_2 = (t_2, 0) from hT_2) ht_2 (show gT (aimF σ x y d) b_10 = (t_10, 0) from hT_10) ht_10 (show gT (aimF σ x y d) b_14 = (t_14, 0) from hT_14) ht_14) caX10_214 kX4 (ty_21 hY) ⟨by decide, by decide, by decide, by decide⟩ rfl rfl (Nat.le_of_ble_eq_true rfl) dX10_worst_140 ?_
                      rintro v σ' ⟨⟨rb, rfl, hb⟩, h2⟩; rw [h2]; clear h2
                      have hwf : weighF (aimF σ x y d) b_2 b_10 b_14 t_2 t_10 t_14 = worF σ x y d b_2 b_10 b_14 := by unfold worF; rw [hT_2, hT_10, hT_14]
                      rw [hwf] at hb
                      rw [hwf]
                      show hW _ _ _ _ _ _ _ _ _ _ _ _ _ 143 [(8, .ref (ad G b_14)), (7, .ref (ad G b_10)), (6, .ref (ad G b_2)), (0, .ref (ad G 0)), (1, .int x), (2, .int y), (3, .int d), (4, .int t), (5, .int lo)] [.int rb] (worF σ x y d b_2 b_10 b_14) 0 0
                      have hY : LY (worF σ x y d b_2 b_10 b_14) := by rw [← hwf]; exact weigh_fr.LY hY
                      refine h_if_ne C 156 dX10_worst_143 (by decide) (fun c_143 => ?_) (fun c_143 => ?_)
                      · refine h_aload_n C 3 dX10_worst_156 rfl rfl ?_
                        refine gfX10_47 C (ty_0 hY) dX10_worst_157 ?_
                        refine h_tref (b := 21) (rf_0_7 hY) ?_
                        refine gfX10_220 C (ty_21 hY) dX10_worst_160 ?_
                        refine h_aload_n C 3 dX10_worst_163 rfl rfl ?_
                        refine gfX10_47 C (ty_0 hY) dX10_worst_164 ?_
                        refine h_tref (b := 21) (rf_0_7 hY) ?_
                        refine gfX10_223 C (ty_21 hY) dX10_worst_167 ?_
                        refine h_callS C m_X10_commonDivisor caX10_226 ⟨by decide, by decide, by decide, by decide⟩ rfl rfl (Nat.le_of_ble_eq_true rfl) dX10_worst_170 ?_
                        rintro v σ' ⟨rfl, h2⟩; rw [h2]; clear h2
                        show hW _ _ _ _ _ _ _ _ _ _ _ _ _ 173 [(8, .ref (ad G b_14)), (7, .ref (ad G b_10)), (6, .ref (ad G b_2)), (0, .ref (ad G 0)), (1, .int x), (2, .int y), (3, .int d), (4, .int t), (5, .int lo)] [.long (divW (worF σ x y d b_2 b_10 b_14))] (worF σ x y d b_2 b_10 b_14) 0 0
                        refine h_lstore C [(9, .long (divW (worF σ x y d b_2 b_10 b_14))), (8, .ref (ad G b_14)), (7, .ref (ad G b_10)), (6, .ref (ad G b_2)), (0, .ref (ad G 0)), (1, .int x), (2, .int y), (3, .int d), (4, .int t), (5, .int lo)] dX10_worst_173 (by decide) rfl ?_
                        refine h_lload C 0 dX10_worst_175 rfl ?_
                        refine h_lconst C 0 dX10_worst_177 rfl ?_
                        refine h_lcmp C dX10_worst_178 ?_
                        refine h_if_ne C 184 dX10_worst_179 (by decide) (fun c_179 => ?_) (fun c_179 => ?_)
                        · have hne : ¬ divW (worF σ x y d b_2 b_10 b_14) = 0 := fun z => c_179 (by rw [z]; decide)
                          refine h_iload C 9 dX10_worst_184 rfl ?_
                          refine h_if_eq C 199 dX10_worst_186 (by decide) (fun c_186 => ?_) (fun c_186 => ?_)
                          · refine h_aload_n C 4 dX10_worst_199 rfl rfl ?_
                            refine gfX10_47 C (ty_0 hY) dX10_worst_200 ?_
                            refine h_tref (b := 21) (rf_0_7 hY) ?_
                            refine gfX10_220 C (ty_21 hY) dX10_worst_203 ?_
                            refine h_lload C 0 dX10_worst_206 rfl ?_
                            refine h_ldiv C dX10_worst_208 hne ?_
                            refine h_vxret ?_
                            refine h_lret C rfl (Nat.zero_le _) (Nat.zero_le _) dX10_worst_209 ?_
                            have hok := And.intro (And.intro (if_one c_5) (And.intro (if_one c_12) (And.intro (Int32.not_lt.mp c_17) c_25))) (And.intro o_1 (And.intro o_9 (And.intro o_13 (And.intro (fun z => c_93 (congrArg some z)) (And.intro (fun z => c_100 (congrArg some z)) (fun z => c_107 (congrArg some z)))))))
                            refine ⟨_, rfl, _, _, _, hok, rfl, isB_1 hb c_143, ?_⟩
                            rw [if_neg hne, if_pos c_186]
                          · refine h_aload_n C 4 dX10_worst_189 rfl rfl ?_
                            refine gfX10_47 C (ty_0 hY) dX10_worst_190 ?_
                            refine h_tref (b := 21) (rf_0_7 hY) ?_
                            refine gfX10_223 C (ty_21 hY) dX10_worst_193 ?_
                            refine h_goto C 206 dX10_worst_196 (by decide) ?_
                            refine h_lload C 0 dX10_worst_206 rfl ?_
                            refine h_ldiv C dX10_worst_208 hne ?_
                            refine h_vxret ?_
                            refine h_lret C rfl (Nat.zero_le _) (Nat.zero_le _) dX10_worst_209 ?_
                            have hok := And.intro (And.intro (if_one c_5) (And.intro (if_one c_12) (And.intro (Int32.not_lt.mp c_17) c_25))) (And.intro o_1 (And.intro o_9 (And.intro o_13 (And.intro (fun z => c_93 (congrArg some z)) (And.intro (fun z => c_100 (congrArg some z)) (fun z => c_107 (congrArg some z)))))))
                            refine ⟨_, rfl, _, _, _, hok, rfl, isB_1 hb c_143, ?_⟩
                            rw [if_neg hne, if_neg c_186]
                        · refine h_lconst C 0 dX10_worst_182 rfl ?_
                          refine h_vxret ?_
                          refine h_lret C rfl (Nat.zero_le _) (Nat.zero_le _) dX10_worst_183 ?_
                          have hok := And.intro (And.intro (if_one c_5) (And.intro (if_one c_12) (And.intro (Int32.not_lt.mp c_17) c_25))) (And.intro o_1 (And.intro o_9 (And.intro o_13 (And.intro (fun z => c_93 (congrArg some z)) (And.intro (fun z => c_100 (congrArg some z)) (fun z => c_107 (congrArg some z)))))))
                          refine ⟨_, rfl, _, _, _, hok, rfl, isB_1 hb c_143, ?_⟩
                          rw [if_pos (lg_0 c_179)]
                      · refine h_throwS C hl hth hno th_X10_ISE (text := "the rank isn't 3") (by decide +kernel) dX10_worst_146 dX10_worst_149 dX10_worst_150 dX10_worst_152 dX10_worst_155 (by decide) (by decide) (by decide) (by decide) (fun g hg => ?_) (by decide) (by decide)
                        have hok := And.intro (And.intro (if_one c_5) (And.intro (if_one c_12) (And.intro (Int32.not_lt.mp c_17) c_25))) (And.intro o_1 (And.intro o_9 (And.intro o_13 (And.intro (fun z => c_93 (congrArg some z)) (And.intro (fun z => c_100 (congrArg some z)) (fun z => c_107 (congrArg some z)))))))
                        refine Or.inr ⟨rfl, _, _, _, hok, ?_, g, hg, rfl⟩
                        rw [← hwf]
                        exact Decidable.not_not.mp (isB_0 hb c_143)
                    · refine h_throwS C hl hth hno th_X10_IAE (text := "not three contacts that place") (by decide +kernel) dX10_worst_110 dX10_worst_113 dX10_worst_114 dX10_worst_116 dX10_worst_119 (by decide) (by decide) (by decide) (by decide) (fun g hg => ?_) (by decide) (by decide)
                      refine Or.inl ⟨rfl, fun a b c q => ?_, g, hg, rfl⟩
                      cases o_1.symm.trans q.2.1
                      cases o_9.symm.trans q.2.2.1
                      cases o_13.symm.trans q.2.2.2.1
                      exact q.2.2.2.2.2.2 (Option.some.inj c_107)
        · refine h_throwS C hl hth hno th_X10_IAE (text := "no such feature or contacts") (by decide +kernel) dX10_worst_28 dX10_worst_31 dX10_worst_32 dX10_worst_34 dX10_worst_37 (by decide) (by decide) (by decide) (by decide) (fun g hg => ?_) (by decide) (by decide)
          refine Or.inl ⟨rfl, fun a b c q => ?_, g, hg, rfl⟩
          exact absurd q.1.2.2.2 c_25
set_option maxRecDepth 100000 in
set_option maxHeartbeats 4000000 in
theorem m_L_wrench {G : ha_G} {l : Launch} {σ : ha_St} {i pu kk : Int32} (hl : l.stackTraces = false) (hY : LY σ) (hP : PN σ) (hk : ∀ x1 σ1, wrenQ σ i pu kk x1 σ1 → gT σ1 = gT σ) : hMW G l yL_wrench cL_wrench 6 (some .int) [(0, 11, 14, 13)] { frames := 7, cells := 1, slots := 6, locals := 114 } [.ref (ad G 0), .int i, .int pu, .int kk, .ref (ad G 73)] σ (fun v σ' => ∃ r, v = some (.int r) ∧ ((r = 0 ∧ ∃ x1 σ1, wrenQ σ i pu kk x1 σ1 ∧ σ' = sL σ1 73 0 x1) ∨ (r = 1 ∧ wrenX σ i pu kk IAE σ') ∨ (r = 2 ∧ wrenX σ i pu kk ISE σ'))) := by
  refine hMW_of [(0, .ref (ad G 0)), (1, .int i), (2, .int pu), (3, .int kk), (4, .ref (ad G 73))] (by decide +kernel) (Nat.le_of_ble_eq_true rfl) rfl ?_
  intro p e s m args below meth c0 C hth htab
  refine h_aload C 4 dL_wrench_0 rfl ?_
  refine h_iconst C 0 dL_wrench_2 (by decide) ?_
  refine h_aload_n C 0 dL_wrench_3 rfl rfl ?_
  refine h_iload_n C 1 dL_wrench_4 rfl rfl ?_
  refine h_iload_n C 2 dL_wrench_5 rfl rfl ?_
  refine h_iload_n C 3 dL_wrench_6 rfl rfl ?_
  refine h_callVX C hth (m_X10_wrench hl hY hP) caL_7 kX10 (ty_0 hY) ⟨by decide, by decide, by decide, by decide⟩ rfl rfl (Nat.le_of_ble_eq_true rfl) dL_wrench_7 (fun E σx q hx => ?_) ?_
  · have hE := hx.1
    subst hE
    refine h_catch C [] ⟨0, 11, 14, 13⟩ [] htab (fun z hz => nomatch hz) (by decide) (by decide) ck_L_13 ct_IAE ?_
    show hW _ _ _ _ _ _ _ _ _ _ _ _ _ 14 [(0, .ref (ad G 0)), (1, .int i), (2, .int pu), (3, .int kk), (4, .ref (ad G 73))] [.ref q] σx 1 6
    refine h_astore C [(5, .ref q), (0, .ref (ad G 0)), (1, .int i), (2, .int pu), (3, .int kk), (4, .ref (ad G 73))] dL_wrench_14 (by decide) rfl ?_
    refine h_iconst C 1 dL_wrench_16 (by decide) ?_
    refine h_iret C rfl (by decide) (by decide) dL_wrench_17 ?_
    exact ⟨_, rfl, Or.inr (Or.inl ⟨rfl, hx⟩)⟩
  rintro v σ1 ⟨x1, rfl, hq⟩
  show hW _ _ _ _ _ _ _ _ _ _ _ _ _ 10 [(0, .ref (ad G 0)), (1, .int i), (2, .int pu), (3, .int kk), (4, .ref (ad G 73))] [.long x1, .int 0, .ref (ad G 73)] σ1 1 6
  refine h_last C _ (show gT σ1 73 = (21, 1) from (congrFun (hk _ _ hq) 73).trans (ty_73 hY)) (vp32 (N := 1) (by decide) (by decide) (by decide)) dL_wrench_10 rfl ?_
  refine h_goto C 18 dL_wrench_11 (by decide) ?_
  refine h_iconst C 0 dL_wrench_18 (by decide) ?_
  refine h_iret C rfl (by decide) (by decide) dL_wrench_19 ?_
  exact ⟨_, rfl, Or.inl ⟨rfl, x1, σ1, hq, rfl⟩⟩
set_option maxRecDepth 100000 in
set_option maxHeartbeats 4000000 in
theorem m_L_hidden {G : ha_G} {l : Launch} {σ : ha_St} {w : Int32} (hl : l.stackTraces = false) (hY : LY σ) (hP : PN σ) (hk : ∀ x1 σ1, hidQ σ w x1 σ1 → gT σ1 = gT σ) : hMW G l yL_hidden cL_hidden 4 (some .int) [(0, 8, 11, 13), (0, 8, 14, 19)] { frames := 7, cells := 1, slots := 6, locals := 128 } [.ref (ad G 0), .int w, .ref (ad G 73)] σ (fun v σ' => ∃ r, v = some (.int r) ∧ ((r = 0 ∧ ∃ x1 σ1, hidQ σ w x1 σ1 ∧ σ' = sL σ1 73 0 x1) ∨ (r = 1 ∧ hidX σ w IAE σ') ∨ (r = 2 ∧ hidX σ w ISE σ'))) := by
  refine hMW_of [(0, .ref (ad G 0)), (1, .int w), (2, .ref (ad G 73))] (by decide +kernel) (Nat.le_of_ble_eq_true rfl) rfl ?_
  intro p e s m args below meth c0 C hth htab
  refine h_aload_n C 2 dL_hidden_0 rfl rfl ?_
  refine h_iconst C 0 dL_hidden_1 (by decide) ?_
  refine h_aload_n C 0 dL_hidden_2 rfl rfl ?_
  refine h_iload_n C 1 dL_hidden_3 rfl rfl ?_
  refine h_callVX C hth (m_X10_hidden hl hY hP) caL_15 kX10 (ty_0 hY) ⟨by decide, by decide, by decide, by decide⟩ rfl rfl (Nat.le_of_ble_eq_true rfl) dL_hidden_4 (fun E σx q hx => ?_) ?_
  · rcases hx with ⟨rfl, hx⟩ | ⟨rfl, hx⟩
    · refine h_catch C [] ⟨0, 8, 11, 13⟩ [⟨0, 8, 14, 19⟩] htab (fun z hz => nomatch hz) (by decide) (by decide) ck_L_13 ct_IAE ?_
      show hW _ _ _ _ _ _ _ _ _ _ _ _ _ 11 [(0, .ref (ad G 0)), (1, .int w), (2, .ref (ad G 73))] [.ref q] σx 1 6
      refine h_astore_n C [(3, .ref q), (0, .ref (ad G 0)), (1, .int w), (2, .ref (ad G 73))] dL_hidden_11 rfl (by decide) rfl ?_
      refine h_iconst C 1 dL_hidden_12 (by decide) ?_
      refine h_iret C rfl (by decide) (by decide) dL_hidden_13 ?_
      exact ⟨_, rfl, Or.inr (Or.inl ⟨rfl, Or.inl ⟨rfl, hx⟩⟩)⟩
    · refine h_catch C [⟨0, 8, 11, 13⟩] ⟨0, 8, 14, 19⟩ [] htab (fun z hz => by rw [List.mem_singleton.mp hz]; exact Or.inr ⟨by decide, IAE, ck_L_13, hth.2.2.2.2⟩) (by decide) (by decide) ck_L_19 ct_ISE ?_
      show hW _ _ _ _ _ _ _ _ _ _ _ _ _ 14 [(0, .ref (ad G 0)), (1, .int w), (2, .ref (ad G 73))] [.ref q] σx 1 6
      refine h_astore_n C [(3, .ref q), (0, .ref (ad G 0)), (1, .int w), (2, .ref (ad G 73))] dL_hidden_14 rfl (by decide) rfl ?_
      refine h_iconst C 2 dL_hidden_15 (by decide) ?_
      refine h_iret C rfl (by decide) (by decide) dL_hidden_16 ?_
      exact ⟨_, rfl, Or.inr (Or.inr ⟨rfl, Or.inr ⟨rfl, hx⟩⟩)⟩
  rintro v σ1 ⟨x1, rfl, hq⟩
  show hW _ _ _ _ _ _ _ _ _ _ _ _ _ 7 [(0, .ref (ad G 0)), (1, .int w), (2, .ref (ad G 73))] [.long x1, .int 0, .ref (ad G 73)] σ1 1 6
  refine h_last C _ (show gT σ1 73 = (21, 1) from (congrFun (hk _ _ hq) 73).trans (ty_73 hY)) (vp32 (N := 1) (by decide) (by decide) (by decide)) dL_hidden_7 rfl ?_
  refine h_goto C 17 dL_hidden_8 (by decide) ?_
  refine h_iconst C 0 dL_hidden_17 (by decide) ?_
  refine h_iret C rfl (by decide) (by decide) dL_hidden_18 ?_
  exact ⟨_, rfl, Or.inl ⟨rfl, x1, σ1, hq, rfl⟩⟩
set_option maxRecDepth 100000 in
set_option maxHeartbeats 4000000 in
theorem m_L_worst {G : ha_G} {l : Launch} {σ : ha_St} {x y d t lo : Int32} (hl : l.stackTraces = false) (hY : LY σ) (hP : PN σ) (hk : ∀ x1 σ1, worQ σ x y d t lo x1 σ1 → gT σ1 = gT σ) : hMW G l yL_worst cL_worst 8 (some .int) [(0, 15, 18, 13), (0, 15, 22, 19)] { frames := 7, cells := 1, slots := 6, locals := 137 } [.ref (ad G 0), .int x, .int y, .int d, .int t, .int lo, .ref (ad G 73)] σ (fun v σ' => ∃ r, v = some (.int r) ∧ ((r = 0 ∧ ∃ x1 σ1, worQ σ x y d t lo x1 σ1 ∧ σ' = sL σ1 73 0 x1) ∨ (r = 1 ∧ worX σ x y d t IAE σ') ∨ (r = 2 ∧ worX σ x y d t ISE σ'))) := by
  refine hMW_of [(0, .ref (ad G 0)), (1, .int x), (2, .int y), (3, .int d), (4, .int t), (5, .int lo), (6, .ref (ad G 73))] (by decide +kernel) (Nat.le_of_ble_eq_true rfl) rfl ?_
  intro p e s m args below meth c0 C hth htab
  refine h_aload C 6 dL_worst_0 rfl ?_
  refine h_iconst C 0 dL_worst_2 (by decide) ?_
  refine h_aload_n C 0 dL_worst_3 rfl rfl ?_
  refine h_iload_n C 1 dL_worst_4 rfl rfl ?_
  refine h_iload_n C 2 dL_worst_5 rfl rfl ?_
  refine h_iload_n C 3 dL_worst_6 rfl rfl ?_
  refine h_iload C 4 dL_worst_7 rfl ?_
  refine h_iload C 5 dL_worst_9 rfl ?_
  refine h_callVX C hth (m_X10_worst hl hY hP) caL_21 kX10 (ty_0 hY) ⟨by decide, by decide, by decide, by decide⟩ rfl rfl (Nat.le_of_ble_eq_true rfl) dL_worst_11 (fun E σx q hx => ?_) ?_
  · rcases hx with ⟨rfl, hx⟩ | ⟨rfl, hx⟩
    · refine h_catch C [] ⟨0, 15, 18, 13⟩ [⟨0, 15, 22, 19⟩] htab (fun z hz => nomatch hz) (by decide) (by decide) ck_L_13 ct_IAE ?_
      show hW _ _ _ _ _ _ _ _ _ _ _ _ _ 18 [(0, .ref (ad G 0)), (1, .int x), (2, .int y), (3, .int d), (4, .int t), (5, .int lo), (6, .ref (ad G 73))] [.ref q] σx 1 6
      refine h_astore C [(7, .ref q), (0, .ref (ad G 0)), (1, .int x), (2, .int y), (3, .int d), (4, .int t), (5, .int lo), (6, .ref (ad G 73))] dL_worst_18 (by decide) rfl ?_
      refine h_iconst C 1 dL_worst_20 (by decide) ?_
      refine h_iret C rfl (by decide) (by decide) dL_worst_21 ?_
      exact ⟨_, rfl, Or.inr (Or.inl ⟨rfl, Or.inl ⟨rfl, hx⟩⟩)⟩
    · refine h_catch C [⟨0, 15, 18, 13⟩] ⟨0, 15, 22, 19⟩ [] htab (fun z hz => by rw [List.mem_singleton.mp hz]; exact Or.inr ⟨by decide, IAE, ck_L_13, hth.2.2.2.2⟩) (by decide) (by decide) ck_L_19 ct_ISE ?_
      show hW _ _ _ _ _ _ _ _ _ _ _ _ _ 22 [(0, .ref (ad G 0)), (1, .int x), (2, .int y), (3, .int d), (4, .int t), (5, .int lo), (6, .ref (ad G 73))] [.ref q] σx 1 6
      refine h_astore C [(7, .ref q), (0, .ref (ad G 0)), (1, .int x), (2, .int y), (3, .int d), (4, .int t), (5, .int lo), (6, .ref (ad G 73))] dL_worst_22 (by decide) rfl ?_
      refine h_iconst C 2 dL_worst_24 (by decide) ?_
      refine h_iret C rfl (by decide) (by decide) dL_worst_25 ?_
      exact ⟨_, rfl, Or.inr (Or.inr ⟨rfl, Or.inr ⟨rfl, hx⟩⟩)⟩
  rintro v σ1 ⟨x1, rfl, hq⟩
  show hW _ _ _ _ _ _ _ _ _ _ _ _ _ 14 [(0, .ref (ad G 0)), (1, .int x), (2, .int y), (3, .int d), (4, .int t), (5, .int lo), (6, .ref (ad G 73))] [.long x1, .int 0, .ref (ad G 73)] σ1 1 6
  refine h_last C _ (show gT σ1 73 = (21, 1) from (congrFun (hk _ _ hq) 73).trans (ty_73 hY)) (vp32 (N := 1) (by decide) (by decide) (by decide)) dL_worst_14 rfl ?_
  refine h_goto C 26 dL_worst_15 (by decide) ?_
  refine h_iconst C 0 dL_worst_26 (by decide) ?_
  refine h_iret C rfl (by decide) (by decide) dL_worst_27 ?_
  exact ⟨_, rfl, Or.inl ⟨rfl, x1, σ1, hq, rfl⟩⟩
set_option maxRecDepth 100000 in
set_option maxHeartbeats 4000000 in
theorem m_L_element {G : ha_G} {l : Launch} {σ : ha_St} {d i : Int32} (hl : l.stackTraces = false) (hY : LY σ) (hP : PN σ) (hSH : SH σ) (hk : ∀ x1 σ1, eleQ σ d i x1 σ1 → gT σ1 = gT σ) : hMW G l yL_element cL_element 5 (some .int) [(0, 9, 12, 13), (0, 9, 16, 19)] { frames := 7, cells := 1, slots := 6, locals := 113 } [.ref (ad G 0), .int d, .int i, .ref (ad G 73)] σ (fun v σ' => ∃ r, v = some (.int r) ∧ ((r = 0 ∧ ∃ x1 σ1, eleQ σ d i x1 σ1 ∧ σ' = sL σ1 73 0 x1) ∨ (r = 1 ∧ eleX σ d i IAE σ') ∨ (r = 2 ∧ eleX σ d i ISE σ'))) := by
  refine hMW_of [(0, .ref (ad G 0)), (1, .int d), (2, .int i), (3, .ref (ad G 73))] (by decide +kernel) (Nat.le_of_ble_eq_true rfl) rfl ?_
  intro p e s m args below meth c0 C hth htab
  refine h_aload_n C 3 dL_element_0 rfl rfl ?_
  refine h_iconst C 0 dL_element_1 (by decide) ?_
  refine h_aload_n C 0 dL_element_2 rfl rfl ?_
  refine h_iload_n C 1 dL_element_3 rfl rfl ?_
  refine h_iload_n C 2 dL_element_4 rfl rfl ?_
  refine h_callVX C hth (m_X10_element hl hY hP hSH) caL_25 kX10 (ty_0 hY) ⟨by decide, by decide, by decide, by decide⟩ rfl rfl (Nat.le_of_ble_eq_true rfl) dL_element_5 (fun E σx q hx => ?_) ?_
  · rcases hx with ⟨rfl, hx⟩ | ⟨rfl, hx⟩
    · refine h_catch C [] ⟨0, 9, 12, 13⟩ [⟨0, 9, 16, 19⟩] htab (fun z hz => nomatch hz) (by decide) (by decide) ck_L_13 ct_IAE ?_
      show hW _ _ _ _ _ _ _ _ _ _ _ _ _ 12 [(0, .ref (ad G 0)), (1, .int d), (2, .int i), (3, .ref (ad G 73))] [.ref q] σx 1 6
      refine h_astore C [(4, .ref q), (0, .ref (ad G 0)), (1, .int d), (2, .int i), (3, .ref (ad G 73))] dL_element_12 (by decide) rfl ?_
      refine h_iconst C 1 dL_element_14 (by decide) ?_
      refine h_iret C rfl (by decide) (by decide) dL_element_15 ?_
      exact ⟨_, rfl, Or.inr (Or.inl ⟨rfl, Or.inl ⟨rfl, hx⟩⟩)⟩
    · refine h_catch C [⟨0, 9, 12, 13⟩] ⟨0, 9, 16, 19⟩ [] htab (fun z hz => by rw [List.mem_singleton.mp hz]; exact Or.inr ⟨by decide, IAE, ck_L_13, hth.2.2.2.2⟩) (by decide) (by decide) ck_L_19 ct_ISE ?_
      show hW _ _ _ _ _ _ _ _ _ _ _ _ _ 16 [(0, .ref (ad G 0)), (1, .int d), (2, .int i), (3, .ref (ad G 73))] [.ref q] σx 1 6
      refine h_astore C [(4, .ref q), (0, .ref (ad G 0)), (1, .int d), (2, .int i), (3, .ref (ad G 73))] dL_element_16 (by decide) rfl ?_
      refine h_iconst C 2 dL_element_18 (by decide) ?_
      refine h_iret C rfl (by decide) (by decide) dL_element_19 ?_
      exact ⟨_, rfl, Or.inr (Or.inr ⟨rfl, Or.inr ⟨rfl, hx⟩⟩)⟩
  rintro v σ1 ⟨x1, rfl, hq⟩
  show hW _ _ _ _ _ _ _ _ _ _ _ _ _ 8 [(0, .ref (ad G 0)), (1, .int d), (2, .int i), (3, .ref (ad G 73))] [.long x1, .int 0, .ref (ad G 73)] σ1 1 6
  refine h_last C _ (show gT σ1 73 = (21, 1) from (congrFun (hk _ _ hq) 73).trans (ty_73 hY)) (vp32 (N := 1) (by decide) (by decide) (by decide)) dL_element_8 rfl ?_
  refine h_goto C 20 dL_element_9 (by decide) ?_
  refine h_iconst C 0 dL_element_20 (by decide) ?_
  refine h_iret C rfl (by decide) (by decide) dL_element_21 ?_
  exact ⟨_, rfl, Or.inl ⟨rfl, x1, σ1, hq, rfl⟩⟩
