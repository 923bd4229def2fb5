/-! ===== contacts: kinds 1 Ball, 2 Clamp, 6 Pad, 8 Pin ===== -/
def pT (t : Nat) : Prop := t = 1 ∨ t = 2 ∨ t = 6 ∨ t = 8
def kindOf (t : Nat) : Int32 := if t = 6 then 1 else if t = 2 then 2 else if t = 1 then 3 else 0
def placesOf (t : Nat) : Int32 := if t = 2 then 0 else 1
def countOf (t : Nat) : Int32 := if t = 6 then 2 else if t = 1 then 3 else 1
def leansOf (t : Nat) (push : Int32) : Int32 := if t = 6 then 1 - 2 * push else if t = 1 then 1 - push else 0
def gripOf (σ : ha_St) (a t : Nat) : Int32 := if t = 6 ∨ t = 1 then gI σ a 8 else 0
def weighsOf (σ : ha_St) (a t : Nat) : Int32 := if t = 6 then 10 + gI σ a 3 + gI σ a 8 + 100 else if t = 1 then 2 * (10 + gI σ a 3 + gI σ a 8 + 100) else if t = 2 then 10 + gI σ a 3 + 1000 else 10 + gI σ a 3
def pxOf (σ : ha_St) (a t : Nat) (push : Int32) : Int32 := if push < 0 then gI σ a 1 else 10 * gI σ a 1 - leansOf t push * gripOf σ a t * gI σ a 2
def pyOf (σ : ha_St) (a t : Nat) (push : Int32) : Int32 := if push < 0 then gI σ a 2 else 10 * gI σ a 2 + leansOf t push * gripOf σ a t * gI σ a 1
def tuOf (σ : ha_St) (a t : Nat) (push : Int32) : Int32 := gI σ a 5 * pyOf σ a t push - gI σ a 6 * pxOf σ a t push
def pinIni (σ : ha_St) (a : Nat) (d x y b : Int32) : ha_St := sI (sI (sI (sI (sI (sI (sI (sI σ a 4 0) a 7 0) a 0 d) a 1 (dirX d.toNatClampNeg)) a 2 (dirY d.toNatClampNeg)) a 5 x) a 6 y) a 3 b
theorem vp8 {d : Int32} (h : 0 ≤ d ∧ d < 8) : vp_in d 8 := vp32 h.1 h.2 (by decide)
set_option maxRecDepth 100000 in
set_option maxHeartbeats 4000000 in
theorem m_X0_kind_1 {G : ha_G} {l : Launch} {σ : ha_St} {a ln : Nat} (hT : gT σ a = (1, ln)) : hM G l yX0_kind cX0_kind 1 (some .int) { frames := 0, cells := 0, slots := 0, locals := 0 } [.ref (ad G a)] σ (fun v σ' => v = some (.int (kindOf 1)) ∧ σ' = σ) := by
  refine hM_ofF [(0, .ref (ad G a))] (by decide +kernel) (Nat.le_of_ble_eq_true rfl) rfl ?_
  intro p e s m args below meth c0 C hin
  refine h_iconst C 3 dX0_kind_0 (by decide) ?_
  refine h_iret C rfl (Nat.zero_le _) (Nat.zero_le _) dX0_kind_1 ?_
  exact ⟨rfl, rfl⟩
set_option maxRecDepth 100000 in
set_option maxHeartbeats 4000000 in
theorem m_X7_places_1 {G : ha_G} {l : Launch} {σ : ha_St} {a ln : Nat} (hT : gT σ a = (1, ln)) : hM G l yX7_places cX7_places 1 (some .boolean) { frames := 0, cells := 0, slots := 0, locals := 0 } [.ref (ad G a)] σ (fun v σ' => v = some (.int (placesOf 1)) ∧ σ' = σ) := by
  refine hM_ofF [(0, .ref (ad G a))] (by decide +kernel) (Nat.le_of_ble_eq_true rfl) rfl ?_
  intro p e s m args below meth c0 C hin
  refine h_iconst C 1 dX7_places_0 (by decide) ?_
  refine h_zret C rfl (by decide) (Nat.zero_le _) (Nat.zero_le _) dX7_places_1 ?_
  exact ⟨rfl, rfl⟩
set_option maxRecDepth 100000 in
set_option maxHeartbeats 4000000 in
theorem m_X0_pushCount_1 {G : ha_G} {l : Launch} {σ : ha_St} {a ln : Nat} (hT : gT σ a = (1, ln)) : hM G l yX0_pushCount cX0_pushCount 1 (some .int) { frames := 0, cells := 0, slots := 0, locals := 0 } [.ref (ad G a)] σ (fun v σ' => v = some (.int (countOf 1)) ∧ σ' = σ) := by
  refine hM_ofF [(0, .ref (ad G a))] (by decide +kernel) (Nat.le_of_ble_eq_true rfl) rfl ?_
  intro p e s m args below meth c0 C hin
  refine h_iconst C 3 dX0_pushCount_0 (by decide) ?_
  refine h_iret C rfl (Nat.zero_le _) (Nat.zero_le _) dX0_pushCount_1 ?_
  exact ⟨rfl, rfl⟩
set_option maxRecDepth 100000 in
set_option maxHeartbeats 4000000 in
theorem m_X5_gripped_1 {G : ha_G} {l : Launch} {σ : ha_St} {a ln : Nat} (hT : gT σ a = (1, ln)) : hM G l yX5_gripped cX5_gripped 1 (some .int) { frames := 0, cells := 0, slots := 0, locals := 0 } [.ref (ad G a)] σ (fun v σ' => v = some (.int (gripOf σ a 1)) ∧ σ' = σ) := by
  refine hM_ofF [(0, .ref (ad G a))] (by decide +kernel) (Nat.le_of_ble_eq_true rfl) rfl ?_
  intro p e s m args below meth c0 C hin
  refine h_aload_n C 0 dX5_gripped_0 rfl rfl ?_
  refine gfX5_9_0 C hT dX5_gripped_1 ?_
  refine h_iret C rfl (Nat.zero_le _) (Nat.zero_le _) dX5_gripped_4 ?_
  exact ⟨rfl, rfl⟩
set_option maxRecDepth 100000 in
set_option maxHeartbeats 4000000 in
theorem m_X0_weighs_1 {G : ha_G} {l : Launch} {σ : ha_St} {a ln : Nat} (hT : gT σ a = (1, ln)) : hM G l yX0_weighs cX0_weighs 1 (some .int) { frames := 0, cells := 0, slots := 0, locals := 0 } [.ref (ad G a)] σ (fun v σ' => v = some (.int (weighsOf σ a 1)) ∧ σ' = σ) := by
  refine hM_ofF [(0, .ref (ad G a))] (by decide +kernel) (Nat.le_of_ble_eq_true rfl) rfl ?_
  intro p e s m args below meth c0 C hin
  refine h_iconst C 2 dX0_weighs_0 (by decide) ?_
  refine h_bipush C 10 dX0_weighs_1 (by decide) ?_
  refine h_aload_n C 0 dX0_weighs_3 rfl rfl ?_
  refine gfX0_9 C hT dX0_weighs_4 ?_
  refine h_iadd C dX0_weighs_7 ?_
  refine h_aload_n C 0 dX0_weighs_8 rfl rfl ?_
  refine gfX0_15 C hT dX0_weighs_9 ?_
  refine h_iadd C dX0_weighs_12 ?_
  refine h_bipush C 100 dX0_weighs_13 (by decide) ?_
  refine h_iadd C dX0_weighs_15 ?_
  refine h_imul C dX0_weighs_16 ?_
  refine h_iret C rfl (Nat.zero_le _) (Nat.zero_le _) dX0_weighs_17 ?_
  exact ⟨rfl, rfl⟩
set_option maxRecDepth 100000 in
set_option maxHeartbeats 4000000 in
theorem m_X0_leans_1 {G : ha_G} {l : Launch} {σ : ha_St} {a ln : Nat} {push : Int32} (hT : gT σ a = (1, ln)) : hM G l yX0_leans cX0_leans 2 (some .int) { frames := 0, cells := 0, slots := 0, locals := 0 } [.ref (ad G a), .int push] σ (fun v σ' => v = some (.int (leansOf 1 push)) ∧ σ' = σ) := by
  refine hM_ofF [(0, .ref (ad G a)), (1, .int push)] (by decide +kernel) (Nat.le_of_ble_eq_true rfl) rfl ?_
  intro p e s m args below meth c0 C hin
  refine h_iconst C 1 dX0_leans_0 (by decide) ?_
  refine h_iload_n C 1 dX0_leans_1 rfl rfl ?_
  refine h_isub C dX0_leans_2 ?_
  refine h_iret C rfl (Nat.zero_le _) (Nat.zero_le _) dX0_leans_3 ?_
  exact ⟨rfl, rfl⟩
set_option maxRecDepth 100000 in
set_option maxHeartbeats 4000000 in
theorem m_X7_pushX_1 {G : ha_G} {l : Launch} {σ : ha_St} {a ln : Nat} {push : Int32} (hT : gT σ a = (1, ln)) : hM G l yX7_pushX cX7_pushX 2 (some .int) { frames := 1, cells := 0, slots := 0, locals := 21 } [.ref (ad G a), .int push] σ (fun v σ' => v = some (.int (pxOf σ a 1 push)) ∧ σ' = σ) := by
  refine hM_ofF [(0, .ref (ad G a)), (1, .int push)] (by decide +kernel) (Nat.le_of_ble_eq_true rfl) rfl ?_
  intro p e s m args below meth c0 C hin
  refine h_iload_n C 1 dX7_pushX_0 rfl rfl ?_
  refine h_if_ge C 11 dX7_pushX_1 (by decide) (fun c_1 => ?_) (fun c_1 => ?_)
  · refine h_bipush C 10 dX7_pushX_11 (by decide) ?_
    refine h_aload_n C 0 dX7_pushX_13 rfl rfl ?_
    refine gfX7_29_0 C hT dX7_pushX_14 ?_
    refine h_imul C dX7_pushX_17 ?_
    refine h_aload_n C 0 dX7_pushX_18 rfl rfl ?_
    refine h_iload_n C 1 dX7_pushX_19 rfl rfl ?_
    refine h_callU C (m_X0_leans_1 hT) caX7_47_0 kX0 hT ⟨by decide, by decide, by decide, by decide⟩ rfl rfl (Nat.le_of_ble_eq_true rfl) dX7_pushX_20 ?_
    rintro v σ' ⟨rfl, h2⟩; rw [h2]; clear h2
    show hW _ _ _ _ _ _ _ _ _ _ _ _ _ 23 [(0, .ref (ad G a)), (1, .int push)] [.int (leansOf 1 push), .int (10 * (gI σ a 1))] σ 0 0
    refine h_aload_n C 0 dX7_pushX_23 rfl rfl ?_
    refine h_callU C (m_X5_gripped_1 hT) caX7_51_0 kX0 hT ⟨by decide, by decide, by decide, by decide⟩ rfl rfl (Nat.le_of_ble_eq_true rfl) dX7_pushX_24 ?_
    rintro v σ' ⟨rfl, h2⟩; rw [h2]; clear h2
    show hW _ _ _ _ _ _ _ _ _ _ _ _ _ 27 [(0, .ref (ad G a)), (1, .int push)] [.int (gripOf σ a 1), .int (leansOf 1 push), .int (10 * (gI σ a 1))] σ 0 0
    refine h_imul C dX7_pushX_27 ?_
    refine h_aload_n C 0 dX7_pushX_28 rfl rfl ?_
    refine gfX7_35_0 C hT dX7_pushX_29 ?_
    refine h_imul C dX7_pushX_32 ?_
    refine h_isub C dX7_pushX_33 ?_
    refine h_iret C rfl (Nat.zero_le _) (Nat.zero_le _) dX7_pushX_34 ?_
    refine ⟨?_, rfl⟩
    unfold pxOf
    first | rw [if_neg (Int32.not_lt.mpr c_1)] | rw [if_pos (Int32.not_le.mp c_1)]
  · refine h_aload_n C 0 dX7_pushX_4 rfl rfl ?_
    refine gfX7_29_0 C hT dX7_pushX_5 ?_
    refine h_goto C 34 dX7_pushX_8 (by decide) ?_
    refine h_iret C rfl (Nat.zero_le _) (Nat.zero_le _) dX7_pushX_34 ?_
    refine ⟨?_, rfl⟩
    unfold pxOf
    first | rw [if_neg (Int32.not_lt.mpr c_1)] | rw [if_pos (Int32.not_le.mp c_1)]
set_option maxRecDepth 100000 in
set_option maxHeartbeats 4000000 in
theorem m_X7_pushY_1 {G : ha_G} {l : Launch} {σ : ha_St} {a ln : Nat} {push : Int32} (hT : gT σ a = (1, ln)) : hM G l yX7_pushY cX7_pushY 2 (some .int) { frames := 1, cells := 0, slots := 0, locals := 21 } [.ref (ad G a), .int push] σ (fun v σ' => v = some (.int (pyOf σ a 1 push)) ∧ σ' = σ) := by
  refine hM_ofF [(0, .ref (ad G a)), (1, .int push)] (by decide +kernel) (Nat.le_of_ble_eq_true rfl) rfl ?_
  intro p e s m args below meth c0 C hin
  refine h_iload_n C 1 dX7_pushY_0 rfl rfl ?_
  refine h_if_ge C 11 dX7_pushY_1 (by decide) (fun c_1 => ?_) (fun c_1 => ?_)
  · refine h_bipush C 10 dX7_pushY_11 (by decide) ?_
    refine h_aload_n C 0 dX7_pushY_13 rfl rfl ?_
    refine gfX7_35_0 C hT dX7_pushY_14 ?_
    refine h_imul C dX7_pushY_17 ?_
    refine h_aload_n C 0 dX7_pushY_18 rfl rfl ?_
    refine h_iload_n C 1 dX7_pushY_19 rfl rfl ?_
    refine h_callU C (m_X0_leans_1 hT) caX7_47_0 kX0 hT ⟨by decide, by decide, by decide, by decide⟩ rfl rfl (Nat.le_of_ble_eq_true rfl) dX7_pushY_20 ?_
    rintro v σ' ⟨rfl, h2⟩; rw [h2]; clear h2
    show hW _ _ _ _ _ _ _ _ _ _ _ _ _ 23 [(0, .ref (ad G a)), (1, .int push)] [.int (leansOf 1 push), .int (10 * (gI σ a 2))] σ 0 0
    refine h_aload_n C 0 dX7_pushY_23 rfl rfl ?_
    refine h_callU C (m_X5_gripped_1 hT) caX7_51_0 kX0 hT ⟨by decide, by decide, by decide, by decide⟩ rfl rfl (Nat.le_of_ble_eq_true rfl) dX7_pushY_24 ?_
    rintro v σ' ⟨rfl, h2⟩; rw [h2]; clear h2
    show hW _ _ _ _ _ _ _ _ _ _ _ _ _ 27 [(0, .ref (ad G a)), (1, .int push)] [.int (gripOf σ a 1), .int (leansOf 1 push), .int (10 * (gI σ a 2))] σ 0 0
    refine h_imul C dX7_pushY_27 ?_
    refine h_aload_n C 0 dX7_pushY_28 rfl rfl ?_
    refine gfX7_29_0 C hT dX7_pushY_29 ?_
    refine h_imul C dX7_pushY_32 ?_
    refine h_iadd C dX7_pushY_33 ?_
    refine h_iret C rfl (Nat.zero_le _) (Nat.zero_le _) dX7_pushY_34 ?_
    refine ⟨?_, rfl⟩
    unfold pyOf
    first | rw [if_neg (Int32.not_lt.mpr c_1)] | rw [if_pos (Int32.not_le.mp c_1)]
  · refine h_aload_n C 0 dX7_pushY_4 rfl rfl ?_
    refine gfX7_35_0 C hT dX7_pushY_5 ?_
    refine h_goto C 34 dX7_pushY_8 (by decide) ?_
    refine h_iret C rfl (Nat.zero_le _) (Nat.zero_le _) dX7_pushY_34 ?_
    refine ⟨?_, rfl⟩
    unfold pyOf
    first | rw [if_neg (Int32.not_lt.mpr c_1)] | rw [if_pos (Int32.not_le.mp c_1)]
set_option maxRecDepth 100000 in
set_option maxHeartbeats 4000000 in
theorem m_X7_turn_1 {G : ha_G} {l : Launch} {σ : ha_St} {a ln : Nat} {push : Int32} (hT : gT σ a = (1, ln)) : hM G l yX7_turn cX7_turn 2 (some .int) { frames := 2, cells := 0, slots := 0, locals := 42 } [.ref (ad G a), .int push] σ (fun v σ' => v = some (.int (tuOf σ a 1 push)) ∧ σ' = σ) := by
  refine hM_ofF [(0, .ref (ad G a)), (1, .int push)] (by decide +kernel) (Nat.le_of_ble_eq_true rfl) rfl ?_
  intro p e s m args below meth c0 C hin
  refine h_aload_n C 0 dX7_turn_0 rfl rfl ?_
  refine gfX7_38_0 C hT dX7_turn_1 ?_
  refine h_aload_n C 0 dX7_turn_4 rfl rfl ?_
  refine h_iload_n C 1 dX7_turn_5 rfl rfl ?_
  refine h_callU C (m_X7_pushY_1 hT) caX7_55_0 kX0 hT ⟨by decide, by decide, by decide, by decide⟩ rfl rfl (Nat.le_of_ble_eq_true rfl) dX7_turn_6 ?_
  rintro v σ' ⟨rfl, h2⟩; rw [h2]; clear h2
  show hW _ _ _ _ _ _ _ _ _ _ _ _ _ 9 [(0, .ref (ad G a)), (1, .int push)] [.int (pyOf σ a 1 push), .int (gI σ a 5)] σ 0 0
  refine h_imul C dX7_turn_9 ?_
  refine h_aload_n C 0 dX7_turn_10 rfl rfl ?_
  refine gfX7_41_0 C hT dX7_turn_11 ?_
  refine h_aload_n C 0 dX7_turn_14 rfl rfl ?_
  refine h_iload_n C 1 dX7_turn_15 rfl rfl ?_
  refine h_callU C (m_X7_pushX_1 hT) caX7_58_0 kX0 hT ⟨by decide, by decide, by decide, by decide⟩ rfl rfl (Nat.le_of_ble_eq_true rfl) dX7_turn_16 ?_
  rintro v σ' ⟨rfl, h2⟩; rw [h2]; clear h2
  show hW _ _ _ _ _ _ _ _ _ _ _ _ _ 19 [(0, .ref (ad G a)), (1, .int push)] [.int (pxOf σ a 1 push), .int (gI σ a 6), .int ((gI σ a 5) * (pyOf σ a 1 push))] σ 0 0
  refine h_imul C dX7_turn_19 ?_
  refine h_isub C dX7_turn_20 ?_
  refine h_iret C rfl (Nat.zero_le _) (Nat.zero_le _) dX7_turn_21 ?_
  exact ⟨rfl, rfl⟩
set_option maxRecDepth 100000 in
set_option maxHeartbeats 4000000 in
theorem m_X7_init_1 {G : ha_G} {l : Launch} {σ : ha_St} {a ln : Nat} {d x y b : Int32} (hd : 0 ≤ d ∧ d < 8) (hT : gT σ a = (1, ln)) : hM G l yX7_init cX7_init 6 none { frames := 1, cells := 0, slots := 0, locals := 20 } [.ref (ad G a), .int d, .int x, .int y, .int b] σ (fun v σ' => v = none ∧ σ' = pinIni σ a d x y b) := by
  refine hM_ofF [(0, .ref (ad G a)), (1, .int d), (2, .int x), (3, .int y), (4, .int b)] (by decide +kernel) (Nat.le_of_ble_eq_true rfl) rfl ?_
  intro p e s m args below meth c0 C hin
  refine h_aload_n C 0 dX7_init_0 rfl rfl ?_
  refine h_objInit C caX7_3 oi_in oi_co (by decide) (by decide) dX7_init_1 ?_
  refine h_aload_n C 0 dX7_init_4 rfl rfl ?_
  refine h_iconst C 0 dX7_init_5 (by decide) ?_
  refine pfX7_9_0 C hT dX7_init_6 ?_
  refine h_aload_n C 0 dX7_init_9 rfl rfl ?_
  refine h_iconst C 0 dX7_init_10 (by decide) ?_
  refine pfX7_15_0 C hT dX7_init_11 ?_
  refine h_iload_n C 1 dX7_init_14 rfl rfl ?_
  refine h_callSN C (m_X10_isDirection1 hd) caX7_18 ⟨by decide, by decide, by decide, by decide⟩ rfl rfl (Nat.le_of_ble_eq_true rfl) dX7_init_15 ?_
  rintro v σ' ⟨rfl, h2⟩; rw [h2]; clear h2
  show hW _ _ _ _ _ _ _ _ _ _ _ _ _ 18 [(0, .ref (ad G a)), (1, .int d), (2, .int x), (3, .int y), (4, .int b)] [.int 1] (sI (sI σ a 4 0) a 7 0) 0 0
  refine h_istore C [(5, .int 1), (0, .ref (ad G a)), (1, .int d), (2, .int x), (3, .int y), (4, .int b)] dX7_init_18 (by decide) rfl ?_
  refine h_aload_n C 1 dX7_init_20 rfl rfl ?_
  refine h_iload_n C 2 dX7_init_21 rfl rfl ?_
  refine pfX7_22_0 C hT hin dX7_init_22 ?_
  refine h_aload_n C 1 dX7_init_25 rfl rfl ?_
  refine h_iload C 0 dX7_init_26 rfl ?_
  refine h_if_eq C 39 dX7_init_28 (by decide) (fun c_28 => ?_) (fun c_28 => ?_)
  · exact absurd c_28 (by decide)
  · refine h_dirXN C lkX7_25 rfl dX7_init_31 ?_
    refine h_iload_n C 2 dX7_init_34 rfl rfl ?_
    refine h_dirXld C (vp8 hd) dX7_init_35 ?_
    refine h_goto C 40 dX7_init_36 (by decide) ?_
    refine pfX7_29_0 C hT hin dX7_init_40 ?_
    refine h_aload_n C 1 dX7_init_43 rfl rfl ?_
    refine h_iload C 0 dX7_init_44 rfl ?_
    refine h_if_eq C 57 dX7_init_46 (by decide) (fun c_46 => ?_) (fun c_46 => ?_)
    · exact absurd c_46 (by decide)
    · refine h_dirYN C lkX7_32 rfl dX7_init_49 ?_
      refine h_iload_n C 2 dX7_init_52 rfl rfl ?_
      refine h_dirYld C (vp8 hd) dX7_init_53 ?_
      refine h_goto C 58 dX7_init_54 (by decide) ?_
      refine pfX7_35_0 C hT hin dX7_init_58 ?_
      refine h_aload_n C 1 dX7_init_61 rfl rfl ?_
      refine h_iload_n C 3 dX7_init_62 rfl rfl ?_
      refine pfX7_38_0 C hT dX7_init_63 ?_
      refine h_aload_n C 1 dX7_init_66 rfl rfl ?_
      refine h_iload_n C 4 dX7_init_67 rfl rfl ?_
      refine pfX7_41_0 C hT dX7_init_68 ?_
      refine h_aload_n C 1 dX7_init_71 rfl rfl ?_
      refine h_iload C 5 dX7_init_72 rfl ?_
      refine pfX7_44_0 C hT hin dX7_init_74 ?_
      refine h_vret C rfl (Nat.zero_le _) (Nat.zero_le _) dX7_init_77 ?_
      exact ⟨rfl, rfl⟩
set_option maxRecDepth 100000 in
set_option maxHeartbeats 4000000 in
theorem m_X5_init_1 {G : ha_G} {l : Launch} {σ : ha_St} {a ln : Nat} {d x y g b : Int32} (hd : 0 ≤ d ∧ d < 8) (hT : gT σ a = (1, ln)) : hM G l yX5_init cX5_init 6 none { frames := 2, cells := 0, slots := 0, locals := 45 } [.ref (ad G a), .int d, .int x, .int y, .int g, .int b] σ (fun v σ' => v = none ∧ σ' = sI (pinIni σ a d x y b) a 8 g) := by
  refine hM_ofF [(0, .ref (ad G a)), (1, .int d), (2, .int x), (3, .int y), (4, .int g), (5, .int b)] (by decide +kernel) (Nat.le_of_ble_eq_true rfl) rfl ?_
  intro p e s m args below meth c0 C hin
  refine h_aload_n C 0 dX5_init_0 rfl rfl ?_
  refine h_iload_n C 1 dX5_init_1 rfl rfl ?_
  refine h_iload_n C 2 dX5_init_2 rfl rfl ?_
  refine h_iload_n C 3 dX5_init_3 rfl rfl ?_
  refine h_iload C 5 dX5_init_4 rfl ?_
  refine h_callI C (m_X7_init_1 hd hT) caX5_3 ⟨by decide, by decide, by decide, by decide⟩ rfl rfl (Nat.le_of_ble_eq_true rfl) dX5_init_6 ?_
  rintro v σ' ⟨rfl, h2⟩; rw [h2]; clear h2
  show hW _ _ _ _ _ _ _ _ _ _ _ _ _ 9 [(0, .ref (ad G a)), (1, .int d), (2, .int x), (3, .int y), (4, .int g), (5, .int b)] [] (pinIni σ a d x y b) 0 0
  refine h_aload_n C 0 dX5_init_9 rfl rfl ?_
  refine h_iload C 4 dX5_init_10 rfl ?_
  refine pfX5_9_0 C hT hin dX5_init_12 ?_
  refine h_vret C rfl (Nat.zero_le _) (Nat.zero_le _) dX5_init_15 ?_
  exact ⟨rfl, rfl⟩
set_option maxRecDepth 100000 in
set_option maxHeartbeats 4000000 in
theorem m_X0_init_1 {G : ha_G} {l : Launch} {σ : ha_St} {a ln : Nat} {d x y g b : Int32} (hd : 0 ≤ d ∧ d < 8) (hT : gT σ a = (1, ln)) : hM G l yX0_init cX0_init 6 none { frames := 3, cells := 0, slots := 0, locals := 70 } [.ref (ad G a), .int d, .int x, .int y, .int g, .int b] σ (fun v σ' => v = none ∧ σ' = sI (pinIni σ a d x y b) a 8 g) := by
  refine hM_ofF [(0, .ref (ad G a)), (1, .int d), (2, .int x), (3, .int y), (4, .int g), (5, .int b)] (by decide +kernel) (Nat.le_of_ble_eq_true rfl) rfl ?_
  intro p e s m args below meth c0 C hin
  refine h_aload_n C 0 dX0_init_0 rfl rfl ?_
  refine h_iload_n C 1 dX0_init_1 rfl rfl ?_
  refine h_iload_n C 2 dX0_init_2 rfl rfl ?_
  refine h_iload_n C 3 dX0_init_3 rfl rfl ?_
  refine h_iload C 4 dX0_init_4 rfl ?_
  refine h_iload C 5 dX0_init_6 rfl ?_
  refine h_callI C (m_X5_init_1 hd hT) caX0_3 ⟨by decide, by decide, by decide, by decide⟩ rfl rfl (Nat.le_of_ble_eq_true rfl) dX0_init_8 ?_
  rintro v σ' ⟨rfl, h2⟩; rw [h2]; clear h2
  show hW _ _ _ _ _ _ _ _ _ _ _ _ _ 11 [(0, .ref (ad G a)), (1, .int d), (2, .int x), (3, .int y), (4, .int g), (5, .int b)] [] (sI (pinIni σ a d x y b) a 8 g) 0 0
  refine h_vret C rfl (Nat.zero_le _) (Nat.zero_le _) dX0_init_11 ?_
  exact ⟨rfl, rfl⟩
set_option maxRecDepth 100000 in
set_option maxHeartbeats 4000000 in
theorem m_X1_kind_2 {G : ha_G} {l : Launch} {σ : ha_St} {a ln : Nat} (hT : gT σ a = (2, ln)) : hM G l yX1_kind cX1_kind 1 (some .int) { frames := 0, cells := 0, slots := 0, locals := 0 } [.ref (ad G a)] σ (fun v σ' => v = some (.int (kindOf 2)) ∧ σ' = σ) := by
  refine hM_ofF [(0, .ref (ad G a))] (by decide +kernel) (Nat.le_of_ble_eq_true rfl) rfl ?_
  intro p e s m args below meth c0 C hin
  refine h_iconst C 2 dX1_kind_0 (by decide) ?_
  refine h_iret C rfl (Nat.zero_le _) (Nat.zero_le _) dX1_kind_1 ?_
  exact ⟨rfl, rfl⟩
set_option maxRecDepth 100000 in
set_option maxHeartbeats 4000000 in
theorem m_X1_places_2 {G : ha_G} {l : Launch} {σ : ha_St} {a ln : Nat} (hT : gT σ a = (2, ln)) : hM G l yX1_places cX1_places 1 (some .boolean) { frames := 0, cells := 0, slots := 0, locals := 0 } [.ref (ad G a)] σ (fun v σ' => v = some (.int (placesOf 2)) ∧ σ' = σ) := by
  refine hM_ofF [(0, .ref (ad G a))] (by decide +kernel) (Nat.le_of_ble_eq_true rfl) rfl ?_
  intro p e s m args below meth c0 C hin
  refine h_iconst C 0 dX1_places_0 (by decide) ?_
  refine h_zret C rfl (by decide) (Nat.zero_le _) (Nat.zero_le _) dX1_places_1 ?_
  exact ⟨rfl, rfl⟩
set_option maxRecDepth 100000 in
set_option maxHeartbeats 4000000 in
theorem m_X7_pushCount_2 {G : ha_G} {l : Launch} {σ : ha_St} {a ln : Nat} (hT : gT σ a = (2, ln)) : hM G l yX7_pushCount cX7_pushCount 1 (some .int) { frames := 0, cells := 0, slots := 0, locals := 0 } [.ref (ad G a)] σ (fun v σ' => v = some (.int (countOf 2)) ∧ σ' = σ) := by
  refine hM_ofF [(0, .ref (ad G a))] (by decide +kernel) (Nat.le_of_ble_eq_true rfl) rfl ?_
  intro p e s m args below meth c0 C hin
  refine h_iconst C 1 dX7_pushCount_0 (by decide) ?_
  refine h_iret C rfl (Nat.zero_le _) (Nat.zero_le _) dX7_pushCount_1 ?_
  exact ⟨rfl, rfl⟩
set_option maxRecDepth 100000 in
set_option maxHeartbeats 4000000 in
theorem m_X7_gripped_2 {G : ha_G} {l : Launch} {σ : ha_St} {a ln : Nat} (hT : gT σ a = (2, ln)) : hM G l yX7_gripped cX7_gripped 1 (some .int) { frames := 0, cells := 0, slots := 0, locals := 0 } [.ref (ad G a)] σ (fun v σ' => v = some (.int (gripOf σ a 2)) ∧ σ' = σ) := by
  refine hM_ofF [(0, .ref (ad G a))] (by decide +kernel) (Nat.le_of_ble_eq_true rfl) rfl ?_
  intro p e s m args below meth c0 C hin
  refine h_iconst C 0 dX7_gripped_0 (by decide) ?_
  refine h_iret C rfl (Nat.zero_le _) (Nat.zero_le _) dX7_gripped_1 ?_
  exact ⟨rfl, rfl⟩
set_option maxRecDepth 100000 in
set_option maxHeartbeats 4000000 in
theorem m_X1_weighs_2 {G : ha_G} {l : Launch} {σ : ha_St} {a ln : Nat} (hT : gT σ a = (2, ln)) : hM G l yX1_weighs cX1_weighs 1 (some .int) { frames := 0, cells := 0, slots := 0, locals := 0 } [.ref (ad G a)] σ (fun v σ' => v = some (.int (weighsOf σ a 2)) ∧ σ' = σ) := by
  refine hM_ofF [(0, .ref (ad G a))] (by decide +kernel) (Nat.le_of_ble_eq_true rfl) rfl ?_
  intro p e s m args below meth c0 C hin
  refine h_bipush C 10 dX1_weighs_0 (by decide) ?_
  refine h_aload_n C 0 dX1_weighs_2 rfl rfl ?_
  refine gfX1_9 C hT dX1_weighs_3 ?_
  refine h_iadd C dX1_weighs_6 ?_
  refine h_sipush C 1000 dX1_weighs_7 (by decide) ?_
  refine h_iadd C dX1_weighs_10 ?_
  refine h_iret C rfl (Nat.zero_le _) (Nat.zero_le _) dX1_weighs_11 ?_
  exact ⟨rfl, rfl⟩
set_option maxRecDepth 100000 in
set_option maxHeartbeats 4000000 in
theorem m_X7_leans_2 {G : ha_G} {l : Launch} {σ : ha_St} {a ln : Nat} {push : Int32} (hT : gT σ a = (2, ln)) : hM G l yX7_leans cX7_leans 2 (some .int) { frames := 0, cells := 0, slots := 0, locals := 0 } [.ref (ad G a), .int push] σ (fun v σ' => v = some (.int (leansOf 2 push)) ∧ σ' = σ) := by
  refine hM_ofF [(0, .ref (ad G a)), (1, .int push)] (by decide +kernel) (Nat.le_of_ble_eq_true rfl) rfl ?_
  intro p e s m args below meth c0 C hin
  refine h_iconst C 0 dX7_leans_0 (by decide) ?_
  refine h_iret C rfl (Nat.zero_le _) (Nat.zero_le _) dX7_leans_1 ?_
  exact ⟨rfl, rfl⟩
set_option maxRecDepth 100000 in
set_option maxHeartbeats 4000000 in
theorem m_X7_pushX_2 {G : ha_G} {l : Launch} {σ : ha_St} {a ln : Nat} {push : Int32} (hT : gT σ a = (2, ln)) : hM G l yX7_pushX cX7_pushX 2 (some .int) { frames := 1, cells := 0, slots := 0, locals := 21 } [.ref (ad G a), .int push] σ (fun v σ' => v = some (.int (pxOf σ a 2 push)) ∧ σ' = σ) := by
  refine hM_ofF [(0, .ref (ad G a)), (1, .int push)] (by decide +kernel) (Nat.le_of_ble_eq_true rfl) rfl ?_
  intro p e s m args below meth c0 C hin
  refine h_iload_n C 1 dX7_pushX_0 rfl rfl ?_
  refine h_if_ge C 11 dX7_pushX_1 (by decide) (fun c_1 => ?_) (fun c_1 => ?_)
  · refine h_bipush C 10 dX7_pushX_11 (by decide) ?_
    refine h_aload_n C 0 dX7_pushX_13 rfl rfl ?_
    refine gfX7_29_1 C hT dX7_pushX_14 ?_
    refine h_imul C dX7_pushX_17 ?_
    refine h_aload_n C 0 dX7_pushX_18 rfl rfl ?_
    refine h_iload_n C 1 dX7_pushX_19 rfl rfl ?_
    refine h_callU C (m_X7_leans_2 hT) caX7_47_1 kX1 hT ⟨by decide, by decide, by decide, by decide⟩ rfl rfl (Nat.le_of_ble_eq_true rfl) dX7_pushX_20 ?_
    rintro v σ' ⟨rfl, h2⟩; rw [h2]; clear h2
    show hW _ _ _ _ _ _ _ _ _ _ _ _ _ 23 [(0, .ref (ad G a)), (1, .int push)] [.int (leansOf 2 push), .int (10 * (gI σ a 1))] σ 0 0
    refine h_aload_n C 0 dX7_pushX_23 rfl rfl ?_
    refine h_callU C (m_X7_gripped_2 hT) caX7_51_1 kX1 hT ⟨by decide, by decide, by decide, by decide⟩ rfl rfl (Nat.le_of_ble_eq_true rfl) dX7_pushX_24 ?_
    rintro v σ' ⟨rfl, h2⟩; rw [h2]; clear h2
    show hW _ _ _ _ _ _ _ _ _ _ _ _ _ 27 [(0, .ref (ad G a)), (1, .int push)] [.int (gripOf σ a 2), .int (leansOf 2 push), .int (10 * (gI σ a 1))] σ 0 0
    refine h_imul C dX7_pushX_27 ?_
    refine h_aload_n C 0 dX7_pushX_28 rfl rfl ?_
    refine gfX7_35_1 C hT dX7_pushX_29 ?_
    refine h_imul C dX7_pushX_32 ?_
    refine h_isub C dX7_pushX_33 ?_
    refine h_iret C rfl (Nat.zero_le _) (Nat.zero_le _) dX7_pushX_34 ?_
    refine ⟨?_, rfl⟩
    unfold pxOf
    first | rw [if_neg (Int32.not_lt.mpr c_1)] | rw [if_pos (Int32.not_le.mp c_1)]
  · refine h_aload_n C 0 dX7_pushX_4 rfl rfl ?_
    refine gfX7_29_1 C hT dX7_pushX_5 ?_
    refine h_goto C 34 dX7_pushX_8 (by decide) ?_
    refine h_iret C rfl (Nat.zero_le _) (Nat.zero_le _) dX7_pushX_34 ?_
    refine ⟨?_, rfl⟩
    unfold pxOf
    first | rw [if_neg (Int32.not_lt.mpr c_1)] | rw [if_pos (Int32.not_le.mp c_1)]
set_option maxRecDepth 100000 in
set_option maxHeartbeats 4000000 in
theorem m_X7_pushY_2 {G : ha_G} {l : Launch} {σ : ha_St} {a ln : Nat} {push : Int32} (hT : gT σ a = (2, ln)) : hM G l yX7_pushY cX7_pushY 2 (some .int) { frames := 1, cells := 0, slots := 0, locals := 21 } [.ref (ad G a), .int push] σ (fun v σ' => v = some (.int (pyOf σ a 2 push)) ∧ σ' = σ) := by
  refine hM_ofF [(0, .ref (ad G a)), (1, .int push)] (by decide +kernel) (Nat.le_of_ble_eq_true rfl) rfl ?_
  intro p e s m args below meth c0 C hin
  refine h_iload_n C 1 dX7_pushY_0 rfl rfl ?_
  refine h_if_ge C 11 dX7_pushY_1 (by decide) (fun c_1 => ?_) (fun c_1 => ?_)
  · refine h_bipush C 10 dX7_pushY_11 (by decide) ?_
    refine h_aload_n C 0 dX7_pushY_13 rfl rfl ?_
    refine gfX7_35_1 C hT dX7_pushY_14 ?_
    refine h_imul C dX7_pushY_17 ?_
    refine h_aload_n C 0 dX7_pushY_18 rfl rfl ?_
    refine h_iload_n C 1 dX7_pushY_19 rfl rfl ?_
    refine h_callU C (m_X7_leans_2 hT) caX7_47_1 kX1 hT ⟨by decide, by decide, by decide, by decide⟩ rfl rfl (Nat.le_of_ble_eq_true rfl) dX7_pushY_20 ?_
    rintro v σ' ⟨rfl, h2⟩; rw [h2]; clear h2
    show hW _ _ _ _ _ _ _ _ _ _ _ _ _ 23 [(0, .ref (ad G a)), (1, .int push)] [.int (leansOf 2 push), .int (10 * (gI σ a 2))] σ 0 0
    refine h_aload_n C 0 dX7_pushY_23 rfl rfl ?_
    refine h_callU C (m_X7_gripped_2 hT) caX7_51_1 kX1 hT ⟨by decide, by decide, by decide, by decide⟩ rfl rfl (Nat.le_of_ble_eq_true rfl) dX7_pushY_24 ?_
    rintro v σ' ⟨rfl, h2⟩; rw [h2]; clear h2
    show hW _ _ _ _ _ _ _ _ _ _ _ _ _ 27 [(0, .ref (ad G a)), (1, .int push)] [.int (gripOf σ a 2), .int (leansOf 2 push), .int (10 * (gI σ a 2))] σ 0 0
    refine h_imul C dX7_pushY_27 ?_
    refine h_aload_n C 0 dX7_pushY_28 rfl rfl ?_
    refine gfX7_29_1 C hT dX7_pushY_29 ?_
    refine h_imul C dX7_pushY_32 ?_
    refine h_iadd C dX7_pushY_33 ?_
    refine h_iret C rfl (Nat.zero_le _) (Nat.zero_le _) dX7_pushY_34 ?_
    refine ⟨?_, rfl⟩
    unfold pyOf
    first | rw [if_neg (Int32.not_lt.mpr c_1)] | rw [if_pos (Int32.not_le.mp c_1)]
  · refine h_aload_n C 0 dX7_pushY_4 rfl rfl ?_
    refine gfX7_35_1 C hT dX7_pushY_5 ?_
    refine h_goto C 34 dX7_pushY_8 (by decide) ?_
    refine h_iret C rfl (Nat.zero_le _) (Nat.zero_le _) dX7_pushY_34 ?_
    refine ⟨?_, rfl⟩
    unfold pyOf
    first | rw [if_neg (Int32.not_lt.mpr c_1)] | rw [if_pos (Int32.not_le.mp c_1)]
set_option maxRecDepth 100000 in
set_option maxHeartbeats 4000000 in
theorem m_X7_turn_2 {G : ha_G} {l : Launch} {σ : ha_St} {a ln : Nat} {push : Int32} (hT : gT σ a = (2, ln)) : hM G l yX7_turn cX7_turn 2 (some .int) { frames := 2, cells := 0, slots := 0, locals := 42 } [.ref (ad G a), .int push] σ (fun v σ' => v = some (.int (tuOf σ a 2 push)) ∧ σ' = σ) := by
  refine hM_ofF [(0, .ref (ad G a)), (1, .int push)] (by decide +kernel) (Nat.le_of_ble_eq_true rfl) rfl ?_
  intro p e s m args below meth c0 C hin
  refine h_aload_n C 0 dX7_turn_0 rfl rfl ?_
  refine gfX7_38_1 C hT dX7_turn_1 ?_
  refine h_aload_n C 0 dX7_turn_4 rfl rfl ?_
  refine h_iload_n C 1 dX7_turn_5 rfl rfl ?_
  refine h_callU C (m_X7_pushY_2 hT) caX7_55_1 kX1 hT ⟨by decide, by decide, by decide, by decide⟩ rfl rfl (Nat.le_of_ble_eq_true rfl) dX7_turn_6 ?_
  rintro v σ' ⟨rfl, h2⟩; rw [h2]; clear h2
  show hW _ _ _ _ _ _ _ _ _ _ _ _ _ 9 [(0, .ref (ad G a)), (1, .int push)] [.int (pyOf σ a 2 push), .int (gI σ a 5)] σ 0 0
  refine h_imul C dX7_turn_9 ?_
  refine h_aload_n C 0 dX7_turn_10 rfl rfl ?_
  refine gfX7_41_1 C hT dX7_turn_11 ?_
  refine h_aload_n C 0 dX7_turn_14 rfl rfl ?_
  refine h_iload_n C 1 dX7_turn_15 rfl rfl ?_
  refine h_callU C (m_X7_pushX_2 hT) caX7_58_1 kX1 hT ⟨by decide, by decide, by decide, by decide⟩ rfl rfl (Nat.le_of_ble_eq_true rfl) dX7_turn_16 ?_
  rintro v σ' ⟨rfl, h2⟩; rw [h2]; clear h2
  show hW _ _ _ _ _ _ _ _ _ _ _ _ _ 19 [(0, .ref (ad G a)), (1, .int push)] [.int (pxOf σ a 2 push), .int (gI σ a 6), .int ((gI σ a 5) * (pyOf σ a 2 push))] σ 0 0
  refine h_imul C dX7_turn_19 ?_
  refine h_isub C dX7_turn_20 ?_
  refine h_iret C rfl (Nat.zero_le _) (Nat.zero_le _) dX7_turn_21 ?_
  exact ⟨rfl, rfl⟩
set_option maxRecDepth 100000 in
set_option maxHeartbeats 4000000 in
theorem m_X7_init_2 {G : ha_G} {l : Launch} {σ : ha_St} {a ln : Nat} {d x y b : Int32} (hd : 0 ≤ d ∧ d < 8) (hT : gT σ a = (2, ln)) : hM G l yX7_init cX7_init 6 none { frames := 1, cells := 0, slots := 0, locals := 20 } [.ref (ad G a), .int d, .int x, .int y, .int b] σ (fun v σ' => v = none ∧ σ' = pinIni σ a d x y b) := by
  refine hM_ofF [(0, .ref (ad G a)), (1, .int d), (2, .int x), (3, .int y), (4, .int b)] (by decide +kernel) (Nat.le_of_ble_eq_true rfl) rfl ?_
  intro p e s m args below meth c0 C hin
  refine h_aload_n C 0 dX7_init_0 rfl rfl ?_
  refine h_objInit C caX7_3 oi_in oi_co (by decide) (by decide) dX7_init_1 ?_
  refine h_aload_n C 0 dX7_init_4 rfl rfl ?_
  refine h_iconst C 0 dX7_init_5 (by decide) ?_
  refine pfX7_9_1 C hT dX7_init_6 ?_
  refine h_aload_n C 0 dX7_init_9 rfl rfl ?_
  refine h_iconst C 0 dX7_init_10 (by decide) ?_
  refine pfX7_15_1 C hT dX7_init_11 ?_
  refine h_iload_n C 1 dX7_init_14 rfl rfl ?_
  refine h_callSN C (m_X10_isDirection1 hd) caX7_18 ⟨by decide, by decide, by decide, by decide⟩ rfl rfl (Nat.le_of_ble_eq_true rfl) dX7_init_15 ?_
  rintro v σ' ⟨rfl, h2⟩; rw [h2]; clear h2
  show hW _ _ _ _ _ _ _ _ _ _ _ _ _ 18 [(0, .ref (ad G a)), (1, .int d), (2, .int x), (3, .int y), (4, .int b)] [.int 1] (sI (sI σ a 4 0) a 7 0) 0 0
  refine h_istore C [(5, .int 1), (0, .ref (ad G a)), (1, .int d), (2, .int x), (3, .int y), (4, .int b)] dX7_init_18 (by decide) rfl ?_
  refine h_aload_n C 1 dX7_init_20 rfl rfl ?_
  refine h_iload_n C 2 dX7_init_21 rfl rfl ?_
  refine pfX7_22_1 C hT hin dX7_init_22 ?_
  refine h_aload_n C 1 dX7_init_25 rfl rfl ?_
  refine h_iload C 0 dX7_init_26 rfl ?_
  refine h_if_eq C 39 dX7_init_28 (by decide) (fun c_28 => ?_) (fun c_28 => ?_)
  · exact absurd c_28 (by decide)
  · refine h_dirXN C lkX7_25 rfl dX7_init_31 ?_
    refine h_iload_n C 2 dX7_init_34 rfl rfl ?_
    refine h_dirXld C (vp8 hd) dX7_init_35 ?_
    refine h_goto C 40 dX7_init_36 (by decide) ?_
    refine pfX7_29_1 C hT hin dX7_init_40 ?_
    refine h_aload_n C 1 dX7_init_43 rfl rfl ?_
    refine h_iload C 0 dX7_init_44 rfl ?_
    refine h_if_eq C 57 dX7_init_46 (by decide) (fun c_46 => ?_) (fun c_46 => ?_)
    · exact absurd c_46 (by decide)
    · refine h_dirYN C lkX7_32 rfl dX7_init_49 ?_
      refine h_iload_n C 2 dX7_init_52 rfl rfl ?_
      refine h_dirYld C (vp8 hd) dX7_init_53 ?_
      refine h_goto C 58 dX7_init_54 (by decide) ?_
      refine pfX7_35_1 C hT hin dX7_init_58 ?_
      refine h_aload_n C 1 dX7_init_61 rfl rfl ?_
      refine h_iload_n C 3 dX7_init_62 rfl rfl ?_
      refine pfX7_38_1 C hT dX7_init_63 ?_
      refine h_aload_n C 1 dX7_init_66 rfl rfl ?_
      refine h_iload_n C 4 dX7_init_67 rfl rfl ?_
      refine pfX7_41_1 C hT dX7_init_68 ?_
      refine h_aload_n C 1 dX7_init_71 rfl rfl ?_
      refine h_iload C 5 dX7_init_72 rfl ?_
      refine pfX7_44_1 C hT hin dX7_init_74 ?_
      refine h_vret C rfl (Nat.zero_le _) (Nat.zero_le _) dX7_init_77 ?_
      exact ⟨rfl, rfl⟩
set_option maxRecDepth 100000 in
set_option maxHeartbeats 4000000 in
theorem m_X1_init_2 {G : ha_G} {l : Launch} {σ : ha_St} {a ln : Nat} {d x y b : Int32} (hd : 0 ≤ d ∧ d < 8) (hT : gT σ a = (2, ln)) : hM G l yX1_init cX1_init 5 none { frames := 2, cells := 0, slots := 0, locals := 45 } [.ref (ad G a), .int d, .int x, .int y, .int b] σ (fun v σ' => v = none ∧ σ' = pinIni σ a d x y b) := by
  refine hM_ofF [(0, .ref (ad G a)), (1, .int d), (2, .int x), (3, .int y), (4, .int b)] (by decide +kernel) (Nat.le_of_ble_eq_true rfl) rfl ?_
  intro p e s m args below meth c0 C hin
  refine h_aload_n C 0 dX1_init_0 rfl rfl ?_
  refine h_iload_n C 1 dX1_init_1 rfl rfl ?_
  refine h_iload_n C 2 dX1_init_2 rfl rfl ?_
  refine h_iload_n C 3 dX1_init_3 rfl rfl ?_
  refine h_iload C 4 dX1_init_4 rfl ?_
  refine h_callI C (m_X7_init_2 hd hT) caX1_3 ⟨by decide, by decide, by decide, by decide⟩ rfl rfl (Nat.le_of_ble_eq_true rfl) dX1_init_6 ?_
  rintro v σ' ⟨rfl, h2⟩; rw [h2]; clear h2
  show hW _ _ _ _ _ _ _ _ _ _ _ _ _ 9 [(0, .ref (ad G a)), (1, .int d), (2, .int x), (3, .int y), (4, .int b)] [] (pinIni σ a d x y b) 0 0
  refine h_vret C rfl (Nat.zero_le _) (Nat.zero_le _) dX1_init_9 ?_
  exact ⟨rfl, rfl⟩
set_option maxRecDepth 100000 in
set_option maxHeartbeats 4000000 in
theorem m_X5_kind_6 {G : ha_G} {l : Launch} {σ : ha_St} {a ln : Nat} (hT : gT σ a = (6, ln)) : hM G l yX5_kind cX5_kind 1 (some .int) { frames := 0, cells := 0, slots := 0, locals := 0 } [.ref (ad G a)] σ (fun v σ' => v = some (.int (kindOf 6)) ∧ σ' = σ) := by
  refine hM_ofF [(0, .ref (ad G a))] (by decide +kernel) (Nat.le_of_ble_eq_true rfl) rfl ?_
  intro p e s m args below meth c0 C hin
  refine h_iconst C 1 dX5_kind_0 (by decide) ?_
  refine h_iret C rfl (Nat.zero_le _) (Nat.zero_le _) dX5_kind_1 ?_
  exact ⟨rfl, rfl⟩
set_option maxRecDepth 100000 in
set_option maxHeartbeats 4000000 in
theorem m_X7_places_6 {G : ha_G} {l : Launch} {σ : ha_St} {a ln : Nat} (hT : gT σ a = (6, ln)) : hM G l yX7_places cX7_places 1 (some .boolean) { frames := 0, cells := 0, slots := 0, locals := 0 } [.ref (ad G a)] σ (fun v σ' => v = some (.int (placesOf 6)) ∧ σ' = σ) := by
  refine hM_ofF [(0, .ref (ad G a))] (by decide +kernel) (Nat.le_of_ble_eq_true rfl) rfl ?_
  intro p e s m args below meth c0 C hin
  refine h_iconst C 1 dX7_places_0 (by decide) ?_
  refine h_zret C rfl (by decide) (Nat.zero_le _) (Nat.zero_le _) dX7_places_1 ?_
  exact ⟨rfl, rfl⟩
set_option maxRecDepth 100000 in
set_option maxHeartbeats 4000000 in
theorem m_X5_pushCount_6 {G : ha_G} {l : Launch} {σ : ha_St} {a ln : Nat} (hT : gT σ a = (6, ln)) : hM G l yX5_pushCount cX5_pushCount 1 (some .int) { frames := 0, cells := 0, slots := 0, locals := 0 } [.ref (ad G a)] σ (fun v σ' => v = some (.int (countOf 6)) ∧ σ' = σ) := by
  refine hM_ofF [(0, .ref (ad G a))] (by decide +kernel) (Nat.le_of_ble_eq_true rfl) rfl ?_
  intro p e s m args below meth c0 C hin
  refine h_iconst C 2 dX5_pushCount_0 (by decide) ?_
  refine h_iret C rfl (Nat.zero_le _) (Nat.zero_le _) dX5_pushCount_1 ?_
  exact ⟨rfl, rfl⟩
set_option maxRecDepth 100000 in
set_option maxHeartbeats 4000000 in
theorem m_X5_gripped_6 {G : ha_G} {l : Launch} {σ : ha_St} {a ln : Nat} (hT : gT σ a = (6, ln)) : hM G l yX5_gripped cX5_gripped 1 (some .int) { frames := 0, cells := 0, slots := 0, locals := 0 } [.ref (ad G a)] σ (fun v σ' => v = some (.int (gripOf σ a 6)) ∧ σ' = σ) := by
  refine hM_ofF [(0, .ref (ad G a))] (by decide +kernel) (Nat.le_of_ble_eq_true rfl) rfl ?_
  intro p e s m args below meth c0 C hin
  refine h_aload_n C 0 dX5_gripped_0 rfl rfl ?_
  refine gfX5_9_5 C hT dX5_gripped_1 ?_
  refine h_iret C rfl (Nat.zero_le _) (Nat.zero_le _) dX5_gripped_4 ?_
  exact ⟨rfl, rfl⟩
set_option maxRecDepth 100000 in
set_option maxHeartbeats 4000000 in
theorem m_X5_weighs_6 {G : ha_G} {l : Launch} {σ : ha_St} {a ln : Nat} (hT : gT σ a = (6, ln)) : hM G l yX5_weighs cX5_weighs 1 (some .int) { frames := 0, cells := 0, slots := 0, locals := 0 } [.ref (ad G a)] σ (fun v σ' => v = some (.int (weighsOf σ a 6)) ∧ σ' = σ) := by
  refine hM_ofF [(0, .ref (ad G a))] (by decide +kernel) (Nat.le_of_ble_eq_true rfl) rfl ?_
  intro p e s m args below meth c0 C hin
  refine h_bipush C 10 dX5_weighs_0 (by decide) ?_
  refine h_aload_n C 0 dX5_weighs_2 rfl rfl ?_
  refine gfX5_15_5 C hT dX5_weighs_3 ?_
  refine h_iadd C dX5_weighs_6 ?_
  refine h_aload_n C 0 dX5_weighs_7 rfl rfl ?_
  refine gfX5_9_5 C hT dX5_weighs_8 ?_
  refine h_iadd C dX5_weighs_11 ?_
  refine h_bipush C 100 dX5_weighs_12 (by decide) ?_
  refine h_iadd C dX5_weighs_14 ?_
  refine h_iret C rfl (Nat.zero_le _) (Nat.zero_le _) dX5_weighs_15 ?_
  exact ⟨rfl, rfl⟩
set_option maxRecDepth 100000 in
set_option maxHeartbeats 4000000 in
theorem m_X5_leans_6 {G : ha_G} {l : Launch} {σ : ha_St} {a ln : Nat} {push : Int32} (hT : gT σ a = (6, ln)) : hM G l yX5_leans cX5_leans 2 (some .int) { frames := 0, cells := 0, slots := 0, locals := 0 } [.ref (ad G a), .int push] σ (fun v σ' => v = some (.int (leansOf 6 push)) ∧ σ' = σ) := by
  refine hM_ofF [(0, .ref (ad G a)), (1, .int push)] (by decide +kernel) (Nat.le_of_ble_eq_true rfl) rfl ?_
  intro p e s m args below meth c0 C hin
  refine h_iconst C 1 dX5_leans_0 (by decide) ?_
  refine h_iconst C 2 dX5_leans_1 (by decide) ?_
  refine h_iload_n C 1 dX5_leans_2 rfl rfl ?_
  refine h_imul C dX5_leans_3 ?_
  refine h_isub C dX5_leans_4 ?_
  refine h_iret C rfl (Nat.zero_le _) (Nat.zero_le _) dX5_leans_5 ?_
  exact ⟨rfl, rfl⟩
set_option maxRecDepth 100000 in
set_option maxHeartbeats 4000000 in
theorem m_X7_pushX_6 {G : ha_G} {l : Launch} {σ : ha_St} {a ln : Nat} {push : Int32} (hT : gT σ a = (6, ln)) : hM G l yX7_pushX cX7_pushX 2 (some .int) { frames := 1, cells := 0, slots := 0, locals := 21 } [.ref (ad G a), .int push] σ (fun v σ' => v = some (.int (pxOf σ a 6 push)) ∧ σ' = σ) := by
  refine hM_ofF [(0, .ref (ad G a)), (1, .int push)] (by decide +kernel) (Nat.le_of_ble_eq_true rfl) rfl ?_
  intro p e s m args below meth c0 C hin
  refine h_iload_n C 1 dX7_pushX_0 rfl rfl ?_
  refine h_if_ge C 11 dX7_pushX_1 (by decide) (fun c_1 => ?_) (fun c_1 => ?_)
  · refine h_bipush C 10 dX7_pushX_11 (by decide) ?_
    refine h_aload_n C 0 dX7_pushX_13 rfl rfl ?_
    refine gfX7_29_5 C hT dX7_pushX_14 ?_
    refine h_imul C dX7_pushX_17 ?_
    refine h_aload_n C 0 dX7_pushX_18 rfl rfl ?_
    refine h_iload_n C 1 dX7_pushX_19 rfl rfl ?_
    refine h_callU C (m_X5_leans_6 hT) caX7_47_5 kX5 hT ⟨by decide, by decide, by decide, by decide⟩ rfl rfl (Nat.le_of_ble_eq_true rfl) dX7_pushX_20 ?_
    rintro v σ' ⟨rfl, h2⟩; rw [h2]; clear h2
    show hW _ _ _ _ _ _ _ _ _ _ _ _ _ 23 [(0, .ref (ad G a)), (1, .int push)] [.int (leansOf 6 push), .int (10 * (gI σ a 1))] σ 0 0
    refine h_aload_n C 0 dX7_pushX_23 rfl rfl ?_
    refine h_callU C (m_X5_gripped_6 hT) caX7_51_5 kX5 hT ⟨by decide, by decide, by decide, by decide⟩ rfl rfl (Nat.le_of_ble_eq_true rfl) dX7_pushX_24 ?_
    rintro v σ' ⟨rfl, h2⟩; rw [h2]; clear h2
    show hW _ _ _ _ _ _ _ _ _ _ _ _ _ 27 [(0, .ref (ad G a)), (1, .int push)] [.int (gripOf σ a 6), .int (leansOf 6 push), .int (10 * (gI σ a 1))] σ 0 0
    refine h_imul C dX7_pushX_27 ?_
    refine h_aload_n C 0 dX7_pushX_28 rfl rfl ?_
    refine gfX7_35_5 C hT dX7_pushX_29 ?_
    refine h_imul C dX7_pushX_32 ?_
    refine h_isub C dX7_pushX_33 ?_
    refine h_iret C rfl (Nat.zero_le _) (Nat.zero_le _) dX7_pushX_34 ?_
    refine ⟨?_, rfl⟩
    unfold pxOf
    first | rw [if_neg (Int32.not_lt.mpr c_1)] | rw [if_pos (Int32.not_le.mp c_1)]
  · refine h_aload_n C 0 dX7_pushX_4 rfl rfl ?_
    refine gfX7_29_5 C hT dX7_pushX_5 ?_
    refine h_goto C 34 dX7_pushX_8 (by decide) ?_
    refine h_iret C rfl (Nat.zero_le _) (Nat.zero_le _) dX7_pushX_34 ?_
    refine ⟨?_, rfl⟩
    unfold pxOf
    first | rw [if_neg (Int32.not_lt.mpr c_1)] | rw [if_pos (Int32.not_le.mp c_1)]
set_option maxRecDepth 100000 in
set_option maxHeartbeats 4000000 in
theorem m_X7_pushY_6 {G : ha_G} {l : Launch} {σ : ha_St} {a ln : Nat} {push : Int32} (hT : gT σ a = (6, ln)) : hM G l yX7_pushY cX7_pushY 2 (some .int) { frames := 1, cells := 0, slots := 0, locals := 21 } [.ref (ad G a), .int push] σ (fun v σ' => v = some (.int (pyOf σ a 6 push)) ∧ σ' = σ) := by
  refine hM_ofF [(0, .ref (ad G a)), (1, .int push)] (by decide +kernel) (Nat.le_of_ble_eq_true rfl) rfl ?_
  intro p e s m args below meth c0 C hin
  refine h_iload_n C 1 dX7_pushY_0 rfl rfl ?_
  refine h_if_ge C 11 dX7_pushY_1 (by decide) (fun c_1 => ?_) (fun c_1 => ?_)
  · refine h_bipush C 10 dX7_pushY_11 (by decide) ?_
    refine h_aload_n C 0 dX7_pushY_13 rfl rfl ?_
    refine gfX7_35_5 C hT dX7_pushY_14 ?_
    refine h_imul C dX7_pushY_17 ?_
    refine h_aload_n C 0 dX7_pushY_18 rfl rfl ?_
    refine h_iload_n C 1 dX7_pushY_19 rfl rfl ?_
    refine h_callU C (m_X5_leans_6 hT) caX7_47_5 kX5 hT ⟨by decide, by decide, by decide, by decide⟩ rfl rfl (Nat.le_of_ble_eq_true rfl) dX7_pushY_20 ?_
    rintro v σ' ⟨rfl, h2⟩; rw [h2]; clear h2
    show hW _ _ _ _ _ _ _ _ _ _ _ _ _ 23 [(0, .ref (ad G a)), (1, .int push)] [.int (leansOf 6 push), .int (10 * (gI σ a 2))] σ 0 0
    refine h_aload_n C 0 dX7_pushY_23 rfl rfl ?_
    refine h_callU C (m_X5_gripped_6 hT) caX7_51_5 kX5 hT ⟨by decide, by decide, by decide, by decide⟩ rfl rfl (Nat.le_of_ble_eq_true rfl) dX7_pushY_24 ?_
    rintro v σ' ⟨rfl, h2⟩; rw [h2]; clear h2
    show hW _ _ _ _ _ _ _ _ _ _ _ _ _ 27 [(0, .ref (ad G a)), (1, .int push)] [.int (gripOf σ a 6), .int (leansOf 6 push), .int (10 * (gI σ a 2))] σ 0 0
    refine h_imul C dX7_pushY_27 ?_
    refine h_aload_n C 0 dX7_pushY_28 rfl rfl ?_
    refine gfX7_29_5 C hT dX7_pushY_29 ?_
    refine h_imul C dX7_pushY_32 ?_
    refine h_iadd C dX7_pushY_33 ?_
    refine h_iret C rfl (Nat.zero_le _) (Nat.zero_le _) dX7_pushY_34 ?_
    refine ⟨?_, rfl⟩
    unfold pyOf
    first | rw [if_neg (Int32.not_lt.mpr c_1)] | rw [if_pos (Int32.not_le.mp c_1)]
  · refine h_aload_n C 0 dX7_pushY_4 rfl rfl ?_
    refine gfX7_35_5 C hT dX7_pushY_5 ?_
    refine h_goto C 34 dX7_pushY_8 (by decide) ?_
    refine h_iret C rfl (Nat.zero_le _) (Nat.zero_le _) dX7_pushY_34 ?_
    refine ⟨?_, rfl⟩
    unfold pyOf
    first | rw [if_neg (Int32.not_lt.mpr c_1)] | rw [if_pos (Int32.not_le.mp c_1)]
set_option maxRecDepth 100000 in
set_option maxHeartbeats 4000000 in
theorem m_X7_turn_6 {G : ha_G} {l : Launch} {σ : ha_St} {a ln : Nat} {push : Int32} (hT : gT σ a = (6, ln)) : hM G l yX7_turn cX7_turn 2 (some .int) { frames := 2, cells := 0, slots := 0, locals := 42 } [.ref (ad G a), .int push] σ (fun v σ' => v = some (.int (tuOf σ a 6 push)) ∧ σ' = σ) := by
  refine hM_ofF [(0, .ref (ad G a)), (1, .int push)] (by decide +kernel) (Nat.le_of_ble_eq_true rfl) rfl ?_
  intro p e s m args below meth c0 C hin
  refine h_aload_n C 0 dX7_turn_0 rfl rfl ?_
  refine gfX7_38_5 C hT dX7_turn_1 ?_
  refine h_aload_n C 0 dX7_turn_4 rfl rfl ?_
  refine h_iload_n C 1 dX7_turn_5 rfl rfl ?_
  refine h_callU C (m_X7_pushY_6 hT) caX7_55_5 kX5 hT ⟨by decide, by decide, by decide, by decide⟩ rfl rfl (Nat.le_of_ble_eq_true rfl) dX7_turn_6 ?_
  rintro v σ' ⟨rfl, h2⟩; rw [h2]; clear h2
  show hW _ _ _ _ _ _ _ _ _ _ _ _ _ 9 [(0, .ref (ad G a)), (1, .int push)] [.int (pyOf σ a 6 push), .int (gI σ a 5)] σ 0 0
  refine h_imul C dX7_turn_9 ?_
  refine h_aload_n C 0 dX7_turn_10 rfl rfl ?_
  refine gfX7_41_5 C hT dX7_turn_11 ?_
  refine h_aload_n C 0 dX7_turn_14 rfl rfl ?_
  refine h_iload_n C 1 dX7_turn_15 rfl rfl ?_
  refine h_callU C (m_X7_pushX_6 hT) caX7_58_5 kX5 hT ⟨by decide, by decide, by decide, by decide⟩ rfl rfl (Nat.le_of_ble_eq_true rfl) dX7_turn_16 ?_
  rintro v σ' ⟨rfl, h2⟩; rw [h2]; clear h2
  show hW _ _ _ _ _ _ _ _ _ _ _ _ _ 19 [(0, .ref (ad G a)), (1, .int push)] [.int (pxOf σ a 6 push), .int (gI σ a 6), .int ((gI σ a 5) * (pyOf σ a 6 push))] σ 0 0
  refine h_imul C dX7_turn_19 ?_
  refine h_isub C dX7_turn_20 ?_
  refine h_iret C rfl (Nat.zero_le _) (Nat.zero_le _) dX7_turn_21 ?_
  exact ⟨rfl, rfl⟩
set_option maxRecDepth 100000 in
set_option maxHeartbeats 4000000 in
theorem m_X7_init_6 {G : ha_G} {l : Launch} {σ : ha_St} {a ln : Nat} {d x y b : Int32} (hd : 0 ≤ d ∧ d < 8) (hT : gT σ a = (6, ln)) : hM G l yX7_init cX7_init 6 none { frames := 1, cells := 0, slots := 0, locals := 20 } [.ref (ad G a), .int d, .int x, .int y, .int b] σ (fun v σ' => v = none ∧ σ' = pinIni σ a d x y b) := by
  refine hM_ofF [(0, .ref (ad G a)), (1, .int d), (2, .int x), (3, .int y), (4, .int b)] (by decide +kernel) (Nat.le_of_ble_eq_true rfl) rfl ?_
  intro p e s m args below meth c0 C hin
  refine h_aload_n C 0 dX7_init_0 rfl rfl ?_
  refine h_objInit C caX7_3 oi_in oi_co (by decide) (by decide) dX7_init_1 ?_
  refine h_aload_n C 0 dX7_init_4 rfl rfl ?_
  refine h_iconst C 0 dX7_init_5 (by decide) ?_
  refine pfX7_9_5 C hT dX7_init_6 ?_
  refine h_aload_n C 0 dX7_init_9 rfl rfl ?_
  refine h_iconst C 0 dX7_init_10 (by decide) ?_
  refine pfX7_15_5 C hT dX7_init_11 ?_
  refine h_iload_n C 1 dX7_init_14 rfl rfl ?_
  refine h_callSN C (m_X10_isDirection1 hd) caX7_18 ⟨by decide, by decide, by decide, by decide⟩ rfl rfl (Nat.le_of_ble_eq_true rfl) dX7_init_15 ?_
  rintro v σ' ⟨rfl, h2⟩; rw [h2]; clear h2
  show hW _ _ _ _ _ _ _ _ _ _ _ _ _ 18 [(0, .ref (ad G a)), (1, .int d), (2, .int x), (3, .int y), (4, .int b)] [.int 1] (sI (sI σ a 4 0) a 7 0) 0 0
  refine h_istore C [(5, .int 1), (0, .ref (ad G a)), (1, .int d), (2, .int x), (3, .int y), (4, .int b)] dX7_init_18 (by decide) rfl ?_
  refine h_aload_n C 1 dX7_init_20 rfl rfl ?_
  refine h_iload_n C 2 dX7_init_21 rfl rfl ?_
  refine pfX7_22_5 C hT hin dX7_init_22 ?_
  refine h_aload_n C 1 dX7_init_25 rfl rfl ?_
  refine h_iload C 0 dX7_init_26 rfl ?_
  refine h_if_eq C 39 dX7_init_28 (by decide) (fun c_28 => ?_) (fun c_28 => ?_)
  · exact absurd c_28 (by decide)
  · refine h_dirXN C lkX7_25 rfl dX7_init_31 ?_
    refine h_iload_n C 2 dX7_init_34 rfl rfl ?_
    refine h_dirXld C (vp8 hd) dX7_init_35 ?_
    refine h_goto C 40 dX7_init_36 (by decide) ?_
    refine pfX7_29_5 C hT hin dX7_init_40 ?_
    refine h_aload_n C 1 dX7_init_43 rfl rfl ?_
    refine h_iload C 0 dX7_init_44 rfl ?_
    refine h_if_eq C 57 dX7_init_46 (by decide) (fun c_46 => ?_) (fun c_46 => ?_)
    · exact absurd c_46 (by decide)
    · refine h_dirYN C lkX7_32 rfl dX7_init_49 ?_
      refine h_iload_n C 2 dX7_init_52 rfl rfl ?_
      refine h_dirYld C (vp8 hd) dX7_init_53 ?_
      refine h_goto C 58 dX7_init_54 (by decide) ?_
      refine pfX7_35_5 C hT hin dX7_init_58 ?_
      refine h_aload_n C 1 dX7_init_61 rfl rfl ?_
      refine h_iload_n C 3 dX7_init_62 rfl rfl ?_
      refine pfX7_38_5 C hT dX7_init_63 ?_
      refine h_aload_n C 1 dX7_init_66 rfl rfl ?_
      refine h_iload_n C 4 dX7_init_67 rfl rfl ?_
      refine pfX7_41_5 C hT dX7_init_68 ?_
      refine h_aload_n C 1 dX7_init_71 rfl rfl ?_
      refine h_iload C 5 dX7_init_72 rfl ?_
      refine pfX7_44_5 C hT hin dX7_init_74 ?_
      refine h_vret C rfl (Nat.zero_le _) (Nat.zero_le _) dX7_init_77 ?_
      exact ⟨rfl, rfl⟩
set_option maxRecDepth 100000 in
set_option maxHeartbeats 4000000 in
theorem m_X5_init_6 {G : ha_G} {l : Launch} {σ : ha_St} {a ln : Nat} {d x y g b : Int32} (hd : 0 ≤ d ∧ d < 8) (hT : gT σ a = (6, ln)) : hM G l yX5_init cX5_init 6 none { frames := 2, cells := 0, slots := 0, locals := 45 } [.ref (ad G a), .int d, .int x, .int y, .int g, .int b] σ (fun v σ' => v = none ∧ σ' = sI (pinIni σ a d x y b) a 8 g) := by
  refine hM_ofF [(0, .ref (ad G a)), (1, .int d), (2, .int x), (3, .int y), (4, .int g), (5, .int b)] (by decide +kernel) (Nat.le_of_ble_eq_true rfl) rfl ?_
  intro p e s m args below meth c0 C hin
  refine h_aload_n C 0 dX5_init_0 rfl rfl ?_
  refine h_iload_n C 1 dX5_init_1 rfl rfl ?_
  refine h_iload_n C 2 dX5_init_2 rfl rfl ?_
  refine h_iload_n C 3 dX5_init_3 rfl rfl ?_
  refine h_iload C 5 dX5_init_4 rfl ?_
  refine h_callI C (m_X7_init_6 hd hT) caX5_3 ⟨by decide, by decide, by decide, by decide⟩ rfl rfl (Nat.le_of_ble_eq_true rfl) dX5_init_6 ?_
  rintro v σ' ⟨rfl, h2⟩; rw [h2]; clear h2
  show hW _ _ _ _ _ _ _ _ _ _ _ _ _ 9 [(0, .ref (ad G a)), (1, .int d), (2, .int x), (3, .int y), (4, .int g), (5, .int b)] [] (pinIni σ a d x y b) 0 0
  refine h_aload_n C 0 dX5_init_9 rfl rfl ?_
  refine h_iload C 4 dX5_init_10 rfl ?_
  refine pfX5_9_5 C hT hin dX5_init_12 ?_
  refine h_vret C rfl (Nat.zero_le _) (Nat.zero_le _) dX5_init_15 ?_
  exact ⟨rfl, rfl⟩
set_option maxRecDepth 100000 in
set_option maxHeartbeats 4000000 in
theorem m_X7_kind_8 {G : ha_G} {l : Launch} {σ : ha_St} {a ln : Nat} (hT : gT σ a = (8, ln)) : hM G l yX7_kind cX7_kind 1 (some .int) { frames := 0, cells := 0, slots := 0, locals := 0 } [.ref (ad G a)] σ (fun v σ' => v = some (.int (kindOf 8)) ∧ σ' = σ) := by
  refine hM_ofF [(0, .ref (ad G a))] (by decide +kernel) (Nat.le_of_ble_eq_true rfl) rfl ?_
  intro p e s m args below meth c0 C hin
  refine h_iconst C 0 dX7_kind_0 (by decide) ?_
  refine h_iret C rfl (Nat.zero_le _) (Nat.zero_le _) dX7_kind_1 ?_
  exact ⟨rfl, rfl⟩
set_option maxRecDepth 100000 in
set_option maxHeartbeats 4000000 in
theorem m_X7_places_8 {G : ha_G} {l : Launch} {σ : ha_St} {a ln : Nat} (hT : gT σ a = (8, ln)) : hM G l yX7_places cX7_places 1 (some .boolean) { frames := 0, cells := 0, slots := 0, locals := 0 } [.ref (ad G a)] σ (fun v σ' => v = some (.int (placesOf 8)) ∧ σ' = σ) := by
  refine hM_ofF [(0, .ref (ad G a))] (by decide +kernel) (Nat.le_of_ble_eq_true rfl) rfl ?_
  intro p e s m args below meth c0 C hin
  refine h_iconst C 1 dX7_places_0 (by decide) ?_
  refine h_zret C rfl (by decide) (Nat.zero_le _) (Nat.zero_le _) dX7_places_1 ?_
  exact ⟨rfl, rfl⟩
set_option maxRecDepth 100000 in
set_option maxHeartbeats 4000000 in
theorem m_X7_pushCount_8 {G : ha_G} {l : Launch} {σ : ha_St} {a ln : Nat} (hT : gT σ a = (8, ln)) : hM G l yX7_pushCount cX7_pushCount 1 (some .int) { frames := 0, cells := 0, slots := 0, locals := 0 } [.ref (ad G a)] σ (fun v σ' => v = some (.int (countOf 8)) ∧ σ' = σ) := by
  refine hM_ofF [(0, .ref (ad G a))] (by decide +kernel) (Nat.le_of_ble_eq_true rfl) rfl ?_
  intro p e s m args below meth c0 C hin
  refine h_iconst C 1 dX7_pushCount_0 (by decide) ?_
  refine h_iret C rfl (Nat.zero_le _) (Nat.zero_le _) dX7_pushCount_1 ?_
  exact ⟨rfl, rfl⟩
set_option maxRecDepth 100000 in
set_option maxHeartbeats 4000000 in
theorem m_X7_gripped_8 {G : ha_G} {l : Launch} {σ : ha_St} {a ln : Nat} (hT : gT σ a = (8, ln)) : hM G l yX7_gripped cX7_gripped 1 (some .int) { frames := 0, cells := 0, slots := 0, locals := 0 } [.ref (ad G a)] σ (fun v σ' => v = some (.int (gripOf σ a 8)) ∧ σ' = σ) := by
  refine hM_ofF [(0, .ref (ad G a))] (by decide +kernel) (Nat.le_of_ble_eq_true rfl) rfl ?_
  intro p e s m args below meth c0 C hin
  refine h_iconst C 0 dX7_gripped_0 (by decide) ?_
  refine h_iret C rfl (Nat.zero_le _) (Nat.zero_le _) dX7_gripped_1 ?_
  exact ⟨rfl, rfl⟩
set_option maxRecDepth 100000 in
set_option maxHeartbeats 4000000 in
theorem m_X7_weighs_8 {G : ha_G} {l : Launch} {σ : ha_St} {a ln : Nat} (hT : gT σ a = (8, ln)) : hM G l yX7_weighs cX7_weighs 1 (some .int) { frames := 0, cells := 0, slots := 0, locals := 0 } [.ref (ad G a)] σ (fun v σ' => v = some (.int (weighsOf σ a 8)) ∧ σ' = σ) := by
  refine hM_ofF [(0, .ref (ad G a))] (by decide +kernel) (Nat.le_of_ble_eq_true rfl) rfl ?_
  intro p e s m args below meth c0 C hin
  refine h_bipush C 10 dX7_weighs_0 (by decide) ?_
  refine h_aload_n C 0 dX7_weighs_2 rfl rfl ?_
  refine gfX7_44_7 C hT dX7_weighs_3 ?_
  refine h_iadd C dX7_weighs_6 ?_
  refine h_iret C rfl (Nat.zero_le _) (Nat.zero_le _) dX7_weighs_7 ?_
  exact ⟨rfl, rfl⟩
set_option maxRecDepth 100000 in
set_option maxHeartbeats 4000000 in
theorem m_X7_leans_8 {G : ha_G} {l : Launch} {σ : ha_St} {a ln : Nat} {push : Int32} (hT : gT σ a = (8, ln)) : hM G l yX7_leans cX7_leans 2 (some .int) { frames := 0, cells := 0, slots := 0, locals := 0 } [.ref (ad G a), .int push] σ (fun v σ' => v = some (.int (leansOf 8 push)) ∧ σ' = σ) := by
  refine hM_ofF [(0, .ref (ad G a)), (1, .int push)] (by decide +kernel) (Nat.le_of_ble_eq_true rfl) rfl ?_
  intro p e s m args below meth c0 C hin
  refine h_iconst C 0 dX7_leans_0 (by decide) ?_
  refine h_iret C rfl (Nat.zero_le _) (Nat.zero_le _) dX7_leans_1 ?_
  exact ⟨rfl, rfl⟩
set_option maxRecDepth 100000 in
set_option maxHeartbeats 4000000 in
theorem m_X7_pushX_8 {G : ha_G} {l : Launch} {σ : ha_St} {a ln : Nat} {push : Int32} (hT : gT σ a = (8, ln)) : hM G l yX7_pushX cX7_pushX 2 (some .int) { frames := 1, cells := 0, slots := 0, locals := 21 } [.ref (ad G a), .int push] σ (fun v σ' => v = some (.int (pxOf σ a 8 push)) ∧ σ' = σ) := by
  refine hM_ofF [(0, .ref (ad G a)), (1, .int push)] (by decide +kernel) (Nat.le_of_ble_eq_true rfl) rfl ?_
  intro p e s m args below meth c0 C hin
  refine h_iload_n C 1 dX7_pushX_0 rfl rfl ?_
  refine h_if_ge C 11 dX7_pushX_1 (by decide) (fun c_1 => ?_) (fun c_1 => ?_)
  · refine h_bipush C 10 dX7_pushX_11 (by decide) ?_
    refine h_aload_n C 0 dX7_pushX_13 rfl rfl ?_
    refine gfX7_29_7 C hT dX7_pushX_14 ?_
    refine h_imul C dX7_pushX_17 ?_
    refine h_aload_n C 0 dX7_pushX_18 rfl rfl ?_
    refine h_iload_n C 1 dX7_pushX_19 rfl rfl ?_
    refine h_callU C (m_X7_leans_8 hT) caX7_47_7 kX7 hT ⟨by decide, by decide, by decide, by decide⟩ rfl rfl (Nat.le_of_ble_eq_true rfl) dX7_pushX_20 ?_
    rintro v σ' ⟨rfl, h2⟩; rw [h2]; clear h2
    show hW _ _ _ _ _ _ _ _ _ _ _ _ _ 23 [(0, .ref (ad G a)), (1, .int push)] [.int (leansOf 8 push), .int (10 * (gI σ a 1))] σ 0 0
    refine h_aload_n C 0 dX7_pushX_23 rfl rfl ?_
    refine h_callU C (m_X7_gripped_8 hT) caX7_51_7 kX7 hT ⟨by decide, by decide, by decide, by decide⟩ rfl rfl (Nat.le_of_ble_eq_true rfl) dX7_pushX_24 ?_
    rintro v σ' ⟨rfl, h2⟩; rw [h2]; clear h2
    show hW _ _ _ _ _ _ _ _ _ _ _ _ _ 27 [(0, .ref (ad G a)), (1, .int push)] [.int (gripOf σ a 8), .int (leansOf 8 push), .int (10 * (gI σ a 1))] σ 0 0
    refine h_imul C dX7_pushX_27 ?_
    refine h_aload_n C 0 dX7_pushX_28 rfl rfl ?_
    refine gfX7_35_7 C hT dX7_pushX_29 ?_
    refine h_imul C dX7_pushX_32 ?_
    refine h_isub C dX7_pushX_33 ?_
    refine h_iret C rfl (Nat.zero_le _) (Nat.zero_le _) dX7_pushX_34 ?_
    refine ⟨?_, rfl⟩
    unfold pxOf
    first | rw [if_neg (Int32.not_lt.mpr c_1)] | rw [if_pos (Int32.not_le.mp c_1)]
  · refine h_aload_n C 0 dX7_pushX_4 rfl rfl ?_
    refine gfX7_29_7 C hT dX7_pushX_5 ?_
    refine h_goto C 34 dX7_pushX_8 (by decide) ?_
    refine h_iret C rfl (Nat.zero_le _) (Nat.zero_le _) dX7_pushX_34 ?_
    refine ⟨?_, rfl⟩
    unfold pxOf
    first | rw [if_neg (Int32.not_lt.mpr c_1)] | rw [if_pos (Int32.not_le.mp c_1)]
set_option maxRecDepth 100000 in
set_option maxHeartbeats 4000000 in
theorem m_X7_pushY_8 {G : ha_G} {l : Launch} {σ : ha_St} {a ln : Nat} {push : Int32} (hT : gT σ a = (8, ln)) : hM G l yX7_pushY cX7_pushY 2 (some .int) { frames := 1, cells := 0, slots := 0, locals := 21 } [.ref (ad G a), .int push] σ (fun v σ' => v = some (.int (pyOf σ a 8 push)) ∧ σ' = σ) := by
  refine hM_ofF [(0, .ref (ad G a)), (1, .int push)] (by decide +kernel) (Nat.le_of_ble_eq_true rfl) rfl ?_
  intro p e s m args below meth c0 C hin
  refine h_iload_n C 1 dX7_pushY_0 rfl rfl ?_
  refine h_if_ge C 11 dX7_pushY_1 (by decide) (fun c_1 => ?_) (fun c_1 => ?_)
  · refine h_bipush C 10 dX7_pushY_11 (by decide) ?_
    refine h_aload_n C 0 dX7_pushY_13 rfl rfl ?_
    refine gfX7_35_7 C hT dX7_pushY_14 ?_
    refine h_imul C dX7_pushY_17 ?_
    refine h_aload_n C 0 dX7_pushY_18 rfl rfl ?_
    refine h_iload_n C 1 dX7_pushY_19 rfl rfl ?_
    refine h_callU C (m_X7_leans_8 hT) caX7_47_7 kX7 hT ⟨by decide, by decide, by decide, by decide⟩ rfl rfl (Nat.le_of_ble_eq_true rfl) dX7_pushY_20 ?_
    rintro v σ' ⟨rfl, h2⟩; rw [h2]; clear h2
    show hW _ _ _ _ _ _ _ _ _ _ _ _ _ 23 [(0, .ref (ad G a)), (1, .int push)] [.int (leansOf 8 push), .int (10 * (gI σ a 2))] σ 0 0
    refine h_aload_n C 0 dX7_pushY_23 rfl rfl ?_
    refine h_callU C (m_X7_gripped_8 hT) caX7_51_7 kX7 hT ⟨by decide, by decide, by decide, by decide⟩ rfl rfl (Nat.le_of_ble_eq_true rfl) dX7_pushY_24 ?_
    rintro v σ' ⟨rfl, h2⟩; rw [h2]; clear h2
    show hW _ _ _ _ _ _ _ _ _ _ _ _ _ 27 [(0, .ref (ad G a)), (1, .int push)] [.int (gripOf σ a 8), .int (leansOf 8 push), .int (10 * (gI σ a 2))] σ 0 0
    refine h_imul C dX7_pushY_27 ?_
    refine h_aload_n C 0 dX7_pushY_28 rfl rfl ?_
    refine gfX7_29_7 C hT dX7_pushY_29 ?_
    refine h_imul C dX7_pushY_32 ?_
    refine h_iadd C dX7_pushY_33 ?_
    refine h_iret C rfl (Nat.zero_le _) (Nat.zero_le _) dX7_pushY_34 ?_
    refine ⟨?_, rfl⟩
    unfold pyOf
    first | rw [if_neg (Int32.not_lt.mpr c_1)] | rw [if_pos (Int32.not_le.mp c_1)]
  · refine h_aload_n C 0 dX7_pushY_4 rfl rfl ?_
    refine gfX7_35_7 C hT dX7_pushY_5 ?_
    refine h_goto C 34 dX7_pushY_8 (by decide) ?_
    refine h_iret C rfl (Nat.zero_le _) (Nat.zero_le _) dX7_pushY_34 ?_
    refine ⟨?_, rfl⟩
    unfold pyOf
    first | rw [if_neg (Int32.not_lt.mpr c_1)] | rw [if_pos (Int32.not_le.mp c_1)]
set_option maxRecDepth 100000 in
set_option maxHeartbeats 4000000 in
theorem m_X7_turn_8 {G : ha_G} {l : Launch} {σ : ha_St} {a ln : Nat} {push : Int32} (hT : gT σ a = (8, ln)) : hM G l yX7_turn cX7_turn 2 (some .int) { frames := 2, cells := 0, slots := 0, locals := 42 } [.ref (ad G a), .int push] σ (fun v σ' => v = some (.int (tuOf σ a 8 push)) ∧ σ' = σ) := by
  refine hM_ofF [(0, .ref (ad G a)), (1, .int push)] (by decide +kernel) (Nat.le_of_ble_eq_true rfl) rfl ?_
  intro p e s m args below meth c0 C hin
  refine h_aload_n C 0 dX7_turn_0 rfl rfl ?_
  refine gfX7_38_7 C hT dX7_turn_1 ?_
  refine h_aload_n C 0 dX7_turn_4 rfl rfl ?_
  refine h_iload_n C 1 dX7_turn_5 rfl rfl ?_
  refine h_callU C (m_X7_pushY_8 hT) caX7_55_7 kX7 hT ⟨by decide, by decide, by decide, by decide⟩ rfl rfl (Nat.le_of_ble_eq_true rfl) dX7_turn_6 ?_
  rintro v σ' ⟨rfl, h2⟩; rw [h2]; clear h2
  show hW _ _ _ _ _ _ _ _ _ _ _ _ _ 9 [(0, .ref (ad G a)), (1, .int push)] [.int (pyOf σ a 8 push), .int (gI σ a 5)] σ 0 0
  refine h_imul C dX7_turn_9 ?_
  refine h_aload_n C 0 dX7_turn_10 rfl rfl ?_
  refine gfX7_41_7 C hT dX7_turn_11 ?_
  refine h_aload_n C 0 dX7_turn_14 rfl rfl ?_
  refine h_iload_n C 1 dX7_turn_15 rfl rfl ?_
  refine h_callU C (m_X7_pushX_8 hT) caX7_58_7 kX7 hT ⟨by decide, by decide, by decide, by decide⟩ rfl rfl (Nat.le_of_ble_eq_true rfl) dX7_turn_16 ?_
  rintro v σ' ⟨rfl, h2⟩; rw [h2]; clear h2
  show hW _ _ _ _ _ _ _ _ _ _ _ _ _ 19 [(0, .ref (ad G a)), (1, .int push)] [.int (pxOf σ a 8 push), .int (gI σ a 6), .int ((gI σ a 5) * (pyOf σ a 8 push))] σ 0 0
  refine h_imul C dX7_turn_19 ?_
  refine h_isub C dX7_turn_20 ?_
  refine h_iret C rfl (Nat.zero_le _) (Nat.zero_le _) dX7_turn_21 ?_
  exact ⟨rfl, rfl⟩
set_option maxRecDepth 100000 in
set_option maxHeartbeats 4000000 in
theorem m_X7_init_8 {G : ha_G} {l : Launch} {σ : ha_St} {a ln : Nat} {d x y b : Int32} (hd : 0 ≤ d ∧ d < 8) (hT : gT σ a = (8, ln)) : hM G l yX7_init cX7_init 6 none { frames := 1, cells := 0, slots := 0, locals := 20 } [.ref (ad G a), .int d, .int x, .int y, .int b] σ (fun v σ' => v = none ∧ σ' = pinIni σ a d x y b) := by
  refine hM_ofF [(0, .ref (ad G a)), (1, .int d), (2, .int x), (3, .int y), (4, .int b)] (by decide +kernel) (Nat.le_of_ble_eq_true rfl) rfl ?_
  intro p e s m args below meth c0 C hin
  refine h_aload_n C 0 dX7_init_0 rfl rfl ?_
  refine h_objInit C caX7_3 oi_in oi_co (by decide) (by decide) dX7_init_1 ?_
  refine h_aload_n C 0 dX7_init_4 rfl rfl ?_
  refine h_iconst C 0 dX7_init_5 (by decide) ?_
  refine pfX7_9_7 C hT dX7_init_6 ?_
  refine h_aload_n C 0 dX7_init_9 rfl rfl ?_
  refine h_iconst C 0 dX7_init_10 (by decide) ?_
  refine pfX7_15_7 C hT dX7_init_11 ?_
  refine h_iload_n C 1 dX7_init_14 rfl rfl ?_
  refine h_callSN C (m_X10_isDirection1 hd) caX7_18 ⟨by decide, by decide, by decide, by decide⟩ rfl rfl (Nat.le_of_ble_eq_true rfl) dX7_init_15 ?_
  rintro v σ' ⟨rfl, h2⟩; rw [h2]; clear h2
  show hW _ _ _ _ _ _ _ _ _ _ _ _ _ 18 [(0, .ref (ad G a)), (1, .int d), (2, .int x), (3, .int y), (4, .int b)] [.int 1] (sI (sI σ a 4 0) a 7 0) 0 0
  refine h_istore C [(5, .int 1), (0, .ref (ad G a)), (1, .int d), (2, .int x), (3, .int y), (4, .int b)] dX7_init_18 (by decide) rfl ?_
  refine h_aload_n C 1 dX7_init_20 rfl rfl ?_
  refine h_iload_n C 2 dX7_init_21 rfl rfl ?_
  refine pfX7_22_7 C hT hin dX7_init_22 ?_
  refine h_aload_n C 1 dX7_init_25 rfl rfl ?_
  refine h_iload C 0 dX7_init_26 rfl ?_
  refine h_if_eq C 39 dX7_init_28 (by decide) (fun c_28 => ?_) (fun c_28 => ?_)
  · exact absurd c_28 (by decide)
  · refine h_dirXN C lkX7_25 rfl dX7_init_31 ?_
    refine h_iload_n C 2 dX7_init_34 rfl rfl ?_
    refine h_dirXld C (vp8 hd) dX7_init_35 ?_
    refine h_goto C 40 dX7_init_36 (by decide) ?_
    refine pfX7_29_7 C hT hin dX7_init_40 ?_
    refine h_aload_n C 1 dX7_init_43 rfl rfl ?_
    refine h_iload C 0 dX7_init_44 rfl ?_
    refine h_if_eq C 57 dX7_init_46 (by decide) (fun c_46 => ?_) (fun c_46 => ?_)
    · exact absurd c_46 (by decide)
    · refine h_dirYN C lkX7_32 rfl dX7_init_49 ?_
      refine h_iload_n C 2 dX7_init_52 rfl rfl ?_
      refine h_dirYld C (vp8 hd) dX7_init_53 ?_
      refine h_goto C 58 dX7_init_54 (by decide) ?_
      refine pfX7_35_7 C hT hin dX7_init_58 ?_
      refine h_aload_n C 1 dX7_init_61 rfl rfl ?_
      refine h_iload_n C 3 dX7_init_62 rfl rfl ?_
      refine pfX7_38_7 C hT dX7_init_63 ?_
      refine h_aload_n C 1 dX7_init_66 rfl rfl ?_
      refine h_iload_n C 4 dX7_init_67 rfl rfl ?_
      refine pfX7_41_7 C hT dX7_init_68 ?_
      refine h_aload_n C 1 dX7_init_71 rfl rfl ?_
      refine h_iload C 5 dX7_init_72 rfl ?_
      refine pfX7_44_7 C hT hin dX7_init_74 ?_
      refine h_vret C rfl (Nat.zero_le _) (Nat.zero_le _) dX7_init_77 ?_
      exact ⟨rfl, rfl⟩
section
variable {p : Program} {l : Launch} {e : Env} {R : Room} {s : State} {m : MethodId} {args : Array Value} {below : List Frame} {meth : Method} {c : Code} {Q : State → Prop} {G : ha_G} {cc : ByteArray} {ret : Option FieldType} {nL pc : Nat} {lv : List (Nat × Value)} {st : List Value} {σ : ha_St} {k n : Nat}
theorem cvX2_47 (C : hX p s m args meth c G cc RX2 nL ret) {a t ln : Nat} {push : Int32} (hT : gT σ a = (t, ln)) (ht : pT t) (hf : 2 ≤ R.frames) (hl : 42 ≤ R.locals) (hk : k ≤ R.cells) (hn : n ≤ R.slots) (hw : (st.map fun v => v.category).sum ≤ 8) (hd : decode cc pc = .ok (.invokevirtual 47, 3)) (kk : hW p l e R s m args below meth c Q G nL (pc + 3) lv (.int (pxOf σ a t push) :: st) σ k n) : hW p l e R s m args below meth c Q G nL pc lv (.int push :: .ref (ad G a) :: st) σ k n := by
  rcases ht with rfl | rfl | rfl | rfl
  · refine h_callU C (av := [.int push]) (rest := st) (m_X7_pushX_1 hT) caX2_47_0 kX0 hT ⟨(by show 1 + 1 ≤ _; omega), (by show 8 + (2 + 11) + 21 ≤ _; omega), hk, hn⟩ rfl rfl hw hd ?_
    rintro v σ' ⟨rfl, h2⟩
    rw [h2]
    exact kk
  · refine h_callU C (av := [.int push]) (rest := st) (m_X7_pushX_2 hT) caX2_47_1 kX1 hT ⟨(by show 1 + 1 ≤ _; omega), (by show 8 + (2 + 11) + 21 ≤ _; omega), hk, hn⟩ rfl rfl hw hd ?_
    rintro v σ' ⟨rfl, h2⟩
    rw [h2]
    exact kk
  · refine h_callU C (av := [.int push]) (rest := st) (m_X7_pushX_6 hT) caX2_47_5 kX5 hT ⟨(by show 1 + 1 ≤ _; omega), (by show 8 + (2 + 11) + 21 ≤ _; omega), hk, hn⟩ rfl rfl hw hd ?_
    rintro v σ' ⟨rfl, h2⟩
    rw [h2]
    exact kk
  · refine h_callU C (av := [.int push]) (rest := st) (m_X7_pushX_8 hT) caX2_47_7 kX7 hT ⟨(by show 1 + 1 ≤ _; omega), (by show 8 + (2 + 11) + 21 ≤ _; omega), hk, hn⟩ rfl rfl hw hd ?_
    rintro v σ' ⟨rfl, h2⟩
    rw [h2]
    exact kk
theorem cvX2_53 (C : hX p s m args meth c G cc RX2 nL ret) {a t ln : Nat} {push : Int32} (hT : gT σ a = (t, ln)) (ht : pT t) (hf : 2 ≤ R.frames) (hl : 42 ≤ R.locals) (hk : k ≤ R.cells) (hn : n ≤ R.slots) (hw : (st.map fun v => v.category).sum ≤ 8) (hd : decode cc pc = .ok (.invokevirtual 53, 3)) (kk : hW p l e R s m args below meth c Q G nL (pc + 3) lv (.int (pyOf σ a t push) :: st) σ k n) : hW p l e R s m args below meth c Q G nL pc lv (.int push :: .ref (ad G a) :: st) σ k n := by
  rcases ht with rfl | rfl | rfl | rfl
  · refine h_callU C (av := [.int push]) (rest := st) (m_X7_pushY_1 hT) caX2_53_0 kX0 hT ⟨(by show 1 + 1 ≤ _; omega), (by show 8 + (2 + 11) + 21 ≤ _; omega), hk, hn⟩ rfl rfl hw hd ?_
    rintro v σ' ⟨rfl, h2⟩
    rw [h2]
    exact kk
  · refine h_callU C (av := [.int push]) (rest := st) (m_X7_pushY_2 hT) caX2_53_1 kX1 hT ⟨(by show 1 + 1 ≤ _; omega), (by show 8 + (2 + 11) + 21 ≤ _; omega), hk, hn⟩ rfl rfl hw hd ?_
    rintro v σ' ⟨rfl, h2⟩
    rw [h2]
    exact kk
  · refine h_callU C (av := [.int push]) (rest := st) (m_X7_pushY_6 hT) caX2_53_5 kX5 hT ⟨(by show 1 + 1 ≤ _; omega), (by show 8 + (2 + 11) + 21 ≤ _; omega), hk, hn⟩ rfl rfl hw hd ?_
    rintro v σ' ⟨rfl, h2⟩
    rw [h2]
    exact kk
  · refine h_callU C (av := [.int push]) (rest := st) (m_X7_pushY_8 hT) caX2_53_7 kX7 hT ⟨(by show 1 + 1 ≤ _; omega), (by show 8 + (2 + 11) + 21 ≤ _; omega), hk, hn⟩ rfl rfl hw hd ?_
    rintro v σ' ⟨rfl, h2⟩
    rw [h2]
    exact kk
theorem cvX2_56 (C : hX p s m args meth c G cc RX2 nL ret) {a t ln : Nat} {push : Int32} (hT : gT σ a = (t, ln)) (ht : pT t) (hf : 3 ≤ R.frames) (hl : 63 ≤ R.locals) (hk : k ≤ R.cells) (hn : n ≤ R.slots) (hw : (st.map fun v => v.category).sum ≤ 8) (hd : decode cc pc = .ok (.invokevirtual 56, 3)) (kk : hW p l e R s m args below meth c Q G nL (pc + 3) lv (.int (tuOf σ a t push) :: st) σ k n) : hW p l e R s m args below meth c Q G nL pc lv (.int push :: .ref (ad G a) :: st) σ k n := by
  rcases ht with rfl | rfl | rfl | rfl
  · refine h_callU C (av := [.int push]) (rest := st) (m_X7_turn_1 hT) caX2_56_0 kX0 hT ⟨(by show 2 + 1 ≤ _; omega), (by show 8 + (2 + 11) + 42 ≤ _; omega), hk, hn⟩ rfl rfl hw hd ?_
    rintro v σ' ⟨rfl, h2⟩
    rw [h2]
    exact kk
  · refine h_callU C (av := [.int push]) (rest := st) (m_X7_turn_2 hT) caX2_56_1 kX1 hT ⟨(by show 2 + 1 ≤ _; omega), (by show 8 + (2 + 11) + 42 ≤ _; omega), hk, hn⟩ rfl rfl hw hd ?_
    rintro v σ' ⟨rfl, h2⟩
    rw [h2]
    exact kk
  · refine h_callU C (av := [.int push]) (rest := st) (m_X7_turn_6 hT) caX2_56_5 kX5 hT ⟨(by show 2 + 1 ≤ _; omega), (by show 8 + (2 + 11) + 42 ≤ _; omega), hk, hn⟩ rfl rfl hw hd ?_
    rintro v σ' ⟨rfl, h2⟩
    rw [h2]
    exact kk
  · refine h_callU C (av := [.int push]) (rest := st) (m_X7_turn_8 hT) caX2_56_7 kX7 hT ⟨(by show 2 + 1 ≤ _; omega), (by show 8 + (2 + 11) + 42 ≤ _; omega), hk, hn⟩ rfl rfl hw hd ?_
    rintro v σ' ⟨rfl, h2⟩
    rw [h2]
    exact kk
theorem cvX4_71 (C : hX p s m args meth c G cc RX4 nL ret) {a t ln : Nat} {push : Int32} (hT : gT σ a = (t, ln)) (ht : pT t) (hf : 2 ≤ R.frames) (hl : 42 ≤ R.locals) (hk : k ≤ R.cells) (hn : n ≤ R.slots) (hw : (st.map fun v => v.category).sum ≤ 8) (hd : decode cc pc = .ok (.invokevirtual 71, 3)) (kk : hW p l e R s m args below meth c Q G nL (pc + 3) lv (.int (pxOf σ a t push) :: st) σ k n) : hW p l e R s m args below meth c Q G nL pc lv (.int push :: .ref (ad G a) :: st) σ k n := by
  rcases ht with rfl | rfl | rfl | rfl
  · refine h_callU C (av := [.int push]) (rest := st) (m_X7_pushX_1 hT) caX4_71_0 kX0 hT ⟨(by show 1 + 1 ≤ _; omega), (by show 8 + (2 + 11) + 21 ≤ _; omega), hk, hn⟩ rfl rfl hw hd ?_
    rintro v σ' ⟨rfl, h2⟩
    rw [h2]
    exact kk
  · refine h_callU C (av := [.int push]) (rest := st) (m_X7_pushX_2 hT) caX4_71_1 kX1 hT ⟨(by show 1 + 1 ≤ _; omega), (by show 8 + (2 + 11) + 21 ≤ _; omega), hk, hn⟩ rfl rfl hw hd ?_
    rintro v σ' ⟨rfl, h2⟩
    rw [h2]
    exact kk
  · refine h_callU C (av := [.int push]) (rest := st) (m_X7_pushX_6 hT) caX4_71_5 kX5 hT ⟨(by show 1 + 1 ≤ _; omega), (by show 8 + (2 + 11) + 21 ≤ _; omega), hk, hn⟩ rfl rfl hw hd ?_
    rintro v σ' ⟨rfl, h2⟩
    rw [h2]
    exact kk
  · refine h_callU C (av := [.int push]) (rest := st) (m_X7_pushX_8 hT) caX4_71_7 kX7 hT ⟨(by show 1 + 1 ≤ _; omega), (by show 8 + (2 + 11) + 21 ≤ _; omega), hk, hn⟩ rfl rfl hw hd ?_
    rintro v σ' ⟨rfl, h2⟩
    rw [h2]
    exact kk
theorem cvX4_75 (C : hX p s m args meth c G cc RX4 nL ret) {a t ln : Nat} {push : Int32} (hT : gT σ a = (t, ln)) (ht : pT t) (hf : 2 ≤ R.frames) (hl : 42 ≤ R.locals) (hk : k ≤ R.cells) (hn : n ≤ R.slots) (hw : (st.map fun v => v.category).sum ≤ 8) (hd : decode cc pc = .ok (.invokevirtual 75, 3)) (kk : hW p l e R s m args below meth c Q G nL (pc + 3) lv (.int (pyOf σ a t push) :: st) σ k n) : hW p l e R s m args below meth c Q G nL pc lv (.int push :: .ref (ad G a) :: st) σ k n := by
  rcases ht with rfl | rfl | rfl | rfl
  · refine h_callU C (av := [.int push]) (rest := st) (m_X7_pushY_1 hT) caX4_75_0 kX0 hT ⟨(by show 1 + 1 ≤ _; omega), (by show 8 + (2 + 11) + 21 ≤ _; omega), hk, hn⟩ rfl rfl hw hd ?_
    rintro v σ' ⟨rfl, h2⟩
    rw [h2]
    exact kk
  · refine h_callU C (av := [.int push]) (rest := st) (m_X7_pushY_2 hT) caX4_75_1 kX1 hT ⟨(by show 1 + 1 ≤ _; omega), (by show 8 + (2 + 11) + 21 ≤ _; omega), hk, hn⟩ rfl rfl hw hd ?_
    rintro v σ' ⟨rfl, h2⟩
    rw [h2]
    exact kk
  · refine h_callU C (av := [.int push]) (rest := st) (m_X7_pushY_6 hT) caX4_75_5 kX5 hT ⟨(by show 1 + 1 ≤ _; omega), (by show 8 + (2 + 11) + 21 ≤ _; omega), hk, hn⟩ rfl rfl hw hd ?_
    rintro v σ' ⟨rfl, h2⟩
    rw [h2]
    exact kk
  · refine h_callU C (av := [.int push]) (rest := st) (m_X7_pushY_8 hT) caX4_75_7 kX7 hT ⟨(by show 1 + 1 ≤ _; omega), (by show 8 + (2 + 11) + 21 ≤ _; omega), hk, hn⟩ rfl rfl hw hd ?_
    rintro v σ' ⟨rfl, h2⟩
    rw [h2]
    exact kk
theorem cvX4_78 (C : hX p s m args meth c G cc RX4 nL ret) {a t ln : Nat} {push : Int32} (hT : gT σ a = (t, ln)) (ht : pT t) (hf : 3 ≤ R.frames) (hl : 63 ≤ R.locals) (hk : k ≤ R.cells) (hn : n ≤ R.slots) (hw : (st.map fun v => v.category).sum ≤ 8) (hd : decode cc pc = .ok (.invokevirtual 78, 3)) (kk : hW p l e R s m args below meth c Q G nL (pc + 3) lv (.int (tuOf σ a t push) :: st) σ k n) : hW p l e R s m args below meth c Q G nL pc lv (.int push :: .ref (ad G a) :: st) σ k n := by
  rcases ht with rfl | rfl | rfl | rfl
  · refine h_callU C (av := [.int push]) (rest := st) (m_X7_turn_1 hT) caX4_78_0 kX0 hT ⟨(by show 2 + 1 ≤ _; omega), (by show 8 + (2 + 11) + 42 ≤ _; omega), hk, hn⟩ rfl rfl hw hd ?_
    rintro v σ' ⟨rfl, h2⟩
    rw [h2]
    exact kk
  · refine h_callU C (av := [.int push]) (rest := st) (m_X7_turn_2 hT) caX4_78_1 kX1 hT ⟨(by show 2 + 1 ≤ _; omega), (by show 8 + (2 + 11) + 42 ≤ _; omega), hk, hn⟩ rfl rfl hw hd ?_
    rintro v σ' ⟨rfl, h2⟩
    rw [h2]
    exact kk
  · refine h_callU C (av := [.int push]) (rest := st) (m_X7_turn_6 hT) caX4_78_5 kX5 hT ⟨(by show 2 + 1 ≤ _; omega), (by show 8 + (2 + 11) + 42 ≤ _; omega), hk, hn⟩ rfl rfl hw hd ?_
    rintro v σ' ⟨rfl, h2⟩
    rw [h2]
    exact kk
  · refine h_callU C (av := [.int push]) (rest := st) (m_X7_turn_8 hT) caX4_78_7 kX7 hT ⟨(by show 2 + 1 ≤ _; omega), (by show 8 + (2 + 11) + 42 ≤ _; omega), hk, hn⟩ rfl rfl hw hd ?_
    rintro v σ' ⟨rfl, h2⟩
    rw [h2]
    exact kk
theorem cvX7_47 (C : hX p s m args meth c G cc RX7 nL ret) {a t ln : Nat} {push : Int32} (hT : gT σ a = (t, ln)) (ht : pT t) (hf : 1 ≤ R.frames) (hl : 21 ≤ R.locals) (hk : k ≤ R.cells) (hn : n ≤ R.slots) (hw : (st.map fun v => v.category).sum ≤ 8) (hd : decode cc pc = .ok (.invokevirtual 47, 3)) (kk : hW p l e R s m args below meth c Q G nL (pc + 3) lv (.int (leansOf t push) :: st) σ k n) : hW p l e R s m args below meth c Q G nL pc lv (.int push :: .ref (ad G a) :: st) σ k n := by
  rcases ht with rfl | rfl | rfl | rfl
  · refine h_callU C (av := [.int push]) (rest := st) (m_X0_leans_1 hT) caX7_47_0 kX0 hT ⟨(by show 0 + 1 ≤ _; omega), (by show 8 + (2 + 11) + 0 ≤ _; omega), hk, hn⟩ rfl rfl hw hd ?_
    rintro v σ' ⟨rfl, h2⟩
    rw [h2]
    exact kk
  · refine h_callU C (av := [.int push]) (rest := st) (m_X7_leans_2 hT) caX7_47_1 kX1 hT ⟨(by show 0 + 1 ≤ _; omega), (by show 8 + (2 + 11) + 0 ≤ _; omega), hk, hn⟩ rfl rfl hw hd ?_
    rintro v σ' ⟨rfl, h2⟩
    rw [h2]
    exact kk
  · refine h_callU C (av := [.int push]) (rest := st) (m_X5_leans_6 hT) caX7_47_5 kX5 hT ⟨(by show 0 + 1 ≤ _; omega), (by show 8 + (2 + 11) + 0 ≤ _; omega), hk, hn⟩ rfl rfl hw hd ?_
    rintro v σ' ⟨rfl, h2⟩
    rw [h2]
    exact kk
  · refine h_callU C (av := [.int push]) (rest := st) (m_X7_leans_8 hT) caX7_47_7 kX7 hT ⟨(by show 0 + 1 ≤ _; omega), (by show 8 + (2 + 11) + 0 ≤ _; omega), hk, hn⟩ rfl rfl hw hd ?_
    rintro v σ' ⟨rfl, h2⟩
    rw [h2]
    exact kk
theorem cvX7_51 (C : hX p s m args meth c G cc RX7 nL ret) {a t ln : Nat} (hT : gT σ a = (t, ln)) (ht : pT t) (hf : 1 ≤ R.frames) (hl : 20 ≤ R.locals) (hk : k ≤ R.cells) (hn : n ≤ R.slots) (hw : (st.map fun v => v.category).sum ≤ 8) (hd : decode cc pc = .ok (.invokevirtual 51, 3)) (kk : hW p l e R s m args below meth c Q G nL (pc + 3) lv (.int (gripOf σ a t) :: st) σ k n) : hW p l e R s m args below meth c Q G nL pc lv (.ref (ad G a) :: st) σ k n := by
  rcases ht with rfl | rfl | rfl | rfl
  · refine h_callU C (av := []) (rest := st) (m_X5_gripped_1 hT) caX7_51_0 kX0 hT ⟨(by show 0 + 1 ≤ _; omega), (by show 8 + (1 + 11) + 0 ≤ _; omega), hk, hn⟩ rfl rfl hw hd ?_
    rintro v σ' ⟨rfl, h2⟩
    rw [h2]
    exact kk
  · refine h_callU C (av := []) (rest := st) (m_X7_gripped_2 hT) caX7_51_1 kX1 hT ⟨(by show 0 + 1 ≤ _; omega), (by show 8 + (1 + 11) + 0 ≤ _; omega), hk, hn⟩ rfl rfl hw hd ?_
    rintro v σ' ⟨rfl, h2⟩
    rw [h2]
    exact kk
  · refine h_callU C (av := []) (rest := st) (m_X5_gripped_6 hT) caX7_51_5 kX5 hT ⟨(by show 0 + 1 ≤ _; omega), (by show 8 + (1 + 11) + 0 ≤ _; omega), hk, hn⟩ rfl rfl hw hd ?_
    rintro v σ' ⟨rfl, h2⟩
    rw [h2]
    exact kk
  · refine h_callU C (av := []) (rest := st) (m_X7_gripped_8 hT) caX7_51_7 kX7 hT ⟨(by show 0 + 1 ≤ _; omega), (by show 8 + (1 + 11) + 0 ≤ _; omega), hk, hn⟩ rfl rfl hw hd ?_
    rintro v σ' ⟨rfl, h2⟩
    rw [h2]
    exact kk
theorem cvX7_55 (C : hX p s m args meth c G cc RX7 nL ret) {a t ln : Nat} {push : Int32} (hT : gT σ a = (t, ln)) (ht : pT t) (hf : 2 ≤ R.frames) (hl : 42 ≤ R.locals) (hk : k ≤ R.cells) (hn : n ≤ R.slots) (hw : (st.map fun v => v.category).sum ≤ 8) (hd : decode cc pc = .ok (.invokevirtual 55, 3)) (kk : hW p l e R s m args below meth c Q G nL (pc + 3) lv (.int (pyOf σ a t push) :: st) σ k n) : hW p l e R s m args below meth c Q G nL pc lv (.int push :: .ref (ad G a) :: st) σ k n := by
  rcases ht with rfl | rfl | rfl | rfl
  · refine h_callU C (av := [.int push]) (rest := st) (m_X7_pushY_1 hT) caX7_55_0 kX0 hT ⟨(by show 1 + 1 ≤ _; omega), (by show 8 + (2 + 11) + 21 ≤ _; omega), hk, hn⟩ rfl rfl hw hd ?_
    rintro v σ' ⟨rfl, h2⟩
    rw [h2]
    exact kk
  · refine h_callU C (av := [.int push]) (rest := st) (m_X7_pushY_2 hT) caX7_55_1 kX1 hT ⟨(by show 1 + 1 ≤ _; omega), (by show 8 + (2 + 11) + 21 ≤ _; omega), hk, hn⟩ rfl rfl hw hd ?_
    rintro v σ' ⟨rfl, h2⟩
    rw [h2]
    exact kk
  · refine h_callU C (av := [.int push]) (rest := st) (m_X7_pushY_6 hT) caX7_55_5 kX5 hT ⟨(by show 1 + 1 ≤ _; omega), (by show 8 + (2 + 11) + 21 ≤ _; omega), hk, hn⟩ rfl rfl hw hd ?_
    rintro v σ' ⟨rfl, h2⟩
    rw [h2]
    exact kk
  · refine h_callU C (av := [.int push]) (rest := st) (m_X7_pushY_8 hT) caX7_55_7 kX7 hT ⟨(by show 1 + 1 ≤ _; omega), (by show 8 + (2 + 11) + 21 ≤ _; omega), hk, hn⟩ rfl rfl hw hd ?_
    rintro v σ' ⟨rfl, h2⟩
    rw [h2]
    exact kk
theorem cvX7_58 (C : hX p s m args meth c G cc RX7 nL ret) {a t ln : Nat} {push : Int32} (hT : gT σ a = (t, ln)) (ht : pT t) (hf : 2 ≤ R.frames) (hl : 42 ≤ R.locals) (hk : k ≤ R.cells) (hn : n ≤ R.slots) (hw : (st.map fun v => v.category).sum ≤ 8) (hd : decode cc pc = .ok (.invokevirtual 58, 3)) (kk : hW p l e R s m args below meth c Q G nL (pc + 3) lv (.int (pxOf σ a t push) :: st) σ k n) : hW p l e R s m args below meth c Q G nL pc lv (.int push :: .ref (ad G a) :: st) σ k n := by
  rcases ht with rfl | rfl | rfl | rfl
  · refine h_callU C (av := [.int push]) (rest := st) (m_X7_pushX_1 hT) caX7_58_0 kX0 hT ⟨(by show 1 + 1 ≤ _; omega), (by show 8 + (2 + 11) + 21 ≤ _; omega), hk, hn⟩ rfl rfl hw hd ?_
    rintro v σ' ⟨rfl, h2⟩
    rw [h2]
    exact kk
  · refine h_callU C (av := [.int push]) (rest := st) (m_X7_pushX_2 hT) caX7_58_1 kX1 hT ⟨(by show 1 + 1 ≤ _; omega), (by show 8 + (2 + 11) + 21 ≤ _; omega), hk, hn⟩ rfl rfl hw hd ?_
    rintro v σ' ⟨rfl, h2⟩
    rw [h2]
    exact kk
  · refine h_callU C (av := [.int push]) (rest := st) (m_X7_pushX_6 hT) caX7_58_5 kX5 hT ⟨(by show 1 + 1 ≤ _; omega), (by show 8 + (2 + 11) + 21 ≤ _; omega), hk, hn⟩ rfl rfl hw hd ?_
    rintro v σ' ⟨rfl, h2⟩
    rw [h2]
    exact kk
  · refine h_callU C (av := [.int push]) (rest := st) (m_X7_pushX_8 hT) caX7_58_7 kX7 hT ⟨(by show 1 + 1 ≤ _; omega), (by show 8 + (2 + 11) + 21 ≤ _; omega), hk, hn⟩ rfl rfl hw hd ?_
    rintro v σ' ⟨rfl, h2⟩
    rw [h2]
    exact kk
theorem cvX10_100 (C : hX p s m args meth c G cc RX10 nL ret) {a t ln : Nat} (hT : gT σ a = (t, ln)) (ht : pT t) (hf : 1 ≤ R.frames) (hl : 20 ≤ R.locals) (hk : k ≤ R.cells) (hn : n ≤ R.slots) (hw : (st.map fun v => v.category).sum ≤ 8) (hd : decode cc pc = .ok (.invokevirtual 100, 3)) (kk : hW p l e R s m args below meth c Q G nL (pc + 3) lv (.int (placesOf t) :: st) σ k n) : hW p l e R s m args below meth c Q G nL pc lv (.ref (ad G a) :: st) σ k n := by
  rcases ht with rfl | rfl | rfl | rfl
  · refine h_callU C (av := []) (rest := st) (m_X7_places_1 hT) caX10_100_0 kX0 hT ⟨(by show 0 + 1 ≤ _; omega), (by show 8 + (1 + 11) + 0 ≤ _; omega), hk, hn⟩ rfl rfl hw hd ?_
    rintro v σ' ⟨rfl, h2⟩
    rw [h2]
    exact kk
  · refine h_callU C (av := []) (rest := st) (m_X1_places_2 hT) caX10_100_1 kX1 hT ⟨(by show 0 + 1 ≤ _; omega), (by show 8 + (1 + 11) + 0 ≤ _; omega), hk, hn⟩ rfl rfl hw hd ?_
    rintro v σ' ⟨rfl, h2⟩
    rw [h2]
    exact kk
  · refine h_callU C (av := []) (rest := st) (m_X7_places_6 hT) caX10_100_5 kX5 hT ⟨(by show 0 + 1 ≤ _; omega), (by show 8 + (1 + 11) + 0 ≤ _; omega), hk, hn⟩ rfl rfl hw hd ?_
    rintro v σ' ⟨rfl, h2⟩
    rw [h2]
    exact kk
  · refine h_callU C (av := []) (rest := st) (m_X7_places_8 hT) caX10_100_7 kX7 hT ⟨(by show 0 + 1 ≤ _; omega), (by show 8 + (1 + 11) + 0 ≤ _; omega), hk, hn⟩ rfl rfl hw hd ?_
    rintro v σ' ⟨rfl, h2⟩
    rw [h2]
    exact kk
theorem cvX10_107 (C : hX p s m args meth c G cc RX10 nL ret) {a t ln : Nat} (hT : gT σ a = (t, ln)) (ht : pT t) (hf : 1 ≤ R.frames) (hl : 20 ≤ R.locals) (hk : k ≤ R.cells) (hn : n ≤ R.slots) (hw : (st.map fun v => v.category).sum ≤ 8) (hd : decode cc pc = .ok (.invokevirtual 107, 3)) (kk : hW p l e R s m args below meth c Q G nL (pc + 3) lv (.int (kindOf t) :: st) σ k n) : hW p l e R s m args below meth c Q G nL pc lv (.ref (ad G a) :: st) σ k n := by
  rcases ht with rfl | rfl | rfl | rfl
  · refine h_callU C (av := []) (rest := st) (m_X0_kind_1 hT) caX10_107_0 kX0 hT ⟨(by show 0 + 1 ≤ _; omega), (by show 8 + (1 + 11) + 0 ≤ _; omega), hk, hn⟩ rfl rfl hw hd ?_
    rintro v σ' ⟨rfl, h2⟩
    rw [h2]
    exact kk
  · refine h_callU C (av := []) (rest := st) (m_X1_kind_2 hT) caX10_107_1 kX1 hT ⟨(by show 0 + 1 ≤ _; omega), (by show 8 + (1 + 11) + 0 ≤ _; omega), hk, hn⟩ rfl rfl hw hd ?_
    rintro v σ' ⟨rfl, h2⟩
    rw [h2]
    exact kk
  · refine h_callU C (av := []) (rest := st) (m_X5_kind_6 hT) caX10_107_5 kX5 hT ⟨(by show 0 + 1 ≤ _; omega), (by show 8 + (1 + 11) + 0 ≤ _; omega), hk, hn⟩ rfl rfl hw hd ?_
    rintro v σ' ⟨rfl, h2⟩
    rw [h2]
    exact kk
  · refine h_callU C (av := []) (rest := st) (m_X7_kind_8 hT) caX10_107_7 kX7 hT ⟨(by show 0 + 1 ≤ _; omega), (by show 8 + (1 + 11) + 0 ≤ _; omega), hk, hn⟩ rfl rfl hw hd ?_
    rintro v σ' ⟨rfl, h2⟩
    rw [h2]
    exact kk
theorem cvX10_114 (C : hX p s m args meth c G cc RX10 nL ret) {a t ln : Nat} (hT : gT σ a = (t, ln)) (ht : pT t) (hf : 1 ≤ R.frames) (hl : 20 ≤ R.locals) (hk : k ≤ R.cells) (hn : n ≤ R.slots) (hw : (st.map fun v => v.category).sum ≤ 8) (hd : decode cc pc = .ok (.invokevirtual 114, 3)) (kk : hW p l e R s m args below meth c Q G nL (pc + 3) lv (.int (gripOf σ a t) :: st) σ k n) : hW p l e R s m args below meth c Q G nL pc lv (.ref (ad G a) :: st) σ k n := by
  rcases ht with rfl | rfl | rfl | rfl
  · refine h_callU C (av := []) (rest := st) (m_X5_gripped_1 hT) caX10_114_0 kX0 hT ⟨(by show 0 + 1 ≤ _; omega), (by show 8 + (1 + 11) + 0 ≤ _; omega), hk, hn⟩ rfl rfl hw hd ?_
    rintro v σ' ⟨rfl, h2⟩
    rw [h2]
    exact kk
  · refine h_callU C (av := []) (rest := st) (m_X7_gripped_2 hT) caX10_114_1 kX1 hT ⟨(by show 0 + 1 ≤ _; omega), (by show 8 + (1 + 11) + 0 ≤ _; omega), hk, hn⟩ rfl rfl hw hd ?_
    rintro v σ' ⟨rfl, h2⟩
    rw [h2]
    exact kk
  · refine h_callU C (av := []) (rest := st) (m_X5_gripped_6 hT) caX10_114_5 kX5 hT ⟨(by show 0 + 1 ≤ _; omega), (by show 8 + (1 + 11) + 0 ≤ _; omega), hk, hn⟩ rfl rfl hw hd ?_
    rintro v σ' ⟨rfl, h2⟩
    rw [h2]
    exact kk
  · refine h_callU C (av := []) (rest := st) (m_X7_gripped_8 hT) caX10_114_7 kX7 hT ⟨(by show 0 + 1 ≤ _; omega), (by show 8 + (1 + 11) + 0 ≤ _; omega), hk, hn⟩ rfl rfl hw hd ?_
    rintro v σ' ⟨rfl, h2⟩
    rw [h2]
    exact kk
theorem cvX10_120 (C : hX p s m args meth c G cc RX10 nL ret) {a t ln : Nat} (hT : gT σ a = (t, ln)) (ht : pT t) (hf : 1 ≤ R.frames) (hl : 20 ≤ R.locals) (hk : k ≤ R.cells) (hn : n ≤ R.slots) (hw : (st.map fun v => v.category).sum ≤ 8) (hd : decode cc pc = .ok (.invokevirtual 120, 3)) (kk : hW p l e R s m args below meth c Q G nL (pc + 3) lv (.int (countOf t) :: st) σ k n) : hW p l e R s m args below meth c Q G nL pc lv (.ref (ad G a) :: st) σ k n := by
  rcases ht with rfl | rfl | rfl | rfl
  · refine h_callU C (av := []) (rest := st) (m_X0_pushCount_1 hT) caX10_120_0 kX0 hT ⟨(by show 0 + 1 ≤ _; omega), (by show 8 + (1 + 11) + 0 ≤ _; omega), hk, hn⟩ rfl rfl hw hd ?_
    rintro v σ' ⟨rfl, h2⟩
    rw [h2]
    exact kk
  · refine h_callU C (av := []) (rest := st) (m_X7_pushCount_2 hT) caX10_120_1 kX1 hT ⟨(by show 0 + 1 ≤ _; omega), (by show 8 + (1 + 11) + 0 ≤ _; omega), hk, hn⟩ rfl rfl hw hd ?_
    rintro v σ' ⟨rfl, h2⟩
    rw [h2]
    exact kk
  · refine h_callU C (av := []) (rest := st) (m_X5_pushCount_6 hT) caX10_120_5 kX5 hT ⟨(by show 0 + 1 ≤ _; omega), (by show 8 + (1 + 11) + 0 ≤ _; omega), hk, hn⟩ rfl rfl hw hd ?_
    rintro v σ' ⟨rfl, h2⟩
    rw [h2]
    exact kk
  · refine h_callU C (av := []) (rest := st) (m_X7_pushCount_8 hT) caX10_120_7 kX7 hT ⟨(by show 0 + 1 ≤ _; omega), (by show 8 + (1 + 11) + 0 ≤ _; omega), hk, hn⟩ rfl rfl hw hd ?_
    rintro v σ' ⟨rfl, h2⟩
    rw [h2]
    exact kk
theorem cvX10_130 (C : hX p s m args meth c G cc RX10 nL ret) {a t ln : Nat} {push : Int32} (hT : gT σ a = (t, ln)) (ht : pT t) (hf : 2 ≤ R.frames) (hl : 42 ≤ R.locals) (hk : k ≤ R.cells) (hn : n ≤ R.slots) (hw : (st.map fun v => v.category).sum ≤ 8) (hd : decode cc pc = .ok (.invokevirtual 130, 3)) (kk : hW p l e R s m args below meth c Q G nL (pc + 3) lv (.int (pxOf σ a t push) :: st) σ k n) : hW p l e R s m args below meth c Q G nL pc lv (.int push :: .ref (ad G a) :: st) σ k n := by
  rcases ht with rfl | rfl | rfl | rfl
  · refine h_callU C (av := [.int push]) (rest := st) (m_X7_pushX_1 hT) caX10_130_0 kX0 hT ⟨(by show 1 + 1 ≤ _; omega), (by show 8 + (2 + 11) + 21 ≤ _; omega), hk, hn⟩ rfl rfl hw hd ?_
    rintro v σ' ⟨rfl, h2⟩
    rw [h2]
    exact kk
  · refine h_callU C (av := [.int push]) (rest := st) (m_X7_pushX_2 hT) caX10_130_1 kX1 hT ⟨(by show 1 + 1 ≤ _; omega), (by show 8 + (2 + 11) + 21 ≤ _; omega), hk, hn⟩ rfl rfl hw hd ?_
    rintro v σ' ⟨rfl, h2⟩
    rw [h2]
    exact kk
  · refine h_callU C (av := [.int push]) (rest := st) (m_X7_pushX_6 hT) caX10_130_5 kX5 hT ⟨(by show 1 + 1 ≤ _; omega), (by show 8 + (2 + 11) + 21 ≤ _; omega), hk, hn⟩ rfl rfl hw hd ?_
    rintro v σ' ⟨rfl, h2⟩
    rw [h2]
    exact kk
  · refine h_callU C (av := [.int push]) (rest := st) (m_X7_pushX_8 hT) caX10_130_7 kX7 hT ⟨(by show 1 + 1 ≤ _; omega), (by show 8 + (2 + 11) + 21 ≤ _; omega), hk, hn⟩ rfl rfl hw hd ?_
    rintro v σ' ⟨rfl, h2⟩
    rw [h2]
    exact kk
theorem cvX10_134 (C : hX p s m args meth c G cc RX10 nL ret) {a t ln : Nat} {push : Int32} (hT : gT σ a = (t, ln)) (ht : pT t) (hf : 2 ≤ R.frames) (hl : 42 ≤ R.locals) (hk : k ≤ R.cells) (hn : n ≤ R.slots) (hw : (st.map fun v => v.category).sum ≤ 8) (hd : decode cc pc = .ok (.invokevirtual 134, 3)) (kk : hW p l e R s m args below meth c Q G nL (pc + 3) lv (.int (pyOf σ a t push) :: st) σ k n) : hW p l e R s m args below meth c Q G nL pc lv (.int push :: .ref (ad G a) :: st) σ k n := by
  rcases ht with rfl | rfl | rfl | rfl
  · refine h_callU C (av := [.int push]) (rest := st) (m_X7_pushY_1 hT) caX10_134_0 kX0 hT ⟨(by show 1 + 1 ≤ _; omega), (by show 8 + (2 + 11) + 21 ≤ _; omega), hk, hn⟩ rfl rfl hw hd ?_
    rintro v σ' ⟨rfl, h2⟩
    rw [h2]
    exact kk
  · refine h_callU C (av := [.int push]) (rest := st) (m_X7_pushY_2 hT) caX10_134_1 kX1 hT ⟨(by show 1 + 1 ≤ _; omega), (by show 8 + (2 + 11) + 21 ≤ _; omega), hk, hn⟩ rfl rfl hw hd ?_
    rintro v σ' ⟨rfl, h2⟩
    rw [h2]
    exact kk
  · refine h_callU C (av := [.int push]) (rest := st) (m_X7_pushY_6 hT) caX10_134_5 kX5 hT ⟨(by show 1 + 1 ≤ _; omega), (by show 8 + (2 + 11) + 21 ≤ _; omega), hk, hn⟩ rfl rfl hw hd ?_
    rintro v σ' ⟨rfl, h2⟩
    rw [h2]
    exact kk
  · refine h_callU C (av := [.int push]) (rest := st) (m_X7_pushY_8 hT) caX10_134_7 kX7 hT ⟨(by show 1 + 1 ≤ _; omega), (by show 8 + (2 + 11) + 21 ≤ _; omega), hk, hn⟩ rfl rfl hw hd ?_
    rintro v σ' ⟨rfl, h2⟩
    rw [h2]
    exact kk
theorem cvX10_137 (C : hX p s m args meth c G cc RX10 nL ret) {a t ln : Nat} {push : Int32} (hT : gT σ a = (t, ln)) (ht : pT t) (hf : 3 ≤ R.frames) (hl : 63 ≤ R.locals) (hk : k ≤ R.cells) (hn : n ≤ R.slots) (hw : (st.map fun v => v.category).sum ≤ 8) (hd : decode cc pc = .ok (.invokevirtual 137, 3)) (kk : hW p l e R s m args below meth c Q G nL (pc + 3) lv (.int (tuOf σ a t push) :: st) σ k n) : hW p l e R s m args below meth c Q G nL pc lv (.int push :: .ref (ad G a) :: st) σ k n := by
  rcases ht with rfl | rfl | rfl | rfl
  · refine h_callU C (av := [.int push]) (rest := st) (m_X7_turn_1 hT) caX10_137_0 kX0 hT ⟨(by show 2 + 1 ≤ _; omega), (by show 8 + (2 + 11) + 42 ≤ _; omega), hk, hn⟩ rfl rfl hw hd ?_
    rintro v σ' ⟨rfl, h2⟩
    rw [h2]
    exact kk
  · refine h_callU C (av := [.int push]) (rest := st) (m_X7_turn_2 hT) caX10_137_1 kX1 hT ⟨(by show 2 + 1 ≤ _; omega), (by show 8 + (2 + 11) + 42 ≤ _; omega), hk, hn⟩ rfl rfl hw hd ?_
    rintro v σ' ⟨rfl, h2⟩
    rw [h2]
    exact kk
  · refine h_callU C (av := [.int push]) (rest := st) (m_X7_turn_6 hT) caX10_137_5 kX5 hT ⟨(by show 2 + 1 ≤ _; omega), (by show 8 + (2 + 11) + 42 ≤ _; omega), hk, hn⟩ rfl rfl hw hd ?_
    rintro v σ' ⟨rfl, h2⟩
    rw [h2]
    exact kk
  · refine h_callU C (av := [.int push]) (rest := st) (m_X7_turn_8 hT) caX10_137_7 kX7 hT ⟨(by show 2 + 1 ≤ _; omega), (by show 8 + (2 + 11) + 42 ≤ _; omega), hk, hn⟩ rfl rfl hw hd ?_
    rintro v σ' ⟨rfl, h2⟩
    rw [h2]
    exact kk
theorem cvX10_327 (C : hX p s m args meth c G cc RX10 nL ret) {a t ln : Nat} (hT : gT σ a = (t, ln)) (ht : pT t) (hf : 1 ≤ R.frames) (hl : 20 ≤ R.locals) (hk : k ≤ R.cells) (hn : n ≤ R.slots) (hw : (st.map fun v => v.category).sum ≤ 8) (hd : decode cc pc = .ok (.invokevirtual 327, 3)) (kk : hW p l e R s m args below meth c Q G nL (pc + 3) lv (.int (weighsOf σ a t) :: st) σ k n) : hW p l e R s m args below meth c Q G nL pc lv (.ref (ad G a) :: st) σ k n := by
  rcases ht with rfl | rfl | rfl | rfl
  · refine h_callU C (av := []) (rest := st) (m_X0_weighs_1 hT) caX10_327_0 kX0 hT ⟨(by show 0 + 1 ≤ _; omega), (by show 8 + (1 + 11) + 0 ≤ _; omega), hk, hn⟩ rfl rfl hw hd ?_
    rintro v σ' ⟨rfl, h2⟩
    rw [h2]
    exact kk
  · refine h_callU C (av := []) (rest := st) (m_X1_weighs_2 hT) caX10_327_1 kX1 hT ⟨(by show 0 + 1 ≤ _; omega), (by show 8 + (1 + 11) + 0 ≤ _; omega), hk, hn⟩ rfl rfl hw hd ?_
    rintro v σ' ⟨rfl, h2⟩
    rw [h2]
    exact kk
  · refine h_callU C (av := []) (rest := st) (m_X5_weighs_6 hT) caX10_327_5 kX5 hT ⟨(by show 0 + 1 ≤ _; omega), (by show 8 + (1 + 11) + 0 ≤ _; omega), hk, hn⟩ rfl rfl hw hd ?_
    rintro v σ' ⟨rfl, h2⟩
    rw [h2]
    exact kk
  · refine h_callU C (av := []) (rest := st) (m_X7_weighs_8 hT) caX10_327_7 kX7 hT ⟨(by show 0 + 1 ≤ _; omega), (by show 8 + (1 + 11) + 0 ≤ _; omega), hk, hn⟩ rfl rfl hw hd ?_
    rintro v σ' ⟨rfl, h2⟩
    rw [h2]
    exact kk
theorem gpX4_66 (C : hX p s m args meth c G cc RX4 nL ret) {a t ln : Nat} (hT : gT σ a = (t, ln)) (ht : pT t) (hd : decode cc pc = .ok (.getfield 66, 3)) (kk : hW p l e R s m args below meth c Q G nL (pc + 3) lv (.int (gI σ a 7) :: st) σ k n) : hW p l e R s m args below meth c Q G nL pc lv (.ref (ad G a) :: st) σ k n := by
  rcases ht with rfl | rfl | rfl | rfl
  · exact gfX4_66_0 C hT hd kk
  · exact gfX4_66_1 C hT hd kk
  · exact gfX4_66_5 C hT hd kk
  · exact gfX4_66_7 C hT hd kk
theorem gpX6_29 (C : hX p s m args meth c G cc RX6 nL ret) {a t ln : Nat} (hT : gT σ a = (t, ln)) (ht : pT t) (hd : decode cc pc = .ok (.getfield 29, 3)) (kk : hW p l e R s m args below meth c Q G nL (pc + 3) lv (.int (gI σ a 5) :: st) σ k n) : hW p l e R s m args below meth c Q G nL pc lv (.ref (ad G a) :: st) σ k n := by
  rcases ht with rfl | rfl | rfl | rfl
  · exact gfX6_29_0 C hT hd kk
  · exact gfX6_29_1 C hT hd kk
  · exact gfX6_29_5 C hT hd kk
  · exact gfX6_29_7 C hT hd kk
theorem gpX6_33 (C : hX p s m args meth c G cc RX6 nL ret) {a t ln : Nat} (hT : gT σ a = (t, ln)) (ht : pT t) (hd : decode cc pc = .ok (.getfield 33, 3)) (kk : hW p l e R s m args below meth c Q G nL (pc + 3) lv (.int (gI σ a 6) :: st) σ k n) : hW p l e R s m args below meth c Q G nL pc lv (.ref (ad G a) :: st) σ k n := by
  rcases ht with rfl | rfl | rfl | rfl
  · exact gfX6_33_0 C hT hd kk
  · exact gfX6_33_1 C hT hd kk
  · exact gfX6_33_5 C hT hd kk
  · exact gfX6_33_7 C hT hd kk
theorem gpX6_35 (C : hX p s m args meth c G cc RX6 nL ret) {a t ln : Nat} (hT : gT σ a = (t, ln)) (ht : pT t) (hd : decode cc pc = .ok (.getfield 35, 3)) (kk : hW p l e R s m args below meth c Q G nL (pc + 3) lv (.int (gI σ a 3) :: st) σ k n) : hW p l e R s m args below meth c Q G nL pc lv (.ref (ad G a) :: st) σ k n := by
  rcases ht with rfl | rfl | rfl | rfl
  · exact gfX6_35_0 C hT hd kk
  · exact gfX6_35_1 C hT hd kk
  · exact gfX6_35_5 C hT hd kk
  · exact gfX6_35_7 C hT hd kk
theorem ppX10_87 (C : hX p s m args meth c G cc RX10 nL ret) {v : Int32} {a t ln : Nat} (hT : gT σ a = (t, ln)) (ht : pT t) (hd : decode cc pc = .ok (.putfield 87, 3)) (kk : hW p l e R s m args below meth c Q G nL (pc + 3) lv st (sI σ a 4 v) k n) : hW p l e R s m args below meth c Q G nL pc lv (.int v :: .ref (ad G a) :: st) σ k n := by
  rcases ht with rfl | rfl | rfl | rfl
  · exact pfX10_87_0 C hT hd kk
  · exact pfX10_87_1 C hT hd kk
  · exact pfX10_87_5 C hT hd kk
  · exact pfX10_87_7 C hT hd kk
theorem gpX10_94 (C : hX p s m args meth c G cc RX10 nL ret) {a t ln : Nat} (hT : gT σ a = (t, ln)) (ht : pT t) (hd : decode cc pc = .ok (.getfield 94, 3)) (kk : hW p l e R s m args below meth c Q G nL (pc + 3) lv (.int (gI σ a 5) :: st) σ k n) : hW p l e R s m args below meth c Q G nL pc lv (.ref (ad G a) :: st) σ k n := by
  rcases ht with rfl | rfl | rfl | rfl
  · exact gfX10_94_0 C hT hd kk
  · exact gfX10_94_1 C hT hd kk
  · exact gfX10_94_5 C hT hd kk
  · exact gfX10_94_7 C hT hd kk
theorem gpX10_97 (C : hX p s m args meth c G cc RX10 nL ret) {a t ln : Nat} (hT : gT σ a = (t, ln)) (ht : pT t) (hd : decode cc pc = .ok (.getfield 97, 3)) (kk : hW p l e R s m args below meth c Q G nL (pc + 3) lv (.int (gI σ a 6) :: st) σ k n) : hW p l e R s m args below meth c Q G nL pc lv (.ref (ad G a) :: st) σ k n := by
  rcases ht with rfl | rfl | rfl | rfl
  · exact gfX10_97_0 C hT hd kk
  · exact gfX10_97_1 C hT hd kk
  · exact gfX10_97_5 C hT hd kk
  · exact gfX10_97_7 C hT hd kk
theorem ppX10_94 (C : hX p s m args meth c G cc RX10 nL ret) {v : Int32} {a t ln : Nat} (hT : gT σ a = (t, ln)) (ht : pT t) (hd : decode cc pc = .ok (.putfield 94, 3)) (kk : hW p l e R s m args below meth c Q G nL (pc + 3) lv st (sI σ a 5 v) k n) : hW p l e R s m args below meth c Q G nL pc lv (.int v :: .ref (ad G a) :: st) σ k n := by
  rcases ht with rfl | rfl | rfl | rfl
  · exact pfX10_94_0 C hT hd kk
  · exact pfX10_94_1 C hT hd kk
  · exact pfX10_94_5 C hT hd kk
  · exact pfX10_94_7 C hT hd kk
theorem ppX10_97 (C : hX p s m args meth c G cc RX10 nL ret) {v : Int32} {a t ln : Nat} (hT : gT σ a = (t, ln)) (ht : pT t) (hd : decode cc pc = .ok (.putfield 97, 3)) (kk : hW p l e R s m args below meth c Q G nL (pc + 3) lv st (sI σ a 6 v) k n) : hW p l e R s m args below meth c Q G nL pc lv (.int v :: .ref (ad G a) :: st) σ k n := by
  rcases ht with rfl | rfl | rfl | rfl
  · exact pfX10_97_0 C hT hd kk
  · exact pfX10_97_1 C hT hd kk
  · exact pfX10_97_5 C hT hd kk
  · exact pfX10_97_7 C hT hd kk
theorem gpX10_104 (C : hX p s m args meth c G cc RX10 nL ret) {a t ln : Nat} (hT : gT σ a = (t, ln)) (ht : pT t) (hd : decode cc pc = .ok (.getfield 104, 3)) (kk : hW p l e R s m args below meth c Q G nL (pc + 3) lv (.int (gI σ a 7) :: st) σ k n) : hW p l e R s m args below meth c Q G nL pc lv (.ref (ad G a) :: st) σ k n := by
  rcases ht with rfl | rfl | rfl | rfl
  · exact gfX10_104_0 C hT hd kk
  · exact gfX10_104_1 C hT hd kk
  · exact gfX10_104_5 C hT hd kk
  · exact gfX10_104_7 C hT hd kk
theorem ppX10_104 (C : hX p s m args meth c G cc RX10 nL ret) {v : Int32} {a t ln : Nat} (hT : gT σ a = (t, ln)) (ht : pT t) (hd : decode cc pc = .ok (.putfield 104, 3)) (kk : hW p l e R s m args below meth c Q G nL (pc + 3) lv st (sI σ a 7 v) k n) : hW p l e R s m args below meth c Q G nL pc lv (.int v :: .ref (ad G a) :: st) σ k n := by
  rcases ht with rfl | rfl | rfl | rfl
  · exact pfX10_104_0 C hT hd kk
  · exact pfX10_104_1 C hT hd kk
  · exact pfX10_104_5 C hT hd kk
  · exact pfX10_104_7 C hT hd kk
theorem gpX10_111 (C : hX p s m args meth c G cc RX10 nL ret) {a t ln : Nat} (hT : gT σ a = (t, ln)) (ht : pT t) (hd : decode cc pc = .ok (.getfield 111, 3)) (kk : hW p l e R s m args below meth c Q G nL (pc + 3) lv (.int (gI σ a 0) :: st) σ k n) : hW p l e R s m args below meth c Q G nL pc lv (.ref (ad G a) :: st) σ k n := by
  rcases ht with rfl | rfl | rfl | rfl
  · exact gfX10_111_0 C hT hd kk
  · exact gfX10_111_1 C hT hd kk
  · exact gfX10_111_5 C hT hd kk
  · exact gfX10_111_7 C hT hd kk
theorem gpX10_117 (C : hX p s m args meth c G cc RX10 nL ret) {a t ln : Nat} (hT : gT σ a = (t, ln)) (ht : pT t) (hd : decode cc pc = .ok (.getfield 117, 3)) (kk : hW p l e R s m args below meth c Q G nL (pc + 3) lv (.int (gI σ a 3) :: st) σ k n) : hW p l e R s m args below meth c Q G nL pc lv (.ref (ad G a) :: st) σ k n := by
  rcases ht with rfl | rfl | rfl | rfl
  · exact gfX10_117_0 C hT hd kk
  · exact gfX10_117_1 C hT hd kk
  · exact gfX10_117_5 C hT hd kk
  · exact gfX10_117_7 C hT hd kk
theorem gpX10_87 (C : hX p s m args meth c G cc RX10 nL ret) {a t ln : Nat} (hT : gT σ a = (t, ln)) (ht : pT t) (hd : decode cc pc = .ok (.getfield 87, 3)) (kk : hW p l e R s m args below meth c Q G nL (pc + 3) lv (.int (gI σ a 4) :: st) σ k n) : hW p l e R s m args below meth c Q G nL pc lv (.ref (ad G a) :: st) σ k n := by
  rcases ht with rfl | rfl | rfl | rfl
  · exact gfX10_87_0 C hT hd kk
  · exact gfX10_87_1 C hT hd kk
  · exact gfX10_87_5 C hT hd kk
  · exact gfX10_87_7 C hT hd kk
end
