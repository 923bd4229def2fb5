abbrev isLd (p q m : Int32) : Prop := (-1000 ≤ p ∧ p ≤ 1000) ∧ (-1000 ≤ q ∧ q ≤ 1000) ∧ -1000 ≤ m ∧ m ≤ 1000
def loadQ (σ : ha_St) (p q m r : Int32) (σ' : ha_St) : Prop := (¬ isLd p q m ∧ r = -1 ∧ σ' = σ) ∨ (isLd p q m ∧ ¬ gI σ 17 3 < 16 ∧ r = -2 ∧ σ' = σ) ∨ (isLd p q m ∧ gI σ 17 3 < 16 ∧ r = gI σ 17 3 ∧ σ' = cutAdd σ p q m)
set_option maxRecDepth 100000 in
set_option maxHeartbeats 4000000 in
theorem m_X10_load {G : ha_G} {l : Launch} {σ : ha_St} {x y z : Int32} (hY : LY σ) (h0 : 0 ≤ gI σ 17 3) : hM G l yX10_load cX10_load 4 (some .int) { frames := 2, cells := 0, slots := 0, locals := 43 } [.ref (ad G 0), .int x, .int y, .int z] σ (fun v σ' => ∃ r, v = some (.int r) ∧ loadQ σ x y z r σ') := by
  refine hM_ofF [(0, .ref (ad G 0)), (1, .int x), (2, .int y), (3, .int z)] (by decide +kernel) (Nat.le_of_ble_eq_true rfl) rfl ?_
  intro p e s m args below meth c0 C hin
  refine h_iload_n C 1 dX10_load_0 rfl rfl ?_
  refine h_iload_n C 2 dX10_load_1 rfl rfl ?_
  refine h_iload_n C 3 dX10_load_2 rfl rfl ?_
  refine h_callS C m_X10_isLoad caX10_169 ⟨by decide, by decide, by decide, by decide⟩ rfl rfl (Nat.le_of_ble_eq_true rfl) dX10_load_3 ?_
  rintro v σ' ⟨rfl, h2⟩; rw [h2]; clear h2
  show hW _ _ _ _ _ _ _ _ _ _ _ _ _ 6 [(0, .ref (ad G 0)), (1, .int x), (2, .int y), (3, .int z)] [.int (if (-1000 ≤ x ∧ x ≤ 1000) ∧ (-1000 ≤ y ∧ y ≤ 1000) ∧ -1000 ≤ z ∧ z ≤ 1000 then 1 else 0)] σ 0 0
  refine h_if_ne C 11 dX10_load_6 (by decide) (fun c_6 => ?_) (fun c_6 => ?_)
  · refine h_aload_n C 0 dX10_load_11 rfl rfl ?_
    refine gfX10_40 C (ty_0 hY) dX10_load_12 ?_
    refine h_tref (b := 17) (rf_0_6 hY) ?_
    refine h_iload_n C 1 dX10_load_15 rfl rfl ?_
    refine h_iload_n C 2 dX10_load_16 rfl rfl ?_
    refine h_iload_n C 3 dX10_load_17 rfl rfl ?_
    refine h_callV C (m_X3_taken hY h0) caX10_183 kX3 (ty_17 hY) ⟨by decide, by decide, by decide, by decide⟩ rfl rfl (Nat.le_of_ble_eq_true rfl) dX10_load_18 ?_
    rintro v σ' (⟨q1, rfl, h2⟩ | ⟨q1, rfl, h2⟩)
    · rw [h2]; clear h2
      show hW _ _ _ _ _ _ _ _ _ _ _ _ _ 21 [(0, .ref (ad G 0)), (1, .int x), (2, .int y), (3, .int z)] [.int 1] (cutAdd σ x y z) 0 0
      refine h_if_eq C 36 dX10_load_21 (by decide) (fun c_21 => ?_) (fun c_21 => ?_)
      · exact absurd c_21 (by decide)
      · refine h_aload_n C 0 dX10_load_24 rfl rfl ?_
        refine gfX10_40 C (ty_0 hY) dX10_load_25 ?_
        refine h_tref (b := 17) (rf_0_6 hY) ?_
        refine gfX10_186 C (ty_17 hY) dX10_load_28 ?_
        refine h_iconst C 1 dX10_load_31 (by decide) ?_
        refine h_isub C dX10_load_32 ?_
        refine h_goto C 38 dX10_load_33 (by decide) ?_
        refine h_iret C rfl (Nat.zero_le _) (Nat.zero_le _) dX10_load_38 ?_
        refine ⟨_, rfl, Or.inr (Or.inr ⟨if_one c_6, q1, ?_, rfl⟩)⟩
        simp [cutAdd, gI_sI]
    · rw [h2]; clear h2
      show hW _ _ _ _ _ _ _ _ _ _ _ _ _ 21 [(0, .ref (ad G 0)), (1, .int x), (2, .int y), (3, .int z)] [.int 0] σ 0 0
      refine h_if_eq C 36 dX10_load_21 (by decide) (fun c_21 => ?_) (fun c_21 => ?_)
      · refine h_bipush C (-2) dX10_load_36 (by decide) ?_
        refine h_iret C rfl (Nat.zero_le _) (Nat.zero_le _) dX10_load_38 ?_
        exact ⟨_, rfl, Or.inr (Or.inl ⟨if_one c_6, q1, rfl, rfl⟩)⟩
      · exact absurd c_21 (by decide)
  · refine h_iconst C (-1) dX10_load_9 (by decide) ?_
    refine h_iret C rfl (Nat.zero_le _) (Nat.zero_le _) dX10_load_10 ?_
    exact ⟨_, rfl, Or.inl ⟨if_nil c_6, rfl, rfl⟩⟩
set_option maxRecDepth 100000 in
set_option maxHeartbeats 4000000 in
theorem m_X10_unload {G : ha_G} {l : Launch} {σ : ha_St} (hY : LY σ) : hM G l yX10_unload cX10_unload 2 (some .int) { frames := 0, cells := 0, slots := 0, locals := 0 } [.ref (ad G 0)] σ (fun v σ' => v = some (.int (gI σ 17 3)) ∧ σ' = sI σ 17 3 0) := by
  refine hM_ofF [(0, .ref (ad G 0))] (by decide +kernel) (Nat.le_of_ble_eq_true rfl) rfl ?_
  intro p e s m args below meth c0 C hin
  refine h_aload_n C 0 dX10_unload_0 rfl rfl ?_
  refine gfX10_40 C (ty_0 hY) dX10_unload_1 ?_
  refine h_tref (b := 17) (rf_0_6 hY) ?_
  refine gfX10_186 C (ty_17 hY) dX10_unload_4 ?_
  refine h_istore_n C [(1, .int (gI σ 17 3)), (0, .ref (ad G 0))] dX10_unload_7 rfl (by decide) rfl ?_
  refine h_aload_n C 1 dX10_unload_8 rfl rfl ?_
  refine gfX10_40 C (ty_0 hY) dX10_unload_9 ?_
  refine h_tref (b := 17) (rf_0_6 hY) ?_
  refine h_iconst C 0 dX10_unload_12 (by decide) ?_
  refine pfX10_186 C (ty_17 hY) dX10_unload_13 ?_
  refine h_iload_n C 0 dX10_unload_16 rfl rfl ?_
  refine h_iret C rfl (Nat.zero_le _) (Nat.zero_le _) dX10_unload_17 ?_
  exact ⟨rfl, rfl⟩
abbrev isPt (x y : Int32) : Prop := (-200 ≤ x ∧ x ≤ 200) ∧ -200 ≤ y ∧ y ≤ 200
def pointQ (σ : ha_St) (x y r : Int32) (σ' : ha_St) : Prop := (¬ isPt x y ∧ r = -1 ∧ σ' = σ) ∨ (isPt x y ∧ ¬ gI σ 32 2 < 40 ∧ r = -2 ∧ σ' = σ) ∨ (isPt x y ∧ gI σ 32 2 < 40 ∧ r = gI σ 32 2 + 1 ∧ σ' = pathAdd σ x y)
set_option maxRecDepth 100000 in
set_option maxHeartbeats 4000000 in
theorem m_X10_point {G : ha_G} {l : Launch} {σ : ha_St} {x y : Int32} (hY : LY σ) (h0 : 0 ≤ gI σ 32 2) : hM G l yX10_point cX10_point 3 (some .int) { frames := 1, cells := 0, slots := 0, locals := 22 } [.ref (ad G 0), .int x, .int y] σ (fun v σ' => ∃ r, v = some (.int r) ∧ pointQ σ x y r σ') := by
  refine hM_ofF [(0, .ref (ad G 0)), (1, .int x), (2, .int y)] (by decide +kernel) (Nat.le_of_ble_eq_true rfl) rfl ?_
  intro p e s m args below meth c0 C hin
  refine h_iload_n C 1 dX10_point_0 rfl rfl ?_
  refine h_sipush C 200 dX10_point_1 (by decide) ?_
  refine h_callS C m_X10_isWithin caX10_258 ⟨by decide, by decide, by decide, by decide⟩ rfl rfl (Nat.le_of_ble_eq_true rfl) dX10_point_4 ?_
  rintro v σ' ⟨rfl, h2⟩; rw [h2]; clear h2
  show hW _ _ _ _ _ _ _ _ _ _ _ _ _ 7 [(0, .ref (ad G 0)), (1, .int x), (2, .int y)] [.int (if -200 ≤ x ∧ x ≤ 200 then 1 else 0)] σ 0 0
  refine h_if_eq C 20 dX10_point_7 (by decide) (fun c_7 => ?_) (fun c_7 => ?_)
  · refine h_iconst C (-1) dX10_point_20 (by decide) ?_
    refine h_iret C rfl (Nat.zero_le _) (Nat.zero_le _) dX10_point_21 ?_
    exact ⟨_, rfl, Or.inl ⟨fun q => if_nil c_7 q.1, rfl, rfl⟩⟩
  · refine h_iload_n C 2 dX10_point_10 rfl rfl ?_
    refine h_sipush C 200 dX10_point_11 (by decide) ?_
    refine h_callS C m_X10_isWithin caX10_258 ⟨by decide, by decide, by decide, by decide⟩ rfl rfl (Nat.le_of_ble_eq_true rfl) dX10_point_14 ?_
    rintro v σ' ⟨rfl, h2⟩; rw [h2]; clear h2
    show hW _ _ _ _ _ _ _ _ _ _ _ _ _ 17 [(0, .ref (ad G 0)), (1, .int x), (2, .int y)] [.int (if -200 ≤ y ∧ y ≤ 200 then 1 else 0)] σ 0 0
    refine h_if_ne C 22 dX10_point_17 (by decide) (fun c_17 => ?_) (fun c_17 => ?_)
    · refine h_aload_n C 0 dX10_point_22 rfl rfl ?_
      refine gfX10_61 C (ty_0 hY) dX10_point_23 ?_
      refine h_tref (b := 32) (rf_0_9 hY) ?_
      refine h_iload_n C 1 dX10_point_26 rfl rfl ?_
      refine h_iload_n C 2 dX10_point_27 rfl rfl ?_
      refine h_callV C (m_X6_taken hY h0) caX10_261 kX6 (ty_32 hY) ⟨by decide, by decide, by decide, by decide⟩ rfl rfl (Nat.le_of_ble_eq_true rfl) dX10_point_28 ?_
      rintro v σ' (⟨q1, rfl, h2⟩ | ⟨q1, rfl, h2⟩)
      · rw [h2]; clear h2
        show hW _ _ _ _ _ _ _ _ _ _ _ _ _ 31 [(0, .ref (ad G 0)), (1, .int x), (2, .int y)] [.int 1] (pathAdd σ x y) 0 0
        refine h_if_eq C 44 dX10_point_31 (by decide) (fun c_31 => ?_) (fun c_31 => ?_)
        · exact absurd c_31 (by decide)
        · refine h_aload_n C 0 dX10_point_34 rfl rfl ?_
          refine gfX10_61 C (ty_0 hY) dX10_point_35 ?_
          refine h_tref (b := 32) (rf_0_9 hY) ?_
          refine gfX10_262 C (ty_32 hY) dX10_point_38 ?_
          refine h_goto C 46 dX10_point_41 (by decide) ?_
          refine h_iret C rfl (Nat.zero_le _) (Nat.zero_le _) dX10_point_46 ?_
          refine ⟨_, rfl, Or.inr (Or.inr ⟨⟨if_one c_7, if_one c_17⟩, q1, ?_, rfl⟩)⟩
          simp [pathAdd, gI_sI]
      · rw [h2]; clear h2
        show hW _ _ _ _ _ _ _ _ _ _ _ _ _ 31 [(0, .ref (ad G 0)), (1, .int x), (2, .int y)] [.int 0] σ 0 0
        refine h_if_eq C 44 dX10_point_31 (by decide) (fun c_31 => ?_) (fun c_31 => ?_)
        · refine h_bipush C (-2) dX10_point_44 (by decide) ?_
          refine h_iret C rfl (Nat.zero_le _) (Nat.zero_le _) dX10_point_46 ?_
          exact ⟨_, rfl, Or.inr (Or.inl ⟨⟨if_one c_7, if_one c_17⟩, q1, rfl, rfl⟩)⟩
        · exact absurd c_31 (by decide)
    · refine h_iconst C (-1) dX10_point_20 (by decide) ?_
      refine h_iret C rfl (Nat.zero_le _) (Nat.zero_le _) dX10_point_21 ?_
      exact ⟨_, rfl, Or.inl ⟨fun q => if_nil c_17 q.2, rfl, rfl⟩⟩
set_option maxRecDepth 100000 in
set_option maxHeartbeats 4000000 in
theorem m_X10_tool {G : ha_G} {l : Launch} {σ : ha_St} {x : Int32} (hY : LY σ) : hM G l yX10_tool cX10_tool 3 (some .int) { frames := 0, cells := 0, slots := 0, locals := 0 } [.ref (ad G 0), .int x] σ (fun v σ' => ∃ r, v = some (.int r) ∧ ((¬ (0 ≤ x ∧ x ≤ 20) ∧ r = -1 ∧ σ' = σ) ∨ ((0 ≤ x ∧ x ≤ 20) ∧ r = gI σ 32 2 ∧ σ' = sI (sI σ 32 2 0) 32 3 x))) := by
  refine hM_ofF [(0, .ref (ad G 0)), (1, .int x)] (by decide +kernel) (Nat.le_of_ble_eq_true rfl) rfl ?_
  intro p e s m args below meth c0 C hin
  refine h_iload_n C 1 dX10_tool_0 rfl rfl ?_
  refine h_if_lt C 10 dX10_tool_1 (by decide) (fun c_1 => ?_) (fun c_1 => ?_)
  · refine h_iconst C (-1) dX10_tool_10 (by decide) ?_
    refine h_iret C rfl (Nat.zero_le _) (Nat.zero_le _) dX10_tool_11 ?_
    exact ⟨_, rfl, Or.inl ⟨fun q => absurd c_1 (Int32.not_lt.mpr q.1), rfl, rfl⟩⟩
  · refine h_iload_n C 1 dX10_tool_4 rfl rfl ?_
    refine h_bipush C 20 dX10_tool_5 (by decide) ?_
    refine h_icmp_le C 12 dX10_tool_7 (by decide) (fun c_7 => ?_) (fun c_7 => ?_)
    · refine h_aload_n C 0 dX10_tool_12 rfl rfl ?_
      refine gfX10_61 C (ty_0 hY) dX10_tool_13 ?_
      refine h_tref (b := 32) (rf_0_9 hY) ?_
      refine gfX10_262 C (ty_32 hY) dX10_tool_16 ?_
      refine h_istore_n C [(2, .int (gI σ 32 2)), (0, .ref (ad G 0)), (1, .int x)] dX10_tool_19 rfl (by decide) rfl ?_
      refine h_aload_n C 1 dX10_tool_20 rfl rfl ?_
      refine gfX10_61 C (ty_0 hY) dX10_tool_21 ?_
      refine h_tref (b := 32) (rf_0_9 hY) ?_
      refine h_iconst C 0 dX10_tool_24 (by decide) ?_
      refine pfX10_262 C (ty_32 hY) dX10_tool_25 ?_
      refine h_aload_n C 1 dX10_tool_28 rfl rfl ?_
      refine gfX10_61 C (ty_0 hY) dX10_tool_29 ?_
      refine h_tref (b := 32) (rf_0_9 hY) ?_
      refine h_iload_n C 2 dX10_tool_32 rfl rfl ?_
      refine pfX10_263 C (ty_32 hY) dX10_tool_33 ?_
      refine h_iload_n C 0 dX10_tool_36 rfl rfl ?_
      refine h_iret C rfl (Nat.zero_le _) (Nat.zero_le _) dX10_tool_37 ?_
      exact ⟨_, rfl, Or.inr ⟨⟨Int32.not_lt.mp c_1, c_7⟩, rfl, rfl⟩⟩
    · refine h_iconst C (-1) dX10_tool_10 (by decide) ?_
      refine h_iret C rfl (Nat.zero_le _) (Nat.zero_le _) dX10_tool_11 ?_
      exact ⟨_, rfl, Or.inl ⟨fun q => c_7 q.2, rfl, rfl⟩⟩
def countV (σ : ha_St) (w : Int32) : Int32 := if w = 0 then gI σ 0 1 else if w = 1 then gI σ 17 3 else if w = 2 then gI σ 26 2 else if w = 3 then gI σ 32 2 else if w = 4 then gI σ 32 3 else -1
set_option maxRecDepth 100000 in
set_option maxHeartbeats 4000000 in
theorem m_X10_count {G : ha_G} {l : Launch} {σ : ha_St} {w : Int32} (hY : LY σ) : hM G l yX10_count cX10_count 2 (some .int) { frames := 0, cells := 0, slots := 0, locals := 0 } [.ref (ad G 0), .int w] σ (fun v σ' => v = some (.int (countV σ w)) ∧ σ' = σ) := by
  refine hM_ofF [(0, .ref (ad G 0)), (1, .int w)] (by decide +kernel) (Nat.le_of_ble_eq_true rfl) rfl ?_
  intro p e s m args below meth c0 C hin
  refine h_iload_n C 1 dX10_count_0 rfl rfl ?_
  by_cases q_1_0 : w = 0
  · refine h_tableIn C 36 dX10_count_1 (by rw [q_1_0]; decide) (by rw [q_1_0]; decide) (by rw [q_1_0]; rfl) (by decide) ?_
    refine h_aload_n C 0 dX10_count_36 rfl rfl ?_
    refine gfX10_15 C (ty_0 hY) dX10_count_37 ?_
    refine h_iret C rfl (Nat.zero_le _) (Nat.zero_le _) dX10_count_40 ?_
    refine ⟨?_, rfl⟩
    unfold countV
    rw [if_pos q_1_0]
  by_cases q_1_1 : w = 1
  · refine h_tableIn C 41 dX10_count_1 (by rw [q_1_1]; decide) (by rw [q_1_1]; decide) (by rw [q_1_1]; rfl) (by decide) ?_
    refine h_aload_n C 0 dX10_count_41 rfl rfl ?_
    refine gfX10_40 C (ty_0 hY) dX10_count_42 ?_
    refine h_tref (b := 17) (rf_0_6 hY) ?_
    refine gfX10_186 C (ty_17 hY) dX10_count_45 ?_
    refine h_iret C rfl (Nat.zero_le _) (Nat.zero_le _) dX10_count_48 ?_
    refine ⟨?_, rfl⟩
    unfold countV
    rw [if_neg q_1_0, if_pos q_1_1]
  by_cases q_1_2 : w = 2
  · refine h_tableIn C 49 dX10_count_1 (by rw [q_1_2]; decide) (by rw [q_1_2]; decide) (by rw [q_1_2]; rfl) (by decide) ?_
    refine h_aload_n C 0 dX10_count_49 rfl rfl ?_
    refine gfX10_54 C (ty_0 hY) dX10_count_50 ?_
    refine h_tref (b := 26) (rf_0_8 hY) ?_
    refine gfX10_239 C (ty_26 hY) dX10_count_53 ?_
    refine h_iret C rfl (Nat.zero_le _) (Nat.zero_le _) dX10_count_56 ?_
    refine ⟨?_, rfl⟩
    unfold countV
    rw [if_neg q_1_0, if_neg q_1_1, if_pos q_1_2]
  by_cases q_1_3 : w = 3
  · refine h_tableIn C 57 dX10_count_1 (by rw [q_1_3]; decide) (by rw [q_1_3]; decide) (by rw [q_1_3]; rfl) (by decide) ?_
    refine h_aload_n C 0 dX10_count_57 rfl rfl ?_
    refine gfX10_61 C (ty_0 hY) dX10_count_58 ?_
    refine h_tref (b := 32) (rf_0_9 hY) ?_
    refine gfX10_262 C (ty_32 hY) dX10_count_61 ?_
    refine h_iret C rfl (Nat.zero_le _) (Nat.zero_le _) dX10_count_64 ?_
    refine ⟨?_, rfl⟩
    unfold countV
    rw [if_neg q_1_0, if_neg q_1_1, if_neg q_1_2, if_pos q_1_3]
  by_cases q_1_4 : w = 4
  · refine h_tableIn C 65 dX10_count_1 (by rw [q_1_4]; decide) (by rw [q_1_4]; decide) (by rw [q_1_4]; rfl) (by decide) ?_
    refine h_aload_n C 0 dX10_count_65 rfl rfl ?_
    refine gfX10_61 C (ty_0 hY) dX10_count_66 ?_
    refine h_tref (b := 32) (rf_0_9 hY) ?_
    refine gfX10_263 C (ty_32 hY) dX10_count_69 ?_
    refine h_iret C rfl (Nat.zero_le _) (Nat.zero_le _) dX10_count_72 ?_
    refine ⟨?_, rfl⟩
    unfold countV
    rw [if_neg q_1_0, if_neg q_1_1, if_neg q_1_2, if_neg q_1_3, if_pos q_1_4]
  refine h_tableOut C 73 dX10_count_1 (by have e_0 := lv_neT q_1_0 (a := 0) (by decide); have e_1 := lv_neT q_1_1 (a := 1) (by decide); have e_2 := lv_neT q_1_2 (a := 2) (by decide); have e_3 := lv_neT q_1_3 (a := 3) (by decide); have e_4 := lv_neT q_1_4 (a := 4) (by decide); omega) (by decide) ?_
  refine h_iconst C (-1) dX10_count_73 (by decide) ?_
  refine h_iret C rfl (Nat.zero_le _) (Nat.zero_le _) dX10_count_74 ?_
  refine ⟨?_, rfl⟩
  unfold countV
  rw [if_neg q_1_0, if_neg q_1_1, if_neg q_1_2, if_neg q_1_3, if_neg q_1_4]
def okS (σ : ha_St) (x y : Int32) : Prop := 1 ≤ x ∧ x < 64 ∧ 0 ≤ y ∧ y < 1 <<< (gI σ 26 2 &&& 31)
def stepQ (σ : ha_St) (x y r : Int32) (σ' : ha_St) : Prop := (¬ okS σ x y ∧ r = -1 ∧ σ' = σ) ∨ (okS σ x y ∧ ¬ gI σ 26 2 < 12 ∧ r = -2 ∧ σ' = σ) ∨ (okS σ x y ∧ gI σ 26 2 < 12 ∧ r = gI σ 26 2 ∧ σ' = planAdd σ x y)
set_option maxRecDepth 100000 in
set_option maxHeartbeats 4000000 in
theorem m_X10_step {G : ha_G} {l : Launch} {σ : ha_St} {x y : Int32} (hY : LY σ) (h0 : 0 ≤ gI σ 26 2) : hM G l yX10_step cX10_step 3 (some .int) { frames := 1, cells := 0, slots := 0, locals := 22 } [.ref (ad G 0), .int x, .int y] σ (fun v σ' => ∃ r, v = some (.int r) ∧ stepQ σ x y r σ') := by
  refine hM_ofF [(0, .ref (ad G 0)), (1, .int x), (2, .int y)] (by decide +kernel) (Nat.le_of_ble_eq_true rfl) rfl ?_
  intro p e s m args below meth c0 C hin
  refine h_iload_n C 1 dX10_step_0 rfl rfl ?_
  refine h_iconst C 1 dX10_step_1 (by decide) ?_
  refine h_icmp_lt C 28 dX10_step_2 (by decide) (fun c_2 => ?_) (fun c_2 => ?_)
  · refine h_iconst C (-1) dX10_step_28 (by decide) ?_
    refine h_iret C rfl (Nat.zero_le _) (Nat.zero_le _) dX10_step_29 ?_
    exact ⟨_, rfl, Or.inl ⟨fun q => absurd c_2 (Int32.not_lt.mpr q.1), rfl, rfl⟩⟩
  · refine h_iload_n C 1 dX10_step_5 rfl rfl ?_
    refine h_bipush C 64 dX10_step_6 (by decide) ?_
    refine h_icmp_ge C 28 dX10_step_8 (by decide) (fun c_8 => ?_) (fun c_8 => ?_)
    · refine h_iconst C (-1) dX10_step_28 (by decide) ?_
      refine h_iret C rfl (Nat.zero_le _) (Nat.zero_le _) dX10_step_29 ?_
      exact ⟨_, rfl, Or.inl ⟨fun q => absurd q.2.1 (Int32.not_lt.mpr c_8), rfl, rfl⟩⟩
    · refine h_iload_n C 2 dX10_step_11 rfl rfl ?_
      refine h_if_lt C 28 dX10_step_12 (by decide) (fun c_12 => ?_) (fun c_12 => ?_)
      · refine h_iconst C (-1) dX10_step_28 (by decide) ?_
        refine h_iret C rfl (Nat.zero_le _) (Nat.zero_le _) dX10_step_29 ?_
        exact ⟨_, rfl, Or.inl ⟨fun q => absurd c_12 (Int32.not_lt.mpr q.2.2.1), rfl, rfl⟩⟩
      · refine h_iload_n C 2 dX10_step_15 rfl rfl ?_
        refine h_iconst C 1 dX10_step_16 (by decide) ?_
        refine h_aload_n C 0 dX10_step_17 rfl rfl ?_
        refine gfX10_54 C (ty_0 hY) dX10_step_18 ?_
        refine h_tref (b := 26) (rf_0_8 hY) ?_
        refine gfX10_239 C (ty_26 hY) dX10_step_21 ?_
        refine h_ishl C dX10_step_24 ?_
        refine h_icmp_lt C 30 dX10_step_25 (by decide) (fun c_25 => ?_) (fun c_25 => ?_)
        · refine h_aload_n C 0 dX10_step_30 rfl rfl ?_
          refine gfX10_54 C (ty_0 hY) dX10_step_31 ?_
          refine h_tref (b := 26) (rf_0_8 hY) ?_
          refine h_iload_n C 1 dX10_step_34 rfl rfl ?_
          refine h_iload_n C 2 dX10_step_35 rfl rfl ?_
          refine h_callV C (m_X8_taken hY h0) caX10_240 kX8 (ty_26 hY) ⟨by decide, by decide, by decide, by decide⟩ rfl rfl (Nat.le_of_ble_eq_true rfl) dX10_step_36 ?_
          rintro v σ' (⟨q1, rfl, h2⟩ | ⟨q1, rfl, h2⟩)
          · rw [h2]; clear h2
            show hW _ _ _ _ _ _ _ _ _ _ _ _ _ 39 [(0, .ref (ad G 0)), (1, .int x), (2, .int y)] [.int 1] (planAdd σ x y) 0 0
            refine h_if_eq C 54 dX10_step_39 (by decide) (fun c_39 => ?_) (fun c_39 => ?_)
            · exact absurd c_39 (by decide)
            · refine h_aload_n C 0 dX10_step_42 rfl rfl ?_
              refine gfX10_54 C (ty_0 hY) dX10_step_43 ?_
              refine h_tref (b := 26) (rf_0_8 hY) ?_
              refine gfX10_239 C (ty_26 hY) dX10_step_46 ?_
              refine h_iconst C 1 dX10_step_49 (by decide) ?_
              refine h_isub C dX10_step_50 ?_
              refine h_goto C 56 dX10_step_51 (by decide) ?_
              refine h_iret C rfl (Nat.zero_le _) (Nat.zero_le _) dX10_step_56 ?_
              refine ⟨_, rfl, Or.inr (Or.inr ⟨⟨Int32.not_lt.mp c_2, Int32.not_le.mp c_8, Int32.not_lt.mp c_12, c_25⟩, q1, ?_, rfl⟩)⟩
              simp [planAdd, gI_sI]
          · rw [h2]; clear h2
            show hW _ _ _ _ _ _ _ _ _ _ _ _ _ 39 [(0, .ref (ad G 0)), (1, .int x), (2, .int y)] [.int 0] σ 0 0
            refine h_if_eq C 54 dX10_step_39 (by decide) (fun c_39 => ?_) (fun c_39 => ?_)
            · refine h_bipush C (-2) dX10_step_54 (by decide) ?_
              refine h_iret C rfl (Nat.zero_le _) (Nat.zero_le _) dX10_step_56 ?_
              exact ⟨_, rfl, Or.inr (Or.inl ⟨⟨Int32.not_lt.mp c_2, Int32.not_le.mp c_8, Int32.not_lt.mp c_12, c_25⟩, q1, rfl, rfl⟩)⟩
            · exact absurd c_39 (by decide)
        · refine h_iconst C (-1) dX10_step_28 (by decide) ?_
          refine h_iret C rfl (Nat.zero_le _) (Nat.zero_le _) dX10_step_29 ?_
          exact ⟨_, rfl, Or.inl ⟨fun q => c_25 q.2.2.2, rfl, rfl⟩⟩
theorem fewQ_LY {σ σ' : ha_St} (h : fewQ σ σ') (hY : LY σ) : LY σ' := by
  rcases h with ⟨-, rfl⟩ | ⟨-, s, ⟨n, d, s9, -, -, -, e9, f9⟩, rfl, ft⟩
  · exact hY
  · rw [e9]
    exact (f9.LY (ft.LY hY)).same rfl rfl rfl
set_option maxRecDepth 100000 in
set_option maxHeartbeats 4000000 in
theorem m_X10_setups {G : ha_G} {l : Launch} {σ : ha_St} (hY : LY σ) (hs0 : 0 ≤ gI σ 26 2) (hs1 : gI σ 26 2 ≤ 12) : hM G l yX10_setups cX10_setups 1 (some .int) { frames := 5, cells := 0, slots := 0, locals := 119 } [.ref (ad G 0)] σ (fun v σ' => v = some (.int (gI σ' 26 6)) ∧ fewQ σ σ') := by
  refine hM_ofF [(0, .ref (ad G 0))] (by decide +kernel) (Nat.le_of_ble_eq_true rfl) rfl ?_
  intro p e s m args below meth c0 C hin
  refine h_aload_n C 0 dX10_setups_0 rfl rfl ?_
  refine gfX10_54 C (ty_0 hY) dX10_setups_1 ?_
  refine h_tref (b := 26) (rf_0_8 hY) ?_
  refine h_callV C (m_X8_findFewest hY hs0 hs1) caX10_242 kX8 (ty_26 hY) ⟨by decide, by decide, by decide, by decide⟩ rfl rfl (Nat.le_of_ble_eq_true rfl) dX10_setups_4 ?_
  rintro v σ1 ⟨rfl, hf⟩
  have hY : LY σ1 := fewQ_LY hf hY
  show hW _ _ _ _ _ _ _ _ _ _ _ _ _ 7 [(0, .ref (ad G 0))] [] σ1 0 0
  refine h_aload_n C 0 dX10_setups_7 rfl rfl ?_
  refine gfX10_54 C (ty_0 hY) dX10_setups_8 ?_
  refine h_tref (b := 26) (rf_0_8 hY) ?_
  refine gfX10_245 C (ty_26 hY) dX10_setups_11 ?_
  refine h_iret C rfl (Nat.zero_le _) (Nat.zero_le _) dX10_setups_14 ?_
  exact ⟨rfl, hf⟩
def setupQ (σ : ha_St) (i w r : Int32) (σ' : ha_St) : Prop := (¬ (0 ≤ i ∧ 0 ≤ w ∧ w ≤ 1) ∧ r = -1 ∧ σ' = σ) ∨ ((0 ≤ i ∧ 0 ≤ w ∧ w ≤ 1) ∧ fewQ σ σ' ∧ ((¬ (i < gI σ' 26 6 ∧ i < 12) ∧ r = -3) ∨ ((i < gI σ' 26 6 ∧ i < 12) ∧ r = if w = 0 then gI σ' 30 i.toNatClampNeg else gI σ' 31 i.toNatClampNeg)))
set_option maxRecDepth 100000 in
set_option maxHeartbeats 4000000 in
theorem m_X10_setup {G : ha_G} {l : Launch} {σ : ha_St} {i w : Int32} (hY : LY σ) (hs0 : 0 ≤ gI σ 26 2) (hs1 : gI σ 26 2 ≤ 12) : hM G l yX10_setup cX10_setup 3 (some .int) { frames := 5, cells := 0, slots := 0, locals := 119 } [.ref (ad G 0), .int i, .int w] σ (fun v σ' => ∃ r, v = some (.int r) ∧ setupQ σ i w r σ') := by
  refine hM_ofF [(0, .ref (ad G 0)), (1, .int i), (2, .int w)] (by decide +kernel) (Nat.le_of_ble_eq_true rfl) rfl ?_
  intro p e s m args below meth c0 C hin
  refine h_iload_n C 1 dX10_setup_0 rfl rfl ?_
  refine h_if_lt C 13 dX10_setup_1 (by decide) (fun c_1 => ?_) (fun c_1 => ?_)
  · refine h_iconst C (-1) dX10_setup_13 (by decide) ?_
    refine h_iret C rfl (Nat.zero_le _) (Nat.zero_le _) dX10_setup_14 ?_
    exact ⟨_, rfl, Or.inl ⟨fun q => absurd c_1 (Int32.not_lt.mpr q.1), rfl, rfl⟩⟩
  · refine h_iload_n C 2 dX10_setup_4 rfl rfl ?_
    refine h_if_lt C 13 dX10_setup_5 (by decide) (fun c_5 => ?_) (fun c_5 => ?_)
    · refine h_iconst C (-1) dX10_setup_13 (by decide) ?_
      refine h_iret C rfl (Nat.zero_le _) (Nat.zero_le _) dX10_setup_14 ?_
      exact ⟨_, rfl, Or.inl ⟨fun q => absurd c_5 (Int32.not_lt.mpr q.2.1), rfl, rfl⟩⟩
    · refine h_iload_n C 2 dX10_setup_8 rfl rfl ?_
      refine h_iconst C 1 dX10_setup_9 (by decide) ?_
      refine h_icmp_le C 15 dX10_setup_10 (by decide) (fun c_10 => ?_) (fun c_10 => ?_)
      · refine h_aload_n C 0 dX10_setup_15 rfl rfl ?_
        refine gfX10_54 C (ty_0 hY) dX10_setup_16 ?_
        refine h_tref (b := 26) (rf_0_8 hY) ?_
        refine h_callV C (m_X8_findFewest hY hs0 hs1) caX10_242 kX8 (ty_26 hY) ⟨by decide, by decide, by decide, by decide⟩ rfl rfl (Nat.le_of_ble_eq_true rfl) dX10_setup_19 ?_
        rintro v σ1 ⟨rfl, hf⟩
        have hY : LY σ1 := fewQ_LY hf hY
        show hW _ _ _ _ _ _ _ _ _ _ _ _ _ 22 [(0, .ref (ad G 0)), (1, .int i), (2, .int w)] [] σ1 0 0
        refine h_iload_n C 1 dX10_setup_22 rfl rfl ?_
        refine h_aload_n C 0 dX10_setup_23 rfl rfl ?_
        refine gfX10_54 C (ty_0 hY) dX10_setup_24 ?_
        refine h_tref (b := 26) (rf_0_8 hY) ?_
        refine gfX10_245 C (ty_26 hY) dX10_setup_27 ?_
        refine h_icmp_ge C 39 dX10_setup_30 (by decide) (fun c_30 => ?_) (fun c_30 => ?_)
        · refine h_bipush C (-3) dX10_setup_39 (by decide) ?_
          refine h_iret C rfl (Nat.zero_le _) (Nat.zero_le _) dX10_setup_41 ?_
          exact ⟨_, rfl, Or.inr ⟨⟨Int32.not_lt.mp c_1, Int32.not_lt.mp c_5, c_10⟩, hf, Or.inl ⟨fun q => absurd q.1 (Int32.not_lt.mpr c_30), rfl⟩⟩⟩
        · refine h_iload_n C 1 dX10_setup_33 rfl rfl ?_
          refine h_bipush C 12 dX10_setup_34 (by decide) ?_
          refine h_icmp_lt C 42 dX10_setup_36 (by decide) (fun c_36 => ?_) (fun c_36 => ?_)
          · refine h_iload_n C 2 dX10_setup_42 rfl rfl ?_
            refine h_if_ne C 58 dX10_setup_43 (by decide) (fun c_43 => ?_) (fun c_43 => ?_)
            · refine h_aload_n C 0 dX10_setup_58 rfl rfl ?_
              refine gfX10_54 C (ty_0 hY) dX10_setup_59 ?_
              refine h_tref (b := 26) (rf_0_8 hY) ?_
              refine gfX10_251 C (ty_26 hY) dX10_setup_62 ?_
              refine h_tref (b := 31) (rf_26_5 hY) ?_
              refine h_iload_n C 1 dX10_setup_65 rfl rfl ?_
              refine h_iald C (ty_31 hY) (vp32 (N := 12) (Int32.not_lt.mp c_1) c_36 (by decide)) dX10_setup_66 ?_
              refine h_iret C rfl (Nat.zero_le _) (Nat.zero_le _) dX10_setup_67 ?_
              refine ⟨_, rfl, Or.inr ⟨⟨Int32.not_lt.mp c_1, Int32.not_lt.mp c_5, c_10⟩, hf, Or.inr ⟨⟨Int32.not_le.mp c_30, c_36⟩, ?_⟩⟩⟩
              rw [if_neg c_43]
            · refine h_aload_n C 0 dX10_setup_46 rfl rfl ?_
              refine gfX10_54 C (ty_0 hY) dX10_setup_47 ?_
              refine h_tref (b := 26) (rf_0_8 hY) ?_
              refine gfX10_248 C (ty_26 hY) dX10_setup_50 ?_
              refine h_tref (b := 30) (rf_26_4 hY) ?_
              refine h_iload_n C 1 dX10_setup_53 rfl rfl ?_
              refine h_iald C (ty_30 hY) (vp32 (N := 12) (Int32.not_lt.mp c_1) c_36 (by decide)) dX10_setup_54 ?_
              refine h_goto C 67 dX10_setup_55 (by decide) ?_
              refine h_iret C rfl (Nat.zero_le _) (Nat.zero_le _) dX10_setup_67 ?_
              refine ⟨_, rfl, Or.inr ⟨⟨Int32.not_lt.mp c_1, Int32.not_lt.mp c_5, c_10⟩, hf, Or.inr ⟨⟨Int32.not_le.mp c_30, c_36⟩, ?_⟩⟩⟩
              rw [if_pos c_43]
          · refine h_bipush C (-3) dX10_setup_39 (by decide) ?_
            refine h_iret C rfl (Nat.zero_le _) (Nat.zero_le _) dX10_setup_41 ?_
            exact ⟨_, rfl, Or.inr ⟨⟨Int32.not_lt.mp c_1, Int32.not_lt.mp c_5, c_10⟩, hf, Or.inl ⟨fun q => c_36 q.2, rfl⟩⟩⟩
      · refine h_iconst C (-1) dX10_setup_13 (by decide) ?_
        refine h_iret C rfl (Nat.zero_le _) (Nat.zero_le _) dX10_setup_14 ?_
        exact ⟨_, rfl, Or.inl ⟨fun q => c_10 q.2.2, rfl, rfl⟩⟩
def dv6 : Nat → Int32 → Int32
  | 0, x => x
  | n + 1, x => dv6 n x / 6
def toldQ (σ : ha_St) (x n r : Int32) : Prop := (¬ ((0 ≤ x ∧ 1 ≤ n ∧ n ≤ 10) ∧ dv6 n.toNatClampNeg x = 0) ∧ r = -1) ∨ (((0 ≤ x ∧ 1 ≤ n ∧ n ≤ 10) ∧ dv6 n.toNatClampNeg x = 0) ∧ ∃ q, tdP σ x n q ∧ r = if q < 0 then -4 else q)
set_option maxRecDepth 100000 in
set_option maxHeartbeats 4000000 in
theorem m_X10_told {G : ha_G} {l : Launch} {σ : ha_St} {x n : Int32} (hY : LY σ) (hs0 : 0 ≤ gI σ 26 2) (hs1 : gI σ 26 2 ≤ 12) : hM G l yX10_told cX10_told 5 (some .int) { frames := 2, cells := 0, slots := 0, locals := 50 } [.ref (ad G 0), .int x, .int n] σ (fun v σ' => (∃ r, v = some (.int r) ∧ toldQ σ x n r) ∧ σ' = σ) := by
  refine hM_ofF [(0, .ref (ad G 0)), (1, .int x), (2, .int n)] (by decide +kernel) (Nat.le_of_ble_eq_true rfl) rfl ?_
  intro p e s m args below meth c0 C hin
  refine h_iload_n C 1 dX10_told_0 rfl rfl ?_
  refine h_if_lt C 15 dX10_told_1 (by decide) (fun c_1 => ?_) (fun c_1 => ?_)
  · refine h_iconst C (-1) dX10_told_15 (by decide) ?_
    refine h_iret C rfl (Nat.zero_le _) (Nat.zero_le _) dX10_told_16 ?_
    exact ⟨⟨_, rfl, Or.inl ⟨fun q => absurd c_1 (Int32.not_lt.mpr q.1.1), rfl⟩⟩, rfl⟩
  · refine h_iload_n C 2 dX10_told_4 rfl rfl ?_
    refine h_iconst C 1 dX10_told_5 (by decide) ?_
    refine h_icmp_lt C 15 dX10_told_6 (by decide) (fun c_6 => ?_) (fun c_6 => ?_)
    · refine h_iconst C (-1) dX10_told_15 (by decide) ?_
      refine h_iret C rfl (Nat.zero_le _) (Nat.zero_le _) dX10_told_16 ?_
      exact ⟨⟨_, rfl, Or.inl ⟨fun q => absurd c_6 (Int32.not_lt.mpr q.1.2.1), rfl⟩⟩, rfl⟩
    · refine h_iload_n C 2 dX10_told_9 rfl rfl ?_
      refine h_bipush C 10 dX10_told_10 (by decide) ?_
      refine h_icmp_le C 17 dX10_told_12 (by decide) (fun c_12 => ?_) (fun c_12 => ?_)
      · refine h_iload_n C 1 dX10_told_17 rfl rfl ?_
        refine h_istore_n C [(3, .int x), (0, .ref (ad G 0)), (1, .int x), (2, .int n)] dX10_told_18 rfl (by decide) rfl ?_
        refine h_iconst C 0 dX10_told_19 (by decide) ?_
        refine h_istore C [(4, .int 0), (3, .int x), (0, .ref (ad G 0)), (1, .int x), (2, .int n)] dX10_told_20 (by decide) rfl ?_
        refine h_sub [2, 3, 4, 1, 0] rfl ?_
        refine h_loop (α := Int32 × Int32) (fun (i, y) => 0 ≤ i ∧ i ≤ n ∧ y = dv6 i.toNatClampNeg x) (fun (i, y) => tm n i) (fun (i, y) => [(0, .ref (ad G 0)), (1, .int x), (2, .int n), (3, .int y), (4, .int i)]) (fun (i, y) => []) (fun (i, y) => σ) (fun (i, y) => 0) (fun (i, y) => 0) ?_ (0, x) ?_
        · rintro ⟨i, y⟩ hI ih
          show hW _ _ _ _ _ _ _ _ _ _ _ _ _ 22 [(0, .ref (ad G 0)), (1, .int x), (2, .int n), (3, .int y), (4, .int i)] [] σ 0 0
          refine h_iload C 4 dX10_told_22 rfl ?_
          refine h_iload_n C 2 dX10_told_24 rfl rfl ?_
          refine h_icmp_ge C 39 dX10_told_25 (by decide) (fun c_25 => ?_) (fun c_25 => ?_)
          · refine h_iload_n C 3 dX10_told_39 rfl rfl ?_
            refine h_if_eq C 45 dX10_told_40 (by decide) (fun c_40 => ?_) (fun c_40 => ?_)
            · refine h_aload_n C 0 dX10_told_45 rfl rfl ?_
              refine gfX10_54 C (ty_0 hY) dX10_told_46 ?_
              refine h_tref (b := 26) (rf_0_8 hY) ?_
              refine h_iload_n C 1 dX10_told_49 rfl rfl ?_
              refine h_iload_n C 2 dX10_told_50 rfl rfl ?_
              refine h_callV C (m_X8_takenBy hY hs0 hs1 (by have := c_6; clear C; grind)) caX10_254 kX8 (ty_26 hY) ⟨by decide, by decide, by decide, by decide⟩ rfl rfl (Nat.le_of_ble_eq_true rfl) dX10_told_51 ?_
              rintro v σ' ⟨⟨rb, rfl, hb⟩, h2⟩; rw [h2]; clear h2
              show hW _ _ _ _ _ _ _ _ _ _ _ _ _ 54 [(0, .ref (ad G 0)), (1, .int x), (2, .int n), (3, .int y), (4, .int i)] [.int rb] σ 0 0
              refine h_istore C [(4, .int rb), (0, .ref (ad G 0)), (1, .int x), (2, .int n), (3, .int y)] dX10_told_54 (by decide) rfl ?_
              refine h_iload C 0 dX10_told_56 rfl ?_
              refine h_if_ge C 66 dX10_told_58 (by decide) (fun c_58 => ?_) (fun c_58 => ?_)
              · refine h_iload C 0 dX10_told_66 rfl ?_
                refine h_iret C rfl (Nat.zero_le _) (Nat.zero_le _) dX10_told_68 ?_
                have he := eq_end hI.2.1 (Int32.not_lt.mpr c_25)
                have ev := hI.2.2
                rw [he] at ev
                refine ⟨⟨_, rfl, Or.inr ⟨⟨⟨Int32.not_lt.mp c_1, Int32.not_lt.mp c_6, c_12⟩, ev.symm.trans c_40⟩, rb, hb, ?_⟩⟩, rfl⟩
                rw [if_neg (Int32.not_lt.mpr c_58)]
              · refine h_bipush C (-4) dX10_told_61 (by decide) ?_
                refine h_goto C 68 dX10_told_63 (by decide) ?_
                refine h_iret C rfl (Nat.zero_le _) (Nat.zero_le _) dX10_told_68 ?_
                have he := eq_end hI.2.1 (Int32.not_lt.mpr c_25)
                have ev := hI.2.2
                rw [he] at ev
                refine ⟨⟨_, rfl, Or.inr ⟨⟨⟨Int32.not_lt.mp c_1, Int32.not_lt.mp c_6, c_12⟩, ev.symm.trans c_40⟩, rb, hb, ?_⟩⟩, rfl⟩
                rw [if_pos (Int32.not_le.mp c_58)]
            · refine h_iconst C (-1) dX10_told_43 (by decide) ?_
              refine h_iret C rfl (Nat.zero_le _) (Nat.zero_le _) dX10_told_44 ?_
              have he := eq_end hI.2.1 (Int32.not_lt.mpr c_25)
              have ev := hI.2.2
              rw [he] at ev
              exact ⟨⟨_, rfl, Or.inl ⟨fun q => c_40 (ev.trans q.2), rfl⟩⟩, rfl⟩
          · refine h_iload_n C 3 dX10_told_28 rfl rfl ?_
            refine h_bipush C 6 dX10_told_29 (by decide) ?_
            refine h_idiv C dX10_told_31 (by decide) ?_
            refine h_istore_n C [(3, .int (y / 6)), (0, .ref (ad G 0)), (1, .int x), (2, .int n), (4, .int i)] dX10_told_32 rfl (by decide) rfl ?_
            refine h_iinc C [(4, .int (i + 1)), (3, .int (y / 6)), (0, .ref (ad G 0)), (1, .int x), (2, .int n)] 4 (i + 1) dX10_told_33 rfl rfl (by decide) rfl ?_
            refine h_goto C 22 dX10_told_36 (by decide) ?_
            refine h_sub [2, 3, 4, 1, 0] rfl ?_
            refine ih ((i + 1), (y / 6)) ?_ ?_
            · have hlt := Int32.not_le.mp c_25
              refine ⟨(le_succ hI.1 hlt).1, (le_succ hI.1 hlt).2, ?_⟩
              rw [tn_succ hI.1 hlt, hI.2.2]
              rfl
            · exact tm_lt (Int32.not_le.mp c_25)
        · exact ⟨by decide, by have := c_6; clear C; grind, by rw [tn_0]; rfl⟩
      · refine h_iconst C (-1) dX10_told_15 (by decide) ?_
        refine h_iret C rfl (Nat.zero_le _) (Nat.zero_le _) dX10_told_16 ?_
        exact ⟨⟨_, rfl, Or.inl ⟨fun q => c_12 q.1.2.2, rfl⟩⟩, rfl⟩
def meetsQ (σ : ha_St) (i r : Int32) : Prop := (¬ (0 ≤ i ∧ i < gI σ 0 1) ∧ r = -1) ∨ ∃ a, cAt σ i = some a ∧ ((gI σ 32 2 = 0 ∧ r = -3) ∨ (gI σ 32 2 ≠ 0 ∧ ∃ q, firstN σ a q ∧ r = if q < 0 then -2 else q))
set_option maxRecDepth 100000 in
set_option maxHeartbeats 4000000 in
theorem m_X10_meets {G : ha_G} {l : Launch} {σ : ha_St} {i : Int32} (hY : LY σ) (hP : PN σ) (hw0 : 0 ≤ gI σ 32 2) (hw1 : gI σ 32 2 ≤ 40) : hM G l yX10_meets cX10_meets 4 (some .int) { frames := 2, cells := 0, slots := 0, locals := 62 } [.ref (ad G 0), .int i] σ (fun v σ' => (∃ r, v = some (.int r) ∧ meetsQ σ i r) ∧ σ' = σ) := by
  refine hM_ofF [(0, .ref (ad G 0)), (1, .int i)] (by decide +kernel) (Nat.le_of_ble_eq_true rfl) rfl ?_
  intro p e s m args below meth c0 C hin
  refine h_aload_n C 0 dX10_meets_0 rfl rfl ?_
  refine h_iload_n C 1 dX10_meets_1 rfl rfl ?_
  refine h_callV C (m_X10_contactAt hY hP) caX10_90 kX10 (ty_0 hY) ⟨by decide, by decide, by decide, by decide⟩ rfl rfl (Nat.le_of_ble_eq_true rfl) dX10_meets_2 ?_
  rintro v σ' ⟨rfl, h2⟩; rw [h2]; clear h2
  show hW _ _ _ _ _ _ _ _ _ _ _ _ _ 5 [(0, .ref (ad G 0)), (1, .int i)] [rf G (cAt σ i)] σ 0 0
  refine h_topt (fun o_1 => ?_) (fun b_2 o_1 => ?_)
  · refine h_astore_nN C [(2, .null), (0, .ref (ad G 0)), (1, .int i)] dX10_meets_5 rfl (by decide) rfl ?_
    refine h_aload_nN C 0 dX10_meets_6 rfl rfl ?_
    refine h_ifnonnullN C dX10_meets_7 ?_
    refine h_iconst C (-1) dX10_meets_10 (by decide) ?_
    refine h_iret C rfl (Nat.zero_le _) (Nat.zero_le _) dX10_meets_11 ?_
    exact ⟨⟨_, rfl, Or.inl ⟨cAt_none hP o_1, rfl⟩⟩, rfl⟩
  · obtain ⟨t_2, hT_2, ht_2, hb_2, hi_2, hj_2, hr_2⟩ := cAt_some hP o_1
    refine h_astore_n C [(2, .ref (ad G b_2)), (0, .ref (ad G 0)), (1, .int i)] dX10_meets_5 rfl (by decide) rfl ?_
    refine h_aload_n C 0 dX10_meets_6 rfl rfl ?_
    refine h_ifnonnull C 12 dX10_meets_7 (by decide) ?_
    refine h_aload_n C 1 dX10_meets_12 rfl rfl ?_
    refine gfX10_61 C (ty_0 hY) dX10_meets_13 ?_
    refine h_tref (b := 32) (rf_0_9 hY) ?_
    refine gfX10_262 C (ty_32 hY) dX10_meets_16 ?_
    refine h_if_ne C 25 dX10_meets_19 (by decide) (fun c_19 => ?_) (fun c_19 => ?_)
    · refine h_aload_n C 1 dX10_meets_25 rfl rfl ?_
      refine gfX10_61 C (ty_0 hY) dX10_meets_26 ?_
      refine h_tref (b := 32) (rf_0_9 hY) ?_
      refine h_aload_n C 0 dX10_meets_29 rfl rfl ?_
      refine h_callV C (m_X6_firstLineNear hY (by have := hw0; clear C; grind) hw1 hT_2 ht_2) caX10_266 kX6 (ty_32 hY) ⟨by decide, by decide, by decide, by decide⟩ rfl rfl (Nat.le_of_ble_eq_true rfl) dX10_meets_30 ?_
      rintro v σ' ⟨⟨rb, rfl, hb⟩, h2⟩; rw [h2]; clear h2
      show hW _ _ _ _ _ _ _ _ _ _ _ _ _ 33 [(2, .ref (ad G b_2)), (0, .ref (ad G 0)), (1, .int i)] [.int rb] σ 0 0
      refine h_istore_n C [(3, .int rb), (2, .ref (ad G b_2)), (0, .ref (ad G 0)), (1, .int i)] dX10_meets_33 rfl (by decide) rfl ?_
      refine h_iload_n C 0 dX10_meets_34 rfl rfl ?_
      refine h_if_ge C 43 dX10_meets_35 (by decide) (fun c_35 => ?_) (fun c_35 => ?_)
      · refine h_iload_n C 0 dX10_meets_43 rfl rfl ?_
        refine h_iret C rfl (Nat.zero_le _) (Nat.zero_le _) dX10_meets_44 ?_
        refine ⟨⟨_, rfl, Or.inr ⟨_, o_1, Or.inr ⟨c_19, rb, hb, ?_⟩⟩⟩, rfl⟩
        rw [if_neg (Int32.not_lt.mpr c_35)]
      · refine h_bipush C (-2) dX10_meets_38 (by decide) ?_
        refine h_goto C 44 dX10_meets_40 (by decide) ?_
        refine h_iret C rfl (Nat.zero_le _) (Nat.zero_le _) dX10_meets_44 ?_
        refine ⟨⟨_, rfl, Or.inr ⟨_, o_1, Or.inr ⟨c_19, rb, hb, ?_⟩⟩⟩, rfl⟩
        rw [if_pos (Int32.not_le.mp c_35)]
    · refine h_bipush C (-3) dX10_meets_22 (by decide) ?_
      refine h_iret C rfl (Nat.zero_le _) (Nat.zero_le _) dX10_meets_24 ?_
      exact ⟨⟨_, rfl, Or.inr ⟨_, o_1, Or.inl ⟨c_19, rfl⟩⟩⟩, rfl⟩
/-- bits of the numbers that are so -/
def bitsP (P : Nat → Prop) : Nat → Int32 → Prop
  | 0, b => b = 0
  | n + 1, b => ∃ b0, bitsP P n b0 ∧ ((P n ∧ b = b0 ||| (1 <<< (Int32.ofNat n &&& 31))) ∨ (¬ P n ∧ b = b0))
/-- a contact is met: some line is near -/
def metP (σ : ha_St) (i : Nat) : Prop := ∃ a q, gR σ 1 i = some a ∧ firstN σ a q ∧ 0 ≤ q
theorem firstN_det {σ : ha_St} {a : Nat} {q r : Int32} (h : firstN σ a q) (g : firstN σ a r) : q = r := by
  rcases h with ⟨h1, h2, h3, h4⟩ | ⟨h1, h2⟩ <;> rcases g with ⟨g1, g2, g3, g4⟩ | ⟨g1, g2⟩
  · by_cases e : q < r
    · exact absurd h3 (g4 q h1 e)
    · by_cases e2 : r < q
      · exact absurd g3 (h4 r g1 e2)
      · grind
  · exact absurd h3 (g2 q h1 h2)
  · exact absurd g3 (h2 r g1 g2)
  · rw [h1, g1]
set_option maxRecDepth 100000 in
set_option maxHeartbeats 4000000 in
theorem m_X10_met {G : ha_G} {l : Launch} {σ : ha_St} (hY : LY σ) (hP : PN σ) (hw0 : 0 ≤ gI σ 32 2) (hw1 : gI σ 32 2 ≤ 40) : hM G l yX10_met cX10_met 4 (some .int) { frames := 2, cells := 0, slots := 0, locals := 62 } [.ref (ad G 0)] σ (fun v σ' => (∃ r, v = some (.int r) ∧ ((gI σ 32 2 = 0 ∧ r = -3) ∨ (gI σ 32 2 ≠ 0 ∧ bitsP (metP σ) (gI σ 0 1).toNatClampNeg r))) ∧ σ' = σ) := by
  refine hM_ofF [(0, .ref (ad G 0))] (by decide +kernel) (Nat.le_of_ble_eq_true rfl) rfl ?_
  intro p e s m args below meth c0 C hin
  refine h_aload_n C 0 dX10_met_0 rfl rfl ?_
  refine gfX10_61 C (ty_0 hY) dX10_met_1 ?_
  refine h_tref (b := 32) (rf_0_9 hY) ?_
  refine gfX10_262 C (ty_32 hY) dX10_met_4 ?_
  refine h_if_ne C 13 dX10_met_7 (by decide) (fun c_7 => ?_) (fun c_7 => ?_)
  · refine h_iconst C 0 dX10_met_13 (by decide) ?_
    refine h_istore_n C [(1, .int 0), (0, .ref (ad G 0))] dX10_met_14 rfl (by decide) rfl ?_
    refine h_iconst C 0 dX10_met_15 (by decide) ?_
    refine h_istore_n C [(2, .int 0), (1, .int 0), (0, .ref (ad G 0))] dX10_met_16 rfl (by decide) rfl ?_
    refine h_sub [2, 1, 0] rfl ?_
    refine h_loop (α := Int32 × Int32) (fun (i, b) => 0 ≤ i ∧ i ≤ gI σ 0 1 ∧ bitsP (metP σ) i.toNatClampNeg b) (fun (i, b) => tm (gI σ 0 1) i) (fun (i, b) => [(0, .ref (ad G 0)), (1, .int b), (2, .int i)]) (fun (i, b) => []) (fun (i, b) => σ) (fun (i, b) => 0) (fun (i, b) => 0) ?_ (0, 0) ?_
    · rintro ⟨i, b⟩ hI ih
      show hW _ _ _ _ _ _ _ _ _ _ _ _ _ 17 [(0, .ref (ad G 0)), (1, .int b), (2, .int i)] [] σ 0 0
      refine h_iload_n C 2 dX10_met_17 rfl rfl ?_
      refine h_aload_n C 0 dX10_met_18 rfl rfl ?_
      refine gfX10_15 C (ty_0 hY) dX10_met_19 ?_
      refine h_icmp_ge C 58 dX10_met_22 (by decide) (fun c_22 => ?_) (fun c_22 => ?_)
      · refine h_iload_n C 1 dX10_met_58 rfl rfl ?_
        refine h_iret C rfl (Nat.zero_le _) (Nat.zero_le _) dX10_met_59 ?_
        have he := eq_end hI.2.1 (Int32.not_lt.mpr c_22)
        rw [he] at hI
        exact ⟨⟨_, rfl, Or.inr ⟨c_7, hI.2.2⟩⟩, rfl⟩
      · refine h_aload_n C 0 dX10_met_25 rfl rfl ?_
        refine h_iload_n C 2 dX10_met_26 rfl rfl ?_
        refine h_callV C (m_X10_contactAt hY hP) caX10_90 kX10 (ty_0 hY) ⟨by decide, by decide, by decide, by decide⟩ rfl rfl (Nat.le_of_ble_eq_true rfl) dX10_met_27 ?_
        rintro v σ' ⟨rfl, h2⟩; rw [h2]; clear h2
        show hW _ _ _ _ _ _ _ _ _ _ _ _ _ 30 [(0, .ref (ad G 0)), (1, .int b), (2, .int i)] [rf G (cAt σ i)] σ 0 0
        refine h_topt (fun o_1 => ?_) (fun b_2 o_1 => ?_)
        · refine h_astore_nN C [(3, .null), (0, .ref (ad G 0)), (1, .int b), (2, .int i)] dX10_met_30 rfl (by decide) rfl ?_
          refine h_aload_nN C 0 dX10_met_31 rfl rfl ?_
          refine h_ifnullN C 52 dX10_met_32 (by decide) ?_
          refine h_iinc C [(2, .int (i + 1)), (3, .null), (0, .ref (ad G 0)), (1, .int b)] 3 (i + 1) dX10_met_52 rfl rfl (by decide) rfl ?_
          refine h_goto C 17 dX10_met_55 (by decide) ?_
          refine h_sub [2, 3, 0] rfl ?_
          refine ih ((i + 1), b) ?_ ?_
          · have hlt := Int32.not_le.mp c_22
            refine ⟨(le_succ hI.1 hlt).1, (le_succ hI.1 hlt).2, ?_⟩
            rw [tn_succ hI.1 hlt]
            exact absurd ⟨hI.1, hlt⟩ (cAt_none hP o_1)
          · exact tm_lt (Int32.not_le.mp c_22)
        · obtain ⟨t_2, hT_2, ht_2, hb_2, hi_2, hj_2, hr_2⟩ := cAt_some hP o_1
          refine h_astore_n C [(3, .ref (ad G b_2)), (0, .ref (ad G 0)), (1, .int b), (2, .int i)] dX10_met_30 rfl (by decide) rfl ?_
          refine h_aload_n C 0 dX10_met_31 rfl rfl ?_
          refine h_ifnull C dX10_met_32 ?_
          refine h_aload_n C 1 dX10_met_35 rfl rfl ?_
          refine gfX10_61 C (ty_0 hY) dX10_met_36 ?_
          refine h_tref (b := 32) (rf_0_9 hY) ?_
          refine h_aload_n C 0 dX10_met_39 rfl rfl ?_
          refine h_callV C (m_X6_firstLineNear hY (by have := hw0; clear C; grind) hw1 hT_2 ht_2) caX10_266 kX6 (ty_32 hY) ⟨by decide, by decide, by decide, by decide⟩ rfl rfl (Nat.le_of_ble_eq_true rfl) dX10_met_40 ?_
          rintro v σ' ⟨⟨rb, rfl, hb⟩, h2⟩; rw [h2]; clear h2
          show hW _ _ _ _ _ _ _ _ _ _ _ _ _ 43 [(3, .ref (ad G b_2)), (0, .ref (ad G 0)), (1, .int b), (2, .int i)] [.int rb] σ 0 0
          refine h_if_lt C 52 dX10_met_43 (by decide) (fun c_43 => ?_) (fun c_43 => ?_)
          · refine h_iinc C [(2, .int (i + 1)), (3, .ref (ad G b_2)), (0, .ref (ad G 0)), (1, .int b)] 3 (i + 1) dX10_met_52 rfl rfl (by decide) rfl ?_
            refine h_goto C 17 dX10_met_55 (by decide) ?_
            refine h_sub [2, 3, 0] rfl ?_
            refine ih ((i + 1), b) ?_ ?_
            · have hlt := Int32.not_le.mp c_22
              refine ⟨(le_succ hI.1 hlt).1, (le_succ hI.1 hlt).2, ?_⟩
              rw [tn_succ hI.1 hlt]
              exact ⟨b, hI.2.2, Or.inr ⟨fun ⟨a, q, g1, g2, g3⟩ => absurd (firstN_det hb (by rw [hr_2] at g1; cases g1; exact g2) ▸ g3) (Int32.not_le.mpr c_43), rfl⟩⟩
            · exact tm_lt (Int32.not_le.mp c_22)
          · refine h_iload_n C 2 dX10_met_46 rfl rfl ?_
            refine h_iconst C 1 dX10_met_47 (by decide) ?_
            refine h_iload_n C 3 dX10_met_48 rfl rfl ?_
            refine h_ishl C dX10_met_49 ?_
            refine h_ior C dX10_met_50 ?_
            refine h_istore_n C [(1, .int (b ||| (1 <<< (i &&& 31)))), (3, .ref (ad G b_2)), (0, .ref (ad G 0)), (2, .int i)] dX10_met_51 rfl (by decide) rfl ?_
            refine h_iinc C [(2, .int (i + 1)), (1, .int (b ||| (1 <<< (i &&& 31)))), (3, .ref (ad G b_2)), (0, .ref (ad G 0))] 3 (i + 1) dX10_met_52 rfl rfl (by decide) rfl ?_
            refine h_goto C 17 dX10_met_55 (by decide) ?_
            refine h_sub [3, 1, 0] rfl ?_
            refine ih ((i + 1), (b ||| (1 <<< (i &&& 31)))) ?_ ?_
            · have hlt := Int32.not_le.mp c_22
              refine ⟨(le_succ hI.1 hlt).1, (le_succ hI.1 hlt).2, ?_⟩
              rw [tn_succ hI.1 hlt]
              exact ⟨b, hI.2.2, Or.inl ⟨⟨_, rb, hr_2, hb, Int32.not_lt.mp c_43⟩, by rw [nI_tn hI.1]⟩⟩
            · exact tm_lt (Int32.not_le.mp c_22)
    · exact ⟨by decide, hP.1, by rw [tn_0]; rfl⟩
  · refine h_bipush C (-3) dX10_met_10 (by decide) ?_
    refine h_iret C rfl (Nat.zero_le _) (Nat.zero_le _) dX10_met_12 ?_
    exact ⟨⟨_, rfl, Or.inl ⟨c_7, rfl⟩⟩, rfl⟩
