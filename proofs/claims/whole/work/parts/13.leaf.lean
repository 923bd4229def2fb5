set_option maxRecDepth 100000 in
set_option maxHeartbeats 4000000 in
theorem m_X10_isWithin {G : ha_G} {l : Launch} {σ : ha_St} {x y : Int32} : hM G l yX10_isWithin cX10_isWithin 2 (some .boolean) { frames := 0, cells := 0, slots := 0, locals := 0 } [.int x, .int y] σ (fun v σ' => v = some (.int (if -y ≤ x ∧ x ≤ y then 1 else 0)) ∧ σ' = σ) := by
  refine hM_ofF [(0, .int x), (1, .int y)] (by decide +kernel) (Nat.le_of_ble_eq_true rfl) rfl ?_
  intro p e s m args below meth c0 C hin
  refine h_iload_n C 0 dX10_isWithin_0 rfl rfl ?_
  refine h_iload_n C 1 dX10_isWithin_1 rfl rfl ?_
  refine h_ineg C dX10_isWithin_2 ?_
  refine h_icmp_lt C 15 dX10_isWithin_3 (by decide) (fun c_3 => ?_) (fun c_3 => ?_)
  · refine h_iconst C 0 dX10_isWithin_15 (by decide) ?_
    refine h_zret C rfl (by decide) (Nat.zero_le _) (Nat.zero_le _) dX10_isWithin_16 ?_
    clear C hin
    refine ⟨?_, rfl⟩
    grind
  · refine h_iload_n C 0 dX10_isWithin_6 rfl rfl ?_
    refine h_iload_n C 1 dX10_isWithin_7 rfl rfl ?_
    refine h_icmp_gt C 15 dX10_isWithin_8 (by decide) (fun c_8 => ?_) (fun c_8 => ?_)
    · refine h_iconst C 0 dX10_isWithin_15 (by decide) ?_
      refine h_zret C rfl (by decide) (Nat.zero_le _) (Nat.zero_le _) dX10_isWithin_16 ?_
      clear C hin
      refine ⟨?_, rfl⟩
      grind
    · refine h_iconst C 1 dX10_isWithin_11 (by decide) ?_
      refine h_goto C 16 dX10_isWithin_12 (by decide) ?_
      refine h_zret C rfl (by decide) (Nat.zero_le _) (Nat.zero_le _) dX10_isWithin_16 ?_
      clear C hin
      refine ⟨?_, rfl⟩
      grind
set_option maxRecDepth 100000 in
set_option maxHeartbeats 4000000 in
theorem m_X10_isPlace {G : ha_G} {l : Launch} {σ : ha_St} {x y : Int32} : hM G l yX10_isPlace cX10_isPlace 2 (some .boolean) { frames := 1, cells := 0, slots := 0, locals := 21 } [.int x, .int y] σ (fun v σ' => v = some (.int (if -100 ≤ x ∧ x ≤ 100 ∧ -100 ≤ y ∧ y ≤ 100 then 1 else 0)) ∧ σ' = σ) := by
  refine hM_ofF [(0, .int x), (1, .int y)] (by decide +kernel) (Nat.le_of_ble_eq_true rfl) rfl ?_
  intro p e s m args below meth c0 C hin
  refine h_iload_n C 0 dX10_isPlace_0 rfl rfl ?_
  refine h_bipush C 100 dX10_isPlace_1 (by decide) ?_
  refine h_callS C m_X10_isWithin caX10_258 ⟨by decide, by decide, by decide, by decide⟩ rfl rfl (Nat.le_of_ble_eq_true rfl) dX10_isPlace_3 ?_
  rintro v σ' ⟨rfl, h2⟩; rw [h2]; clear h2
  show hW _ _ _ _ _ _ _ _ _ _ _ _ _ 6 [(0, .int x), (1, .int y)] [.int (if -100 ≤ x ∧ x ≤ 100 then 1 else 0)] σ 0 0
  refine h_if_eq C 22 dX10_isPlace_6 (by decide) (fun c_6 => ?_) (fun c_6 => ?_)
  · refine h_iconst C 0 dX10_isPlace_22 (by decide) ?_
    refine h_zret C rfl (by decide) (Nat.zero_le _) (Nat.zero_le _) dX10_isPlace_23 ?_
    clear C hin
    refine ⟨?_, rfl⟩
    grind
  · refine h_iload_n C 1 dX10_isPlace_9 rfl rfl ?_
    refine h_bipush C 100 dX10_isPlace_10 (by decide) ?_
    refine h_callS C m_X10_isWithin caX10_258 ⟨by decide, by decide, by decide, by decide⟩ rfl rfl (Nat.le_of_ble_eq_true rfl) dX10_isPlace_12 ?_
    rintro v σ' ⟨rfl, h2⟩; rw [h2]; clear h2
    show hW _ _ _ _ _ _ _ _ _ _ _ _ _ 15 [(0, .int x), (1, .int y)] [.int (if -100 ≤ y ∧ y ≤ 100 then 1 else 0)] σ 0 0
    refine h_if_eq C 22 dX10_isPlace_15 (by decide) (fun c_15 => ?_) (fun c_15 => ?_)
    · refine h_iconst C 0 dX10_isPlace_22 (by decide) ?_
      refine h_zret C rfl (by decide) (Nat.zero_le _) (Nat.zero_le _) dX10_isPlace_23 ?_
      clear C hin
      refine ⟨?_, rfl⟩
      grind
    · refine h_iconst C 1 dX10_isPlace_18 (by decide) ?_
      refine h_goto C 23 dX10_isPlace_19 (by decide) ?_
      refine h_zret C rfl (by decide) (Nat.zero_le _) (Nat.zero_le _) dX10_isPlace_23 ?_
      clear C hin
      refine ⟨?_, rfl⟩
      grind
set_option maxRecDepth 100000 in
set_option maxHeartbeats 4000000 in
theorem m_X10_isDirection {G : ha_G} {l : Launch} {σ : ha_St} {x : Int32} : hM G l yX10_isDirection cX10_isDirection 1 (some .boolean) { frames := 0, cells := 0, slots := 0, locals := 0 } [.int x] σ (fun v σ' => v = some (.int (if 0 ≤ x ∧ x < 8 then 1 else 0)) ∧ σ' = σ) := by
  refine hM_ofF [(0, .int x)] (by decide +kernel) (Nat.le_of_ble_eq_true rfl) rfl ?_
  intro p e s m args below meth c0 C hin
  refine h_iload_n C 0 dX10_isDirection_0 rfl rfl ?_
  refine h_if_lt C 24 dX10_isDirection_1 (by decide) (fun c_1 => ?_) (fun c_1 => ?_)
  · refine h_iconst C 0 dX10_isDirection_24 (by decide) ?_
    refine h_zret C rfl (by decide) (Nat.zero_le _) (Nat.zero_le _) dX10_isDirection_25 ?_
    clear C hin
    refine ⟨?_, rfl⟩
    grind
  · refine h_iload_n C 0 dX10_isDirection_4 rfl rfl ?_
    refine h_dirX C lkX10_333 rfl dX10_isDirection_5 ?_
    refine h_dirXlen C dX10_isDirection_8 ?_
    refine h_icmp_ge C 24 dX10_isDirection_9 (by decide) (fun c_9 => ?_) (fun c_9 => ?_)
    · refine h_iconst C 0 dX10_isDirection_24 (by decide) ?_
      refine h_zret C rfl (by decide) (Nat.zero_le _) (Nat.zero_le _) dX10_isDirection_25 ?_
      clear C hin
      refine ⟨?_, rfl⟩
      grind
    · refine h_iload_n C 0 dX10_isDirection_12 rfl rfl ?_
      refine h_dirY C lkX10_336 rfl dX10_isDirection_13 ?_
      refine h_dirYlen C dX10_isDirection_16 ?_
      refine h_icmp_ge C 24 dX10_isDirection_17 (by decide) (fun c_17 => ?_) (fun c_17 => ?_)
      · refine h_iconst C 0 dX10_isDirection_24 (by decide) ?_
        refine h_zret C rfl (by decide) (Nat.zero_le _) (Nat.zero_le _) dX10_isDirection_25 ?_
        clear C hin
        refine ⟨?_, rfl⟩
        grind
      · refine h_iconst C 1 dX10_isDirection_20 (by decide) ?_
        refine h_goto C 25 dX10_isDirection_21 (by decide) ?_
        refine h_zret C rfl (by decide) (Nat.zero_le _) (Nat.zero_le _) dX10_isDirection_25 ?_
        clear C hin
        refine ⟨?_, rfl⟩
        grind
set_option maxRecDepth 100000 in
set_option maxHeartbeats 4000000 in
theorem m_X10_isGrip {G : ha_G} {l : Launch} {σ : ha_St} {x y : Int32} : hM G l yX10_isGrip cX10_isGrip 3 (some .boolean) { frames := 0, cells := 0, slots := 0, locals := 0 } [.int x, .int y] σ (fun v σ' => v = some (.int (if (if x = 1 ∨ x = 3 then 1 else 0) ≤ y ∧ y ≤ 20 then 1 else 0)) ∧ σ' = σ) := by
  refine hM_ofF [(0, .int x), (1, .int y)] (by decide +kernel) (Nat.le_of_ble_eq_true rfl) rfl ?_
  intro p e s m args below meth c0 C hin
  refine h_iload_n C 0 dX10_isGrip_0 rfl rfl ?_
  refine h_iconst C 1 dX10_isGrip_1 (by decide) ?_
  refine h_icmp_eq C 10 dX10_isGrip_2 (by decide) (fun c_2 => ?_) (fun c_2 => ?_)
  · refine h_iconst C 1 dX10_isGrip_10 (by decide) ?_
    refine h_goto C 15 dX10_isGrip_11 (by decide) ?_
    refine h_istore_n C [(2, .int 1), (0, .int x), (1, .int y)] dX10_isGrip_15 rfl (by decide) rfl ?_
    refine h_iload_n C 2 dX10_isGrip_16 rfl rfl ?_
    refine h_iload_n C 0 dX10_isGrip_17 rfl rfl ?_
    refine h_icmp_lt C 31 dX10_isGrip_18 (by decide) (fun c_18 => ?_) (fun c_18 => ?_)
    · refine h_iconst C 0 dX10_isGrip_31 (by decide) ?_
      refine h_zret C rfl (by decide) (Nat.zero_le _) (Nat.zero_le _) dX10_isGrip_32 ?_
      clear C hin
      refine ⟨?_, rfl⟩
      grind
    · refine h_iload_n C 2 dX10_isGrip_21 rfl rfl ?_
      refine h_bipush C 20 dX10_isGrip_22 (by decide) ?_
      refine h_icmp_gt C 31 dX10_isGrip_24 (by decide) (fun c_24 => ?_) (fun c_24 => ?_)
      · refine h_iconst C 0 dX10_isGrip_31 (by decide) ?_
        refine h_zret C rfl (by decide) (Nat.zero_le _) (Nat.zero_le _) dX10_isGrip_32 ?_
        clear C hin
        refine ⟨?_, rfl⟩
        grind
      · refine h_iconst C 1 dX10_isGrip_27 (by decide) ?_
        refine h_goto C 32 dX10_isGrip_28 (by decide) ?_
        refine h_zret C rfl (by decide) (Nat.zero_le _) (Nat.zero_le _) dX10_isGrip_32 ?_
        clear C hin
        refine ⟨?_, rfl⟩
        grind
  · refine h_iload_n C 0 dX10_isGrip_5 rfl rfl ?_
    refine h_iconst C 3 dX10_isGrip_6 (by decide) ?_
    refine h_icmp_ne C 14 dX10_isGrip_7 (by decide) (fun c_7 => ?_) (fun c_7 => ?_)
    · refine h_iconst C 0 dX10_isGrip_14 (by decide) ?_
      refine h_istore_n C [(2, .int 0), (0, .int x), (1, .int y)] dX10_isGrip_15 rfl (by decide) rfl ?_
      refine h_iload_n C 2 dX10_isGrip_16 rfl rfl ?_
      refine h_iload_n C 0 dX10_isGrip_17 rfl rfl ?_
      refine h_icmp_lt C 31 dX10_isGrip_18 (by decide) (fun c_18 => ?_) (fun c_18 => ?_)
      · refine h_iconst C 0 dX10_isGrip_31 (by decide) ?_
        refine h_zret C rfl (by decide) (Nat.zero_le _) (Nat.zero_le _) dX10_isGrip_32 ?_
        clear C hin
        refine ⟨?_, rfl⟩
        grind
      · refine h_iload_n C 2 dX10_isGrip_21 rfl rfl ?_
        refine h_bipush C 20 dX10_isGrip_22 (by decide) ?_
        refine h_icmp_gt C 31 dX10_isGrip_24 (by decide) (fun c_24 => ?_) (fun c_24 => ?_)
        · refine h_iconst C 0 dX10_isGrip_31 (by decide) ?_
          refine h_zret C rfl (by decide) (Nat.zero_le _) (Nat.zero_le _) dX10_isGrip_32 ?_
          clear C hin
          refine ⟨?_, rfl⟩
          grind
        · refine h_iconst C 1 dX10_isGrip_27 (by decide) ?_
          refine h_goto C 32 dX10_isGrip_28 (by decide) ?_
          refine h_zret C rfl (by decide) (Nat.zero_le _) (Nat.zero_le _) dX10_isGrip_32 ?_
          clear C hin
          refine ⟨?_, rfl⟩
          grind
    · refine h_iconst C 1 dX10_isGrip_10 (by decide) ?_
      refine h_goto C 15 dX10_isGrip_11 (by decide) ?_
      refine h_istore_n C [(2, .int 1), (0, .int x), (1, .int y)] dX10_isGrip_15 rfl (by decide) rfl ?_
      refine h_iload_n C 2 dX10_isGrip_16 rfl rfl ?_
      refine h_iload_n C 0 dX10_isGrip_17 rfl rfl ?_
      refine h_icmp_lt C 31 dX10_isGrip_18 (by decide) (fun c_18 => ?_) (fun c_18 => ?_)
      · refine h_iconst C 0 dX10_isGrip_31 (by decide) ?_
        refine h_zret C rfl (by decide) (Nat.zero_le _) (Nat.zero_le _) dX10_isGrip_32 ?_
        clear C hin
        refine ⟨?_, rfl⟩
        grind
      · refine h_iload_n C 2 dX10_isGrip_21 rfl rfl ?_
        refine h_bipush C 20 dX10_isGrip_22 (by decide) ?_
        refine h_icmp_gt C 31 dX10_isGrip_24 (by decide) (fun c_24 => ?_) (fun c_24 => ?_)
        · refine h_iconst C 0 dX10_isGrip_31 (by decide) ?_
          refine h_zret C rfl (by decide) (Nat.zero_le _) (Nat.zero_le _) dX10_isGrip_32 ?_
          clear C hin
          refine ⟨?_, rfl⟩
          grind
        · refine h_iconst C 1 dX10_isGrip_27 (by decide) ?_
          refine h_goto C 32 dX10_isGrip_28 (by decide) ?_
          refine h_zret C rfl (by decide) (Nat.zero_le _) (Nat.zero_le _) dX10_isGrip_32 ?_
          clear C hin
          refine ⟨?_, rfl⟩
          grind
set_option maxRecDepth 100000 in
set_option maxHeartbeats 4000000 in
theorem m_X10_isLoad {G : ha_G} {l : Launch} {σ : ha_St} {x y z : Int32} : hM G l yX10_isLoad cX10_isLoad 3 (some .boolean) { frames := 1, cells := 0, slots := 0, locals := 21 } [.int x, .int y, .int z] σ (fun v σ' => v = some (.int (if (-1000 ≤ x ∧ x ≤ 1000) ∧ (-1000 ≤ y ∧ y ≤ 1000) ∧ -1000 ≤ z ∧ z ≤ 1000 then 1 else 0)) ∧ σ' = σ) := by
  refine hM_ofF [(0, .int x), (1, .int y), (2, .int z)] (by decide +kernel) (Nat.le_of_ble_eq_true rfl) rfl ?_
  intro p e s m args below meth c0 C hin
  refine h_iload_n C 0 dX10_isLoad_0 rfl rfl ?_
  refine h_sipush C 1000 dX10_isLoad_1 (by decide) ?_
  refine h_callS C m_X10_isWithin caX10_258 ⟨by decide, by decide, by decide, by decide⟩ rfl rfl (Nat.le_of_ble_eq_true rfl) dX10_isLoad_4 ?_
  rintro v σ' ⟨rfl, h2⟩; rw [h2]; clear h2
  show hW _ _ _ _ _ _ _ _ _ _ _ _ _ 7 [(0, .int x), (1, .int y), (2, .int z)] [.int (if -1000 ≤ x ∧ x ≤ 1000 then 1 else 0)] σ 0 0
  refine h_if_eq C 34 dX10_isLoad_7 (by decide) (fun c_7 => ?_) (fun c_7 => ?_)
  · refine h_iconst C 0 dX10_isLoad_34 (by decide) ?_
    refine h_zret C rfl (by decide) (Nat.zero_le _) (Nat.zero_le _) dX10_isLoad_35 ?_
    clear C hin
    refine ⟨?_, rfl⟩
    grind
  · refine h_iload_n C 1 dX10_isLoad_10 rfl rfl ?_
    refine h_sipush C 1000 dX10_isLoad_11 (by decide) ?_
    refine h_callS C m_X10_isWithin caX10_258 ⟨by decide, by decide, by decide, by decide⟩ rfl rfl (Nat.le_of_ble_eq_true rfl) dX10_isLoad_14 ?_
    rintro v σ' ⟨rfl, h2⟩; rw [h2]; clear h2
    show hW _ _ _ _ _ _ _ _ _ _ _ _ _ 17 [(0, .int x), (1, .int y), (2, .int z)] [.int (if -1000 ≤ y ∧ y ≤ 1000 then 1 else 0)] σ 0 0
    refine h_if_eq C 34 dX10_isLoad_17 (by decide) (fun c_17 => ?_) (fun c_17 => ?_)
    · refine h_iconst C 0 dX10_isLoad_34 (by decide) ?_
      refine h_zret C rfl (by decide) (Nat.zero_le _) (Nat.zero_le _) dX10_isLoad_35 ?_
      clear C hin
      refine ⟨?_, rfl⟩
      grind
    · refine h_iload_n C 2 dX10_isLoad_20 rfl rfl ?_
      refine h_sipush C 1000 dX10_isLoad_21 (by decide) ?_
      refine h_callS C m_X10_isWithin caX10_258 ⟨by decide, by decide, by decide, by decide⟩ rfl rfl (Nat.le_of_ble_eq_true rfl) dX10_isLoad_24 ?_
      rintro v σ' ⟨rfl, h2⟩; rw [h2]; clear h2
      show hW _ _ _ _ _ _ _ _ _ _ _ _ _ 27 [(0, .int x), (1, .int y), (2, .int z)] [.int (if -1000 ≤ z ∧ z ≤ 1000 then 1 else 0)] σ 0 0
      refine h_if_eq C 34 dX10_isLoad_27 (by decide) (fun c_27 => ?_) (fun c_27 => ?_)
      · refine h_iconst C 0 dX10_isLoad_34 (by decide) ?_
        refine h_zret C rfl (by decide) (Nat.zero_le _) (Nat.zero_le _) dX10_isLoad_35 ?_
        clear C hin
        refine ⟨?_, rfl⟩
        grind
      · refine h_iconst C 1 dX10_isLoad_30 (by decide) ?_
        refine h_goto C 35 dX10_isLoad_31 (by decide) ?_
        refine h_zret C rfl (by decide) (Nat.zero_le _) (Nat.zero_le _) dX10_isLoad_35 ?_
        clear C hin
        refine ⟨?_, rfl⟩
        grind
set_option maxRecDepth 100000 in
set_option maxHeartbeats 4000000 in
theorem m_X10_isPull {G : ha_G} {l : Launch} {σ : ha_St} {x : Int32} : hM G l yX10_isPull cX10_isPull 1 (some .boolean) { frames := 0, cells := 0, slots := 0, locals := 0 } [.int x] σ (fun v σ' => v = some (.int (if 0 ≤ x ∧ x ≤ 200 then 1 else 0)) ∧ σ' = σ) := by
  refine hM_ofF [(0, .int x)] (by decide +kernel) (Nat.le_of_ble_eq_true rfl) rfl ?_
  intro p e s m args below meth c0 C hin
  refine h_iload_n C 0 dX10_isPull_0 rfl rfl ?_
  refine h_if_lt C 15 dX10_isPull_1 (by decide) (fun c_1 => ?_) (fun c_1 => ?_)
  · refine h_iconst C 0 dX10_isPull_15 (by decide) ?_
    refine h_zret C rfl (by decide) (Nat.zero_le _) (Nat.zero_le _) dX10_isPull_16 ?_
    clear C hin
    refine ⟨?_, rfl⟩
    grind
  · refine h_iload_n C 0 dX10_isPull_4 rfl rfl ?_
    refine h_sipush C 200 dX10_isPull_5 (by decide) ?_
    refine h_icmp_gt C 15 dX10_isPull_8 (by decide) (fun c_8 => ?_) (fun c_8 => ?_)
    · refine h_iconst C 0 dX10_isPull_15 (by decide) ?_
      refine h_zret C rfl (by decide) (Nat.zero_le _) (Nat.zero_le _) dX10_isPull_16 ?_
      clear C hin
      refine ⟨?_, rfl⟩
      grind
    · refine h_iconst C 1 dX10_isPull_11 (by decide) ?_
      refine h_goto C 16 dX10_isPull_12 (by decide) ?_
      refine h_zret C rfl (by decide) (Nat.zero_le _) (Nat.zero_le _) dX10_isPull_16 ?_
      clear C hin
      refine ⟨?_, rfl⟩
      grind
theorem m_X10_isDirection1 {G : ha_G} {l : Launch} {σ : ha_St} {x : Int32} (h : 0 ≤ x ∧ x < 8) : hM G l yX10_isDirection cX10_isDirection 1 (some .boolean) { frames := 0, cells := 0, slots := 0, locals := 0 } [.int x] σ (fun v σ' => v = some (.int 1) ∧ σ' = σ) :=
  hM_post (fun v σ' q => by rw [if_pos h] at q; exact q) m_X10_isDirection
