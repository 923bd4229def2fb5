set_option maxRecDepth 100000 in
set_option maxHeartbeats 4000000 in
theorem m_J9_abs_067f4 {G : ha_G} {l : Launch} {σ : ha_St} {x : Int64} : hM G l yJ9_abs_067f4 cJ9_abs_067f4 2 (some .long) { frames := 0, cells := 0, slots := 0, locals := 0 } [.long x] σ (fun v σ' => v = some (.long (if x < 0 then -x else x)) ∧ σ' = σ) := by
  refine hM_ofF [(0, .long x)] (by decide +kernel) (Nat.le_of_ble_eq_true rfl) rfl ?_
  intro p e s m args below meth c0 C hin
  refine h_lload_n C 0 dJ9_abs_067f4_0 rfl rfl ?_
  refine h_lconst C 0 dJ9_abs_067f4_1 rfl ?_
  refine h_lcmp C dJ9_abs_067f4_2 ?_
  refine h_if_ge C 11 dJ9_abs_067f4_3 (by decide) (fun c_3 => ?_) (fun c_3 => ?_)
  · refine h_lload_n C 0 dJ9_abs_067f4_11 rfl rfl ?_
    refine h_lret C rfl (Nat.zero_le _) (Nat.zero_le _) dJ9_abs_067f4_12 ?_
    clear C hin
    refine ⟨?_, rfl⟩
    unfold lg_cmp at *
    grind
  · refine h_lload_n C 0 dJ9_abs_067f4_6 rfl rfl ?_
    refine h_lneg C dJ9_abs_067f4_7 ?_
    refine h_goto C 12 dJ9_abs_067f4_8 (by decide) ?_
    refine h_lret C rfl (Nat.zero_le _) (Nat.zero_le _) dJ9_abs_067f4_12 ?_
    clear C hin
    refine ⟨?_, rfl⟩
    unfold lg_cmp at *
    grind
set_option maxRecDepth 100000 in
set_option maxHeartbeats 4000000 in
theorem m_J9_max_f86c9 {G : ha_G} {l : Launch} {σ : ha_St} {x y : Int64} : hM G l yJ9_max_f86c9 cJ9_max_f86c9 4 (some .long) { frames := 0, cells := 0, slots := 0, locals := 0 } [.long x, .long y] σ (fun v σ' => v = some (.long (if x < y then y else x)) ∧ σ' = σ) := by
  refine hM_ofF [(0, .long x), (2, .long y)] (by decide +kernel) (Nat.le_of_ble_eq_true rfl) rfl ?_
  intro p e s m args below meth c0 C hin
  refine h_lload_n C 0 dJ9_max_f86c9_0 rfl rfl ?_
  refine h_lload_n C 1 dJ9_max_f86c9_1 rfl rfl ?_
  refine h_lcmp C dJ9_max_f86c9_2 ?_
  refine h_if_lt C 10 dJ9_max_f86c9_3 (by decide) (fun c_3 => ?_) (fun c_3 => ?_)
  · refine h_lload_n C 1 dJ9_max_f86c9_10 rfl rfl ?_
    refine h_lret C rfl (Nat.zero_le _) (Nat.zero_le _) dJ9_max_f86c9_11 ?_
    clear C hin
    refine ⟨?_, rfl⟩
    unfold lg_cmp at *
    grind
  · refine h_lload_n C 0 dJ9_max_f86c9_6 rfl rfl ?_
    refine h_goto C 11 dJ9_max_f86c9_7 (by decide) ?_
    refine h_lret C rfl (Nat.zero_le _) (Nat.zero_le _) dJ9_max_f86c9_11 ?_
    clear C hin
    refine ⟨?_, rfl⟩
    unfold lg_cmp at *
    grind
set_option maxRecDepth 100000 in
set_option maxHeartbeats 4000000 in
theorem m_J9_min_f86c9 {G : ha_G} {l : Launch} {σ : ha_St} {x y : Int64} : hM G l yJ9_min_f86c9 cJ9_min_f86c9 4 (some .long) { frames := 0, cells := 0, slots := 0, locals := 0 } [.long x, .long y] σ (fun v σ' => v = some (.long (if y < x then y else x)) ∧ σ' = σ) := by
  refine hM_ofF [(0, .long x), (2, .long y)] (by decide +kernel) (Nat.le_of_ble_eq_true rfl) rfl ?_
  intro p e s m args below meth c0 C hin
  refine h_lload_n C 0 dJ9_min_f86c9_0 rfl rfl ?_
  refine h_lload_n C 1 dJ9_min_f86c9_1 rfl rfl ?_
  refine h_lcmp C dJ9_min_f86c9_2 ?_
  refine h_if_gt C 10 dJ9_min_f86c9_3 (by decide) (fun c_3 => ?_) (fun c_3 => ?_)
  · refine h_lload_n C 1 dJ9_min_f86c9_10 rfl rfl ?_
    refine h_lret C rfl (Nat.zero_le _) (Nat.zero_le _) dJ9_min_f86c9_11 ?_
    clear C hin
    refine ⟨?_, rfl⟩
    unfold lg_cmp at *
    grind
  · refine h_lload_n C 0 dJ9_min_f86c9_6 rfl rfl ?_
    refine h_goto C 11 dJ9_min_f86c9_7 (by decide) ?_
    refine h_lret C rfl (Nat.zero_le _) (Nat.zero_le _) dJ9_min_f86c9_11 ?_
    clear C hin
    refine ⟨?_, rfl⟩
    unfold lg_cmp at *
    grind
set_option maxRecDepth 100000 in
set_option maxHeartbeats 4000000 in
theorem m_J9_min_7cf53 {G : ha_G} {l : Launch} {σ : ha_St} {x y : Int32} : hM G l yJ9_min_7cf53 cJ9_min_7cf53 2 (some .int) { frames := 0, cells := 0, slots := 0, locals := 0 } [.int x, .int y] σ (fun v σ' => v = some (.int (if y < x then y else x)) ∧ σ' = σ) := by
  refine hM_ofF [(0, .int x), (1, .int y)] (by decide +kernel) (Nat.le_of_ble_eq_true rfl) rfl ?_
  intro p e s m args below meth c0 C hin
  refine h_iload_n C 0 dJ9_min_7cf53_0 rfl rfl ?_
  refine h_iload_n C 1 dJ9_min_7cf53_1 rfl rfl ?_
  refine h_icmp_gt C 9 dJ9_min_7cf53_2 (by decide) (fun c_2 => ?_) (fun c_2 => ?_)
  · refine h_iload_n C 1 dJ9_min_7cf53_9 rfl rfl ?_
    refine h_iret C rfl (Nat.zero_le _) (Nat.zero_le _) dJ9_min_7cf53_10 ?_
    clear C hin
    refine ⟨?_, rfl⟩
    grind
  · refine h_iload_n C 0 dJ9_min_7cf53_5 rfl rfl ?_
    refine h_goto C 10 dJ9_min_7cf53_6 (by decide) ?_
    refine h_iret C rfl (Nat.zero_le _) (Nat.zero_le _) dJ9_min_7cf53_10 ?_
    clear C hin
    refine ⟨?_, rfl⟩
    grind
def hFd (x y : Int64) : Int64 := if (x ^^^ y) < 0 ∧ ¬ x / y * y = x then x / y - 1 else x / y
set_option maxRecDepth 100000 in
set_option maxHeartbeats 4000000 in
theorem m_J9_floorDiv_f86c9 {G : ha_G} {l : Launch} {σ : ha_St} {x y : Int64} (hy : ¬ y = 0) : hM G l yJ9_floorDiv_f86c9 cJ9_floorDiv_f86c9 6 (some .long) { frames := 0, cells := 0, slots := 0, locals := 0 } [.long x, .long y] σ (fun v σ' => v = some (.long (hFd x y)) ∧ σ' = σ) := by
  refine hM_ofF [(0, .long x), (2, .long y)] (by decide +kernel) (Nat.le_of_ble_eq_true rfl) rfl ?_
  intro p e s m args below meth c0 C hin
  refine h_lload_n C 0 dJ9_floorDiv_f86c9_0 rfl rfl ?_
  refine h_lload_n C 1 dJ9_floorDiv_f86c9_1 rfl rfl ?_
  refine h_ldiv C dJ9_floorDiv_f86c9_2 hy ?_
  refine h_lstore C [(4, .long (x / y)), (0, .long x), (2, .long y)] dJ9_floorDiv_f86c9_3 (by decide) rfl ?_
  refine h_lload_n C 1 dJ9_floorDiv_f86c9_5 rfl rfl ?_
  refine h_lload_n C 2 dJ9_floorDiv_f86c9_6 rfl rfl ?_
  refine h_lxor C dJ9_floorDiv_f86c9_7 ?_
  refine h_lconst C 0 dJ9_floorDiv_f86c9_8 rfl ?_
  refine h_lcmp C dJ9_floorDiv_f86c9_9 ?_
  refine h_if_ge C 27 dJ9_floorDiv_f86c9_10 (by decide) (fun c_10 => ?_) (fun c_10 => ?_)
  · refine h_lload C 0 dJ9_floorDiv_f86c9_27 rfl ?_
    refine h_lret C rfl (Nat.zero_le _) (Nat.zero_le _) dJ9_floorDiv_f86c9_29 ?_
    clear C hin
    refine ⟨?_, rfl⟩
    unfold lg_cmp at *
    unfold hFd
    grind
  · refine h_lload C 0 dJ9_floorDiv_f86c9_13 rfl ?_
    refine h_lload_n C 2 dJ9_floorDiv_f86c9_15 rfl rfl ?_
    refine h_lmul C dJ9_floorDiv_f86c9_16 ?_
    refine h_lload_n C 1 dJ9_floorDiv_f86c9_17 rfl rfl ?_
    refine h_lcmp C dJ9_floorDiv_f86c9_18 ?_
    refine h_if_eq C 27 dJ9_floorDiv_f86c9_19 (by decide) (fun c_19 => ?_) (fun c_19 => ?_)
    · refine h_lload C 0 dJ9_floorDiv_f86c9_27 rfl ?_
      refine h_lret C rfl (Nat.zero_le _) (Nat.zero_le _) dJ9_floorDiv_f86c9_29 ?_
      clear C hin
      refine ⟨?_, rfl⟩
      unfold lg_cmp at *
      unfold hFd
      grind
    · refine h_lload C 0 dJ9_floorDiv_f86c9_22 rfl ?_
      refine h_lconst C 1 dJ9_floorDiv_f86c9_24 rfl ?_
      refine h_lsub C dJ9_floorDiv_f86c9_25 ?_
      refine h_lret C rfl (Nat.zero_le _) (Nat.zero_le _) dJ9_floorDiv_f86c9_26 ?_
      clear C hin
      refine ⟨?_, rfl⟩
      unfold lg_cmp at *
      unfold hFd
      grind
