/-! ===== constructors ===== -/
theorem tg_new {σ : ha_St} {a t n : Nat} {x : Nat × Nat} (h : gT σ a = x) (ha : a < gn σ) : gT (sN σ t n) a = x := by rw [gT_sN, if_neg (Nat.ne_of_lt ha)]; exact h
def coneI (σ : ha_St) (a : Nat) : ha_St := (sL (sL (sL (sI (sR (sN (sR (sN (sR (sN (sI (sR (sN (sR (sN (sR (sN σ 21 30) a 0 (some (gn σ))) 21 30) a 1 (some (gn σ + 1))) 21 30) a 2 (some (gn σ + 2))) a 3 0) 21 32) a 4 (some (gn σ + 3))) 21 32) a 5 (some (gn σ + 4))) 21 32) a 6 (some (gn σ + 5))) a 7 0) a 8 0) a 9 0) a 10 0)
theorem coneI_n (σ : ha_St) (a : Nat) : gn (coneI σ a) = gn σ + 6 := rfl
theorem coneI_T {σ : ha_St} {a b : Nat} {x : Nat × Nat} (h : gT σ b = x) (hx : b < gn σ) : gT (coneI σ a) b = x := (tg_new (tg_new (tg_new (tg_new (tg_new (tg_new h hx) (Nat.lt_succ_of_lt hx)) (Nat.lt_succ_of_lt (Nat.lt_succ_of_lt hx))) (Nat.lt_succ_of_lt (Nat.lt_succ_of_lt (Nat.lt_succ_of_lt hx)))) (Nat.lt_succ_of_lt (Nat.lt_succ_of_lt (Nat.lt_succ_of_lt (Nat.lt_succ_of_lt hx))))) (Nat.lt_succ_of_lt (Nat.lt_succ_of_lt (Nat.lt_succ_of_lt (Nat.lt_succ_of_lt (Nat.lt_succ_of_lt hx))))))
set_option maxRecDepth 100000 in
set_option maxHeartbeats 4000000 in
theorem m_X2_init {G : ha_G} {l : Launch} {σ : ha_St} {a : Nat} (hT : gT σ a = (3, 0)) (ha : a < gn σ) : hM G l yX2_init cX2_init 1 none { frames := 1, cells := 6, slots := 186, locals := 20 } [.ref (ad G a)] σ (fun v σ' => v = none ∧ σ' = coneI σ a) := by
  refine hM_ofF [(0, .ref (ad G a))] (by decide +kernel) (Nat.le_of_ble_eq_true rfl) rfl ?_
  intro p e s m args below meth c0 C hin
  refine h_aload_n C 0 dX2_init_0 rfl rfl ?_
  refine h_objInit C caX2_3 oi_in oi_co (by decide) (by decide) dX2_init_1 ?_
  refine h_aload_n C 0 dX2_init_4 rfl rfl ?_
  refine h_bipush C 30 dX2_init_5 (by decide) ?_
  refine h_newaL C (N := 30) acL (by decide) (by decide) (by decide) (by decide) (by decide) dX2_init_7 ?_
  have hT : gT (sN σ 21 30) a = (3, 0) := tg_new hT ha
  have ha : a < gn (sN σ 21 30) := Nat.lt_succ_of_lt ha
  refine pfX2_9 C hT hin dX2_init_9 ?_
  refine h_aload_n C 0 dX2_init_12 rfl rfl ?_
  refine h_bipush C 30 dX2_init_13 (by decide) ?_
  refine h_newaL C (N := 30) acL (by decide) (by decide) (by decide) (by decide) (by decide) dX2_init_15 ?_
  have hT : gT (sN (sR (sN σ 21 30) a 0 (some (gn σ))) 21 30) a = (3, 0) := tg_new hT ha
  have ha : a < gn (sN (sR (sN σ 21 30) a 0 (some (gn σ))) 21 30) := Nat.lt_succ_of_lt ha
  refine pfX2_15 C hT hin dX2_init_17 ?_
  refine h_aload_n C 0 dX2_init_20 rfl rfl ?_
  refine h_bipush C 30 dX2_init_21 (by decide) ?_
  refine h_newaL C (N := 30) acL (by decide) (by decide) (by decide) (by decide) (by decide) dX2_init_23 ?_
  have hT : gT (sN (sR (sN (sR (sN σ 21 30) a 0 (some (gn σ))) 21 30) a 1 (some (gn σ + 1))) 21 30) a = (3, 0) := tg_new hT ha
  have ha : a < gn (sN (sR (sN (sR (sN σ 21 30) a 0 (some (gn σ))) 21 30) a 1 (some (gn σ + 1))) 21 30) := Nat.lt_succ_of_lt ha
  refine pfX2_18 C hT hin dX2_init_25 ?_
  refine h_aload_n C 0 dX2_init_28 rfl rfl ?_
  refine h_iconst C 0 dX2_init_29 (by decide) ?_
  refine pfX2_21 C hT dX2_init_30 ?_
  refine h_aload_n C 0 dX2_init_33 rfl rfl ?_
  refine h_bipush C 32 dX2_init_34 (by decide) ?_
  refine h_newaL C (N := 32) acL (by decide) (by decide) (by decide) (by decide) (by decide) dX2_init_36 ?_
  have hT : gT (sN (sI (sR (sN (sR (sN (sR (sN σ 21 30) a 0 (some (gn σ))) 21 30) a 1 (some (gn σ + 1))) 21 30) a 2 (some (gn σ + 2))) a 3 0) 21 32) a = (3, 0) := tg_new hT ha
  have ha : a < gn (sN (sI (sR (sN (sR (sN (sR (sN σ 21 30) a 0 (some (gn σ))) 21 30) a 1 (some (gn σ + 1))) 21 30) a 2 (some (gn σ + 2))) a 3 0) 21 32) := Nat.lt_succ_of_lt ha
  refine pfX2_25 C hT hin dX2_init_38 ?_
  refine h_aload_n C 0 dX2_init_41 rfl rfl ?_
  refine h_bipush C 32 dX2_init_42 (by decide) ?_
  refine h_newaL C (N := 32) acL (by decide) (by decide) (by decide) (by decide) (by decide) dX2_init_44 ?_
  have hT : gT (sN (sR (sN (sI (sR (sN (sR (sN (sR (sN σ 21 30) a 0 (some (gn σ))) 21 30) a 1 (some (gn σ + 1))) 21 30) a 2 (some (gn σ + 2))) a 3 0) 21 32) a 4 (some (gn σ + 3))) 21 32) a = (3, 0) := tg_new hT ha
  have ha : a < gn (sN (sR (sN (sI (sR (sN (sR (sN (sR (sN σ 21 30) a 0 (some (gn σ))) 21 30) a 1 (some (gn σ + 1))) 21 30) a 2 (some (gn σ + 2))) a 3 0) 21 32) a 4 (some (gn σ + 3))) 21 32) := Nat.lt_succ_of_lt ha
  refine pfX2_28 C hT hin dX2_init_46 ?_
  refine h_aload_n C 0 dX2_init_49 rfl rfl ?_
  refine h_bipush C 32 dX2_init_50 (by decide) ?_
  refine h_newaL C (N := 32) acL (by decide) (by decide) (by decide) (by decide) (by decide) dX2_init_52 ?_
  have hT : gT (sN (sR (sN (sR (sN (sI (sR (sN (sR (sN (sR (sN σ 21 30) a 0 (some (gn σ))) 21 30) a 1 (some (gn σ + 1))) 21 30) a 2 (some (gn σ + 2))) a 3 0) 21 32) a 4 (some (gn σ + 3))) 21 32) a 5 (some (gn σ + 4))) 21 32) a = (3, 0) := tg_new hT ha
  have ha : a < gn (sN (sR (sN (sR (sN (sI (sR (sN (sR (sN (sR (sN σ 21 30) a 0 (some (gn σ))) 21 30) a 1 (some (gn σ + 1))) 21 30) a 2 (some (gn σ + 2))) a 3 0) 21 32) a 4 (some (gn σ + 3))) 21 32) a 5 (some (gn σ + 4))) 21 32) := Nat.lt_succ_of_lt ha
  refine pfX2_31 C hT hin dX2_init_54 ?_
  refine h_aload_n C 0 dX2_init_57 rfl rfl ?_
  refine h_iconst C 0 dX2_init_58 (by decide) ?_
  refine pfX2_34 C hT dX2_init_59 ?_
  refine h_aload_n C 0 dX2_init_62 rfl rfl ?_
  refine h_lconst C 0 dX2_init_63 rfl ?_
  refine pfX2_37 C hT dX2_init_64 ?_
  refine h_aload_n C 0 dX2_init_67 rfl rfl ?_
  refine h_lconst C 0 dX2_init_68 rfl ?_
  refine pfX2_41 C hT dX2_init_69 ?_
  refine h_aload_n C 0 dX2_init_72 rfl rfl ?_
  refine h_lconst C 0 dX2_init_73 rfl ?_
  refine pfX2_44 C hT dX2_init_74 ?_
  refine h_vret C rfl (by decide) (by decide) dX2_init_77 ?_
  exact ⟨rfl, rfl⟩
def cutI (σ : ha_St) (a : Nat) : ha_St := (sL (sL (sI (sR (sN (sR (sN (sR (sN σ 20 16) a 0 (some (gn σ))) 20 16) a 1 (some (gn σ + 1))) 20 16) a 2 (some (gn σ + 2))) a 3 0) a 4 0) a 5 0)
theorem cutI_n (σ : ha_St) (a : Nat) : gn (cutI σ a) = gn σ + 3 := rfl
theorem cutI_T {σ : ha_St} {a b : Nat} {x : Nat × Nat} (h : gT σ b = x) (hx : b < gn σ) : gT (cutI σ a) b = x := (tg_new (tg_new (tg_new h hx) (Nat.lt_succ_of_lt hx)) (Nat.lt_succ_of_lt (Nat.lt_succ_of_lt hx)))
set_option maxRecDepth 100000 in
set_option maxHeartbeats 4000000 in
theorem m_X3_init {G : ha_G} {l : Launch} {σ : ha_St} {a : Nat} (hT : gT σ a = (4, 0)) (ha : a < gn σ) : hM G l yX3_init cX3_init 1 none { frames := 1, cells := 3, slots := 48, locals := 20 } [.ref (ad G a)] σ (fun v σ' => v = none ∧ σ' = cutI σ a) := by
  refine hM_ofF [(0, .ref (ad G a))] (by decide +kernel) (Nat.le_of_ble_eq_true rfl) rfl ?_
  intro p e s m args below meth c0 C hin
  refine h_aload_n C 0 dX3_init_0 rfl rfl ?_
  refine h_objInit C caX3_3 oi_in oi_co (by decide) (by decide) dX3_init_1 ?_
  refine h_aload_n C 0 dX3_init_4 rfl rfl ?_
  refine h_bipush C 16 dX3_init_5 (by decide) ?_
  refine h_newaI C (N := 16) acI (by decide) (by decide) (by decide) (by decide) (by decide) dX3_init_7 ?_
  have hT : gT (sN σ 20 16) a = (4, 0) := tg_new hT ha
  have ha : a < gn (sN σ 20 16) := Nat.lt_succ_of_lt ha
  refine pfX3_9 C hT hin dX3_init_9 ?_
  refine h_aload_n C 0 dX3_init_12 rfl rfl ?_
  refine h_bipush C 16 dX3_init_13 (by decide) ?_
  refine h_newaI C (N := 16) acI (by decide) (by decide) (by decide) (by decide) (by decide) dX3_init_15 ?_
  have hT : gT (sN (sR (sN σ 20 16) a 0 (some (gn σ))) 20 16) a = (4, 0) := tg_new hT ha
  have ha : a < gn (sN (sR (sN σ 20 16) a 0 (some (gn σ))) 20 16) := Nat.lt_succ_of_lt ha
  refine pfX3_15 C hT hin dX3_init_17 ?_
  refine h_aload_n C 0 dX3_init_20 rfl rfl ?_
  refine h_bipush C 16 dX3_init_21 (by decide) ?_
  refine h_newaI C (N := 16) acI (by decide) (by decide) (by decide) (by decide) (by decide) dX3_init_23 ?_
  have hT : gT (sN (sR (sN (sR (sN σ 20 16) a 0 (some (gn σ))) 20 16) a 1 (some (gn σ + 1))) 20 16) a = (4, 0) := tg_new hT ha
  have ha : a < gn (sN (sR (sN (sR (sN σ 20 16) a 0 (some (gn σ))) 20 16) a 1 (some (gn σ + 1))) 20 16) := Nat.lt_succ_of_lt ha
  refine pfX3_18 C hT hin dX3_init_25 ?_
  refine h_aload_n C 0 dX3_init_28 rfl rfl ?_
  refine h_iconst C 0 dX3_init_29 (by decide) ?_
  refine pfX3_21 C hT dX3_init_30 ?_
  refine h_aload_n C 0 dX3_init_33 rfl rfl ?_
  refine h_lconst C 0 dX3_init_34 rfl ?_
  refine pfX3_25 C hT dX3_init_35 ?_
  refine h_aload_n C 0 dX3_init_38 rfl rfl ?_
  refine h_lconst C 0 dX3_init_39 rfl ?_
  refine pfX3_29 C hT dX3_init_40 ?_
  refine h_vret C rfl (by decide) (by decide) dX3_init_43 ?_
  exact ⟨rfl, rfl⟩
def missI (σ : ha_St) (a : Nat) : ha_St := (sI (sL (sL (sL (sL (sR (sN (sR (sN (sR (sN (sR (sN σ 21 3) a 0 (some (gn σ))) 21 3) a 1 (some (gn σ + 1))) 21 3) a 2 (some (gn σ + 2))) 21 3) a 3 (some (gn σ + 3))) a 4 0) a 5 1) a 6 0) a 7 1) a 8 (-1))
theorem missI_n (σ : ha_St) (a : Nat) : gn (missI σ a) = gn σ + 4 := rfl
theorem missI_T {σ : ha_St} {a b : Nat} {x : Nat × Nat} (h : gT σ b = x) (hx : b < gn σ) : gT (missI σ a) b = x := (tg_new (tg_new (tg_new (tg_new h hx) (Nat.lt_succ_of_lt hx)) (Nat.lt_succ_of_lt (Nat.lt_succ_of_lt hx))) (Nat.lt_succ_of_lt (Nat.lt_succ_of_lt (Nat.lt_succ_of_lt hx))))
set_option maxRecDepth 100000 in
set_option maxHeartbeats 4000000 in
theorem m_X4_init {G : ha_G} {l : Launch} {σ : ha_St} {a : Nat} (hT : gT σ a = (5, 0)) (ha : a < gn σ) : hM G l yX4_init cX4_init 1 none { frames := 1, cells := 4, slots := 12, locals := 20 } [.ref (ad G a)] σ (fun v σ' => v = none ∧ σ' = missI σ a) := by
  refine hM_ofF [(0, .ref (ad G a))] (by decide +kernel) (Nat.le_of_ble_eq_true rfl) rfl ?_
  intro p e s m args below meth c0 C hin
  refine h_aload_n C 0 dX4_init_0 rfl rfl ?_
  refine h_objInit C caX4_3 oi_in oi_co (by decide) (by decide) dX4_init_1 ?_
  refine h_aload_n C 0 dX4_init_4 rfl rfl ?_
  refine h_iconst C 3 dX4_init_5 (by decide) ?_
  refine h_newaL C (N := 3) acL (by decide) (by decide) (by decide) (by decide) (by decide) dX4_init_6 ?_
  have hT : gT (sN σ 21 3) a = (5, 0) := tg_new hT ha
  have ha : a < gn (sN σ 21 3) := Nat.lt_succ_of_lt ha
  refine pfX4_9 C hT hin dX4_init_8 ?_
  refine h_aload_n C 0 dX4_init_11 rfl rfl ?_
  refine h_iconst C 3 dX4_init_12 (by decide) ?_
  refine h_newaL C (N := 3) acL (by decide) (by decide) (by decide) (by decide) (by decide) dX4_init_13 ?_
  have hT : gT (sN (sR (sN σ 21 3) a 0 (some (gn σ))) 21 3) a = (5, 0) := tg_new hT ha
  have ha : a < gn (sN (sR (sN σ 21 3) a 0 (some (gn σ))) 21 3) := Nat.lt_succ_of_lt ha
  refine pfX4_15 C hT hin dX4_init_15 ?_
  refine h_aload_n C 0 dX4_init_18 rfl rfl ?_
  refine h_iconst C 3 dX4_init_19 (by decide) ?_
  refine h_newaL C (N := 3) acL (by decide) (by decide) (by decide) (by decide) (by decide) dX4_init_20 ?_
  have hT : gT (sN (sR (sN (sR (sN σ 21 3) a 0 (some (gn σ))) 21 3) a 1 (some (gn σ + 1))) 21 3) a = (5, 0) := tg_new hT ha
  have ha : a < gn (sN (sR (sN (sR (sN σ 21 3) a 0 (some (gn σ))) 21 3) a 1 (some (gn σ + 1))) 21 3) := Nat.lt_succ_of_lt ha
  refine pfX4_18 C hT hin dX4_init_22 ?_
  refine h_aload_n C 0 dX4_init_25 rfl rfl ?_
  refine h_iconst C 3 dX4_init_26 (by decide) ?_
  refine h_newaL C (N := 3) acL (by decide) (by decide) (by decide) (by decide) (by decide) dX4_init_27 ?_
  have hT : gT (sN (sR (sN (sR (sN (sR (sN σ 21 3) a 0 (some (gn σ))) 21 3) a 1 (some (gn σ + 1))) 21 3) a 2 (some (gn σ + 2))) 21 3) a = (5, 0) := tg_new hT ha
  have ha : a < gn (sN (sR (sN (sR (sN (sR (sN σ 21 3) a 0 (some (gn σ))) 21 3) a 1 (some (gn σ + 1))) 21 3) a 2 (some (gn σ + 2))) 21 3) := Nat.lt_succ_of_lt ha
  refine pfX4_21 C hT hin dX4_init_29 ?_
  refine h_aload_n C 0 dX4_init_32 rfl rfl ?_
  refine h_lconst C 0 dX4_init_33 rfl ?_
  refine pfX4_24 C hT dX4_init_34 ?_
  refine h_aload_n C 0 dX4_init_37 rfl rfl ?_
  refine h_lconst C 1 dX4_init_38 rfl ?_
  refine pfX4_28 C hT dX4_init_39 ?_
  refine h_aload_n C 0 dX4_init_42 rfl rfl ?_
  refine h_lconst C 0 dX4_init_43 rfl ?_
  refine pfX4_31 C hT dX4_init_44 ?_
  refine h_aload_n C 0 dX4_init_47 rfl rfl ?_
  refine h_lconst C 1 dX4_init_48 rfl ?_
  refine pfX4_34 C hT dX4_init_49 ?_
  refine h_aload_n C 0 dX4_init_52 rfl rfl ?_
  refine h_iconst C (-1) dX4_init_53 (by decide) ?_
  refine pfX4_37 C hT dX4_init_54 ?_
  refine h_vret C rfl (by decide) (by decide) dX4_init_57 ?_
  exact ⟨rfl, rfl⟩
def planI (σ : ha_St) (a : Nat) : ha_St := (sI (sI (sR (sN (sR (sN (sR (sN (sI (sR (sN (sR (sN σ 20 12) a 0 (some (gn σ))) 20 12) a 1 (some (gn σ + 1))) a 2 0) 22 4096) a 3 (some (gn σ + 2))) 20 12) a 4 (some (gn σ + 3))) 20 12) a 5 (some (gn σ + 4))) a 6 0) a 7 1)
theorem planI_n (σ : ha_St) (a : Nat) : gn (planI σ a) = gn σ + 5 := rfl
theorem planI_T {σ : ha_St} {a b : Nat} {x : Nat × Nat} (h : gT σ b = x) (hx : b < gn σ) : gT (planI σ a) b = x := (tg_new (tg_new (tg_new (tg_new (tg_new h hx) (Nat.lt_succ_of_lt hx)) (Nat.lt_succ_of_lt (Nat.lt_succ_of_lt hx))) (Nat.lt_succ_of_lt (Nat.lt_succ_of_lt (Nat.lt_succ_of_lt hx)))) (Nat.lt_succ_of_lt (Nat.lt_succ_of_lt (Nat.lt_succ_of_lt (Nat.lt_succ_of_lt hx)))))
set_option maxRecDepth 100000 in
set_option maxHeartbeats 4000000 in
theorem m_X8_init {G : ha_G} {l : Launch} {σ : ha_St} {a : Nat} (hT : gT σ a = (9, 0)) (ha : a < gn σ) : hM G l yX8_init cX8_init 1 none { frames := 1, cells := 5, slots := 4144, locals := 20 } [.ref (ad G a)] σ (fun v σ' => v = none ∧ σ' = planI σ a) := by
  refine hM_ofF [(0, .ref (ad G a))] (by decide +kernel) (Nat.le_of_ble_eq_true rfl) rfl ?_
  intro p e s m args below meth c0 C hin
  refine h_aload_n C 0 dX8_init_0 rfl rfl ?_
  refine h_objInit C caX8_3 oi_in oi_co (by decide) (by decide) dX8_init_1 ?_
  refine h_aload_n C 0 dX8_init_4 rfl rfl ?_
  refine h_bipush C 12 dX8_init_5 (by decide) ?_
  refine h_newaI C (N := 12) acI (by decide) (by decide) (by decide) (by decide) (by decide) dX8_init_7 ?_
  have hT : gT (sN σ 20 12) a = (9, 0) := tg_new hT ha
  have ha : a < gn (sN σ 20 12) := Nat.lt_succ_of_lt ha
  refine pfX8_9 C hT hin dX8_init_9 ?_
  refine h_aload_n C 0 dX8_init_12 rfl rfl ?_
  refine h_bipush C 12 dX8_init_13 (by decide) ?_
  refine h_newaI C (N := 12) acI (by decide) (by decide) (by decide) (by decide) (by decide) dX8_init_15 ?_
  have hT : gT (sN (sR (sN σ 20 12) a 0 (some (gn σ))) 20 12) a = (9, 0) := tg_new hT ha
  have ha : a < gn (sN (sR (sN σ 20 12) a 0 (some (gn σ))) 20 12) := Nat.lt_succ_of_lt ha
  refine pfX8_15 C hT hin dX8_init_17 ?_
  refine h_aload_n C 0 dX8_init_20 rfl rfl ?_
  refine h_iconst C 0 dX8_init_21 (by decide) ?_
  refine pfX8_18 C hT dX8_init_22 ?_
  refine h_aload_n C 0 dX8_init_25 rfl rfl ?_
  refine h_sipush C 4096 dX8_init_26 (by decide) ?_
  refine h_newaB C (N := 4096) acB (by decide) (by decide) (by decide) (by decide) (by decide) dX8_init_29 ?_
  have hT : gT (sN (sI (sR (sN (sR (sN σ 20 12) a 0 (some (gn σ))) 20 12) a 1 (some (gn σ + 1))) a 2 0) 22 4096) a = (9, 0) := tg_new hT ha
  have ha : a < gn (sN (sI (sR (sN (sR (sN σ 20 12) a 0 (some (gn σ))) 20 12) a 1 (some (gn σ + 1))) a 2 0) 22 4096) := Nat.lt_succ_of_lt ha
  refine pfX8_22 C hT hin dX8_init_31 ?_
  refine h_aload_n C 0 dX8_init_34 rfl rfl ?_
  refine h_bipush C 12 dX8_init_35 (by decide) ?_
  refine h_newaI C (N := 12) acI (by decide) (by decide) (by decide) (by decide) (by decide) dX8_init_37 ?_
  have hT : gT (sN (sR (sN (sI (sR (sN (sR (sN σ 20 12) a 0 (some (gn σ))) 20 12) a 1 (some (gn σ + 1))) a 2 0) 22 4096) a 3 (some (gn σ + 2))) 20 12) a = (9, 0) := tg_new hT ha
  have ha : a < gn (sN (sR (sN (sI (sR (sN (sR (sN σ 20 12) a 0 (some (gn σ))) 20 12) a 1 (some (gn σ + 1))) a 2 0) 22 4096) a 3 (some (gn σ + 2))) 20 12) := Nat.lt_succ_of_lt ha
  refine pfX8_26 C hT hin dX8_init_39 ?_
  refine h_aload_n C 0 dX8_init_42 rfl rfl ?_
  refine h_bipush C 12 dX8_init_43 (by decide) ?_
  refine h_newaI C (N := 12) acI (by decide) (by decide) (by decide) (by decide) (by decide) dX8_init_45 ?_
  have hT : gT (sN (sR (sN (sR (sN (sI (sR (sN (sR (sN σ 20 12) a 0 (some (gn σ))) 20 12) a 1 (some (gn σ + 1))) a 2 0) 22 4096) a 3 (some (gn σ + 2))) 20 12) a 4 (some (gn σ + 3))) 20 12) a = (9, 0) := tg_new hT ha
  have ha : a < gn (sN (sR (sN (sR (sN (sI (sR (sN (sR (sN σ 20 12) a 0 (some (gn σ))) 20 12) a 1 (some (gn σ + 1))) a 2 0) 22 4096) a 3 (some (gn σ + 2))) 20 12) a 4 (some (gn σ + 3))) 20 12) := Nat.lt_succ_of_lt ha
  refine pfX8_29 C hT hin dX8_init_47 ?_
  refine h_aload_n C 0 dX8_init_50 rfl rfl ?_
  refine h_iconst C 0 dX8_init_51 (by decide) ?_
  refine pfX8_32 C hT dX8_init_52 ?_
  refine h_aload_n C 0 dX8_init_55 rfl rfl ?_
  refine h_iconst C 1 dX8_init_56 (by decide) ?_
  refine pfX8_35 C (by decide) hT dX8_init_57 ?_
  refine h_vret C rfl (by decide) (by decide) dX8_init_60 ?_
  exact ⟨rfl, rfl⟩
def pathI (σ : ha_St) (a : Nat) : ha_St := (sI (sI (sR (sN (sR (sN σ 20 40) a 0 (some (gn σ))) 20 40) a 1 (some (gn σ + 1))) a 2 0) a 3 0)
theorem pathI_n (σ : ha_St) (a : Nat) : gn (pathI σ a) = gn σ + 2 := rfl
theorem pathI_T {σ : ha_St} {a b : Nat} {x : Nat × Nat} (h : gT σ b = x) (hx : b < gn σ) : gT (pathI σ a) b = x := (tg_new (tg_new h hx) (Nat.lt_succ_of_lt hx))
set_option maxRecDepth 100000 in
set_option maxHeartbeats 4000000 in
theorem m_X6_init {G : ha_G} {l : Launch} {σ : ha_St} {a : Nat} (hT : gT σ a = (7, 0)) (ha : a < gn σ) : hM G l yX6_init cX6_init 1 none { frames := 1, cells := 2, slots := 80, locals := 20 } [.ref (ad G a)] σ (fun v σ' => v = none ∧ σ' = pathI σ a) := by
  refine hM_ofF [(0, .ref (ad G a))] (by decide +kernel) (Nat.le_of_ble_eq_true rfl) rfl ?_
  intro p e s m args below meth c0 C hin
  refine h_aload_n C 0 dX6_init_0 rfl rfl ?_
  refine h_objInit C caX6_3 oi_in oi_co (by decide) (by decide) dX6_init_1 ?_
  refine h_aload_n C 0 dX6_init_4 rfl rfl ?_
  refine h_bipush C 40 dX6_init_5 (by decide) ?_
  refine h_newaI C (N := 40) acI (by decide) (by decide) (by decide) (by decide) (by decide) dX6_init_7 ?_
  have hT : gT (sN σ 20 40) a = (7, 0) := tg_new hT ha
  have ha : a < gn (sN σ 20 40) := Nat.lt_succ_of_lt ha
  refine pfX6_9 C hT hin dX6_init_9 ?_
  refine h_aload_n C 0 dX6_init_12 rfl rfl ?_
  refine h_bipush C 40 dX6_init_13 (by decide) ?_
  refine h_newaI C (N := 40) acI (by decide) (by decide) (by decide) (by decide) (by decide) dX6_init_15 ?_
  have hT : gT (sN (sR (sN σ 20 40) a 0 (some (gn σ))) 20 40) a = (7, 0) := tg_new hT ha
  have ha : a < gn (sN (sR (sN σ 20 40) a 0 (some (gn σ))) 20 40) := Nat.lt_succ_of_lt ha
  refine pfX6_15 C hT hin dX6_init_17 ?_
  refine h_aload_n C 0 dX6_init_20 rfl rfl ?_
  refine h_iconst C 0 dX6_init_21 (by decide) ?_
  refine pfX6_18 C hT dX6_init_22 ?_
  refine h_aload_n C 0 dX6_init_25 rfl rfl ?_
  refine h_iconst C 0 dX6_init_26 (by decide) ?_
  refine pfX6_22 C hT dX6_init_27 ?_
  refine h_vret C rfl (by decide) (by decide) dX6_init_30 ?_
  exact ⟨rfl, rfl⟩
set_option maxRecDepth 100000 in
set_option maxHeartbeats 4000000 in
theorem m_X9_init {G : ha_G} {l : Launch} {σ : ha_St} {a : Nat} (hT : gT σ a = (10, 0)) (ha : a < gn σ) : hM G l yX9_init cX9_init 1 none { frames := 1, cells := 0, slots := 0, locals := 20 } [.ref (ad G a)] σ (fun v σ' => v = none ∧ σ' = shX σ a) := by
  refine hM_ofF [(0, .ref (ad G a))] (by decide +kernel) (Nat.le_of_ble_eq_true rfl) rfl ?_
  intro p e s m args below meth c0 C hin
  refine h_aload_n C 0 dX9_init_0 rfl rfl ?_
  refine h_objInit C caX9_1 oi_in oi_co (by decide) (by decide) dX9_init_1 ?_
  refine h_aload_n C 0 dX9_init_4 rfl rfl ?_
  refine h_null C dX9_init_5 ?_
  refine pfX9_7N C hT dX9_init_6 ?_
  refine h_aload_n C 0 dX9_init_9 rfl rfl ?_
  refine h_null C dX9_init_10 ?_
  refine pfX9_13N C hT dX9_init_11 ?_
  refine h_aload_n C 0 dX9_init_14 rfl rfl ?_
  refine h_null C dX9_init_15 ?_
  refine pfX9_17N C hT dX9_init_16 ?_
  refine h_vret C rfl (Nat.zero_le _) (Nat.zero_le _) dX9_init_19 ?_
  exact ⟨rfl, rfl⟩
def modI (σ : ha_St) (a : Nat) : ha_St := (sR (sN (sR (sN (sR (sN (sR (sN (sR (sN (sR (sN (sR (sN (sR (sN (sR (sN (sR (sN (sI (sI (sR (sN (sR (sN (sR (sN (sI (sL (sL (sR (sN (sR (sN (sR (sN (sI (sR (sN (sR (sN (sR (sN (sI (sI (sR (sN (sR (sN (sI (sR (sN (sR (sN (sR (sN (sR (sN (sR (sN (sR (sN (sR (sN (sI (sI σ a 0 0) a 1 0) 20 10) a 2 (some (gn σ))) 20 10) a 3 (some (gn σ + 1))) 20 10) a 4 (some (gn σ + 2))) 20 10) a 5 (some (gn σ + 3))) 20 10) a 6 (some (gn σ + 4))) 20 10) a 7 (some (gn σ + 5))) 20 10) a 8 (some (gn σ + 6))) a 9 0) 21 90) a 10 (some (gn σ + 7))) 21 3) a 11 (some (gn σ + 8))) a 12 0) a 13 0) 21 2700) a 14 (some (gn σ + 9))) 21 3) a 15 (some (gn σ + 10))) 21 3) a 16 (some (gn σ + 11))) a 17 0) 20 48) a 18 (some (gn σ + 12))) 21 9) a 19 (some (gn σ + 13))) 21 3) a 20 (some (gn σ + 14))) a 21 0) a 22 1) a 23 0) 20 12) a 24 (some (gn σ + 15))) 20 12) a 25 (some (gn σ + 16))) 20 4096) a 26 (some (gn σ + 17))) a 27 0) a 28 0) 20 40) a 29 (some (gn σ + 18))) 20 40) a 30 (some (gn σ + 19))) 20 8) a 31 (some (gn σ + 20))) 20 8) a 32 (some (gn σ + 21))) 20 8) a 33 (some (gn σ + 22))) 20 8) a 34 (some (gn σ + 23))) 20 8) a 35 (some (gn σ + 24))) 20 8) a 36 (some (gn σ + 25))) 20 480) a 37 (some (gn σ + 26))) 20 60) a 38 (some (gn σ + 27)))
theorem modI_n (σ : ha_St) (a : Nat) : gn (modI σ a) = gn σ + 28 := rfl
theorem modI_T {σ : ha_St} {a b : Nat} {x : Nat × Nat} (h : gT σ b = x) (hx : b < gn σ) : gT (modI σ a) b = x := (tg_new (tg_new (tg_new (tg_new (tg_new (tg_new (tg_new (tg_new (tg_new (tg_new (tg_new (tg_new (tg_new (tg_new (tg_new (tg_new (tg_new (tg_new (tg_new (tg_new (tg_new (tg_new (tg_new (tg_new (tg_new (tg_new (tg_new (tg_new h hx) (Nat.lt_succ_of_lt hx)) (Nat.lt_succ_of_lt (Nat.lt_succ_of_lt hx))) (Nat.lt_succ_of_lt (Nat.lt_succ_of_lt (Nat.lt_succ_of_lt hx)))) (Nat.lt_succ_of_lt (Nat.lt_succ_of_lt (Nat.lt_succ_of_lt (Nat.lt_succ_of_lt hx))))) (Nat.lt_succ_of_lt (Nat.lt_succ_of_lt (Nat.lt_succ_of_lt (Nat.lt_succ_of_lt (Nat.lt_succ_of_lt hx)))))) (Nat.lt_succ_of_lt (Nat.lt_succ_of_lt (Nat.lt_succ_of_lt (Nat.lt_succ_of_lt (Nat.lt_succ_of_lt (Nat.lt_succ_of_lt hx))))))) (Nat.lt_succ_of_lt (Nat.lt_succ_of_lt (Nat.lt_succ_of_lt (Nat.lt_succ_of_lt (Nat.lt_succ_of_lt (Nat.lt_succ_of_lt (Nat.lt_succ_of_lt hx)))))))) (Nat.lt_succ_of_lt (Nat.lt_succ_of_lt (Nat.lt_succ_of_lt (Nat.lt_succ_of_lt (Nat.lt_succ_of_lt (Nat.lt_succ_of_lt (Nat.lt_succ_of_lt (Nat.lt_succ_of_lt hx))))))))) (Nat.lt_succ_of_lt (Nat.lt_succ_of_lt (Nat.lt_succ_of_lt (Nat.lt_succ_of_lt (Nat.lt_succ_of_lt (Nat.lt_succ_of_lt (Nat.lt_succ_of_lt (Nat.lt_succ_of_lt (Nat.lt_succ_of_lt hx)))))))))) (Nat.lt_succ_of_lt (Nat.lt_succ_of_lt (Nat.lt_succ_of_lt (Nat.lt_succ_of_lt (Nat.lt_succ_of_lt (Nat.lt_succ_of_lt (Nat.lt_succ_of_lt (Nat.lt_succ_of_lt (Nat.lt_succ_of_lt (Nat.lt_succ_of_lt hx))))))))))) (Nat.lt_succ_of_lt (Nat.lt_succ_of_lt (Nat.lt_succ_of_lt (Nat.lt_succ_of_lt (Nat.lt_succ_of_lt (Nat.lt_succ_of_lt (Nat.lt_succ_of_lt (Nat.lt_succ_of_lt (Nat.lt_succ_of_lt (Nat.lt_succ_of_lt (Nat.lt_succ_of_lt hx)))))))))))) (Nat.lt_succ_of_lt (Nat.lt_succ_of_lt (Nat.lt_succ_of_lt (Nat.lt_succ_of_lt (Nat.lt_succ_of_lt (Nat.lt_succ_of_lt (Nat.lt_succ_of_lt (Nat.lt_succ_of_lt (Nat.lt_succ_of_lt (Nat.lt_succ_of_lt (Nat.lt_succ_of_lt (Nat.lt_succ_of_lt hx))))))))))))) (Nat.lt_succ_of_lt (Nat.lt_succ_of_lt (Nat.lt_succ_of_lt (Nat.lt_succ_of_lt (Nat.lt_succ_of_lt (Nat.lt_succ_of_lt (Nat.lt_succ_of_lt (Nat.lt_succ_of_lt (Nat.lt_succ_of_lt (Nat.lt_succ_of_lt (Nat.lt_succ_of_lt (Nat.lt_succ_of_lt (Nat.lt_succ_of_lt hx)))))))))))))) (Nat.lt_succ_of_lt (Nat.lt_succ_of_lt (Nat.lt_succ_of_lt (Nat.lt_succ_of_lt (Nat.lt_succ_of_lt (Nat.lt_succ_of_lt (Nat.lt_succ_of_lt (Nat.lt_succ_of_lt (Nat.lt_succ_of_lt (Nat.lt_succ_of_lt (Nat.lt_succ_of_lt (Nat.lt_succ_of_lt (Nat.lt_succ_of_lt (Nat.lt_succ_of_lt hx))))))))))))))) (Nat.lt_succ_of_lt (Nat.lt_succ_of_lt (Nat.lt_succ_of_lt (Nat.lt_succ_of_lt (Nat.lt_succ_of_lt (Nat.lt_succ_of_lt (Nat.lt_succ_of_lt (Nat.lt_succ_of_lt (Nat.lt_succ_of_lt (Nat.lt_succ_of_lt (Nat.lt_succ_of_lt (Nat.lt_succ_of_lt (Nat.lt_succ_of_lt (Nat.lt_succ_of_lt (Nat.lt_succ_of_lt hx)))))))))))))))) (Nat.lt_succ_of_lt (Nat.lt_succ_of_lt (Nat.lt_succ_of_lt (Nat.lt_succ_of_lt (Nat.lt_succ_of_lt (Nat.lt_succ_of_lt (Nat.lt_succ_of_lt (Nat.lt_succ_of_lt (Nat.lt_succ_of_lt (Nat.lt_succ_of_lt (Nat.lt_succ_of_lt (Nat.lt_succ_of_lt (Nat.lt_succ_of_lt (Nat.lt_succ_of_lt (Nat.lt_succ_of_lt (Nat.lt_succ_of_lt hx))))))))))))))))) (Nat.lt_succ_of_lt (Nat.lt_succ_of_lt (Nat.lt_succ_of_lt (Nat.lt_succ_of_lt (Nat.lt_succ_of_lt (Nat.lt_succ_of_lt (Nat.lt_succ_of_lt (Nat.lt_succ_of_lt (Nat.lt_succ_of_lt (Nat.lt_succ_of_lt (Nat.lt_succ_of_lt (Nat.lt_succ_of_lt (Nat.lt_succ_of_lt (Nat.lt_succ_of_lt (Nat.lt_succ_of_lt (Nat.lt_succ_of_lt (Nat.lt_succ_of_lt hx)))))))))))))))))) (Nat.lt_succ_of_lt (Nat.lt_succ_of_lt (Nat.lt_succ_of_lt (Nat.lt_succ_of_lt (Nat.lt_succ_of_lt (Nat.lt_succ_of_lt (Nat.lt_succ_of_lt (Nat.lt_succ_of_lt (Nat.lt_succ_of_lt (Nat.lt_succ_of_lt (Nat.lt_succ_of_lt (Nat.lt_succ_of_lt (Nat.lt_succ_of_lt (Nat.lt_succ_of_lt (Nat.lt_succ_of_lt (Nat.lt_succ_of_lt (Nat.lt_succ_of_lt (Nat.lt_succ_of_lt hx))))))))))))))))))) (Nat.lt_succ_of_lt (Nat.lt_succ_of_lt (Nat.lt_succ_of_lt (Nat.lt_succ_of_lt (Nat.lt_succ_of_lt (Nat.lt_succ_of_lt (Nat.lt_succ_of_lt (Nat.lt_succ_of_lt (Nat.lt_succ_of_lt (Nat.lt_succ_of_lt (Nat.lt_succ_of_lt (Nat.lt_succ_of_lt (Nat.lt_succ_of_lt (Nat.lt_succ_of_lt (Nat.lt_succ_of_lt (Nat.lt_succ_of_lt (Nat.lt_succ_of_lt (Nat.lt_succ_of_lt (Nat.lt_succ_of_lt hx)))))))))))))))))))) (Nat.lt_succ_of_lt (Nat.lt_succ_of_lt (Nat.lt_succ_of_lt (Nat.lt_succ_of_lt (Nat.lt_succ_of_lt (Nat.lt_succ_of_lt (Nat.lt_succ_of_lt (Nat.lt_succ_of_lt (Nat.lt_succ_of_lt (Nat.lt_succ_of_lt (Nat.lt_succ_of_lt (Nat.lt_succ_of_lt (Nat.lt_succ_of_lt (Nat.lt_succ_of_lt (Nat.lt_succ_of_lt (Nat.lt_succ_of_lt (Nat.lt_succ_of_lt (Nat.lt_succ_of_lt (Nat.lt_succ_of_lt (Nat.lt_succ_of_lt hx))))))))))))))))))))) (Nat.lt_succ_of_lt (Nat.lt_succ_of_lt (Nat.lt_succ_of_lt (Nat.lt_succ_of_lt (Nat.lt_succ_of_lt (Nat.lt_succ_of_lt (Nat.lt_succ_of_lt (Nat.lt_succ_of_lt (Nat.lt_succ_of_lt (Nat.lt_succ_of_lt (Nat.lt_succ_of_lt (Nat.lt_succ_of_lt (Nat.lt_succ_of_lt (Nat.lt_succ_of_lt (Nat.lt_succ_of_lt (Nat.lt_succ_of_lt (Nat.lt_succ_of_lt (Nat.lt_succ_of_lt (Nat.lt_succ_of_lt (Nat.lt_succ_of_lt (Nat.lt_succ_of_lt hx)))))))))))))))))))))) (Nat.lt_succ_of_lt (Nat.lt_succ_of_lt (Nat.lt_succ_of_lt (Nat.lt_succ_of_lt (Nat.lt_succ_of_lt (Nat.lt_succ_of_lt (Nat.lt_succ_of_lt (Nat.lt_succ_of_lt (Nat.lt_succ_of_lt (Nat.lt_succ_of_lt (Nat.lt_succ_of_lt (Nat.lt_succ_of_lt (Nat.lt_succ_of_lt (Nat.lt_succ_of_lt (Nat.lt_succ_of_lt (Nat.lt_succ_of_lt (Nat.lt_succ_of_lt (Nat.lt_succ_of_lt (Nat.lt_succ_of_lt (Nat.lt_succ_of_lt (Nat.lt_succ_of_lt (Nat.lt_succ_of_lt hx))))))))))))))))))))))) (Nat.lt_succ_of_lt (Nat.lt_succ_of_lt (Nat.lt_succ_of_lt (Nat.lt_succ_of_lt (Nat.lt_succ_of_lt (Nat.lt_succ_of_lt (Nat.lt_succ_of_lt (Nat.lt_succ_of_lt (Nat.lt_succ_of_lt (Nat.lt_succ_of_lt (Nat.lt_succ_of_lt (Nat.lt_succ_of_lt (Nat.lt_succ_of_lt (Nat.lt_succ_of_lt (Nat.lt_succ_of_lt (Nat.lt_succ_of_lt (Nat.lt_succ_of_lt (Nat.lt_succ_of_lt (Nat.lt_succ_of_lt (Nat.lt_succ_of_lt (Nat.lt_succ_of_lt (Nat.lt_succ_of_lt (Nat.lt_succ_of_lt hx)))))))))))))))))))))))) (Nat.lt_succ_of_lt (Nat.lt_succ_of_lt (Nat.lt_succ_of_lt (Nat.lt_succ_of_lt (Nat.lt_succ_of_lt (Nat.lt_succ_of_lt (Nat.lt_succ_of_lt (Nat.lt_succ_of_lt (Nat.lt_succ_of_lt (Nat.lt_succ_of_lt (Nat.lt_succ_of_lt (Nat.lt_succ_of_lt (Nat.lt_succ_of_lt (Nat.lt_succ_of_lt (Nat.lt_succ_of_lt (Nat.lt_succ_of_lt (Nat.lt_succ_of_lt (Nat.lt_succ_of_lt (Nat.lt_succ_of_lt (Nat.lt_succ_of_lt (Nat.lt_succ_of_lt (Nat.lt_succ_of_lt (Nat.lt_succ_of_lt (Nat.lt_succ_of_lt hx))))))))))))))))))))))))) (Nat.lt_succ_of_lt (Nat.lt_succ_of_lt (Nat.lt_succ_of_lt (Nat.lt_succ_of_lt (Nat.lt_succ_of_lt (Nat.lt_succ_of_lt (Nat.lt_succ_of_lt (Nat.lt_succ_of_lt (Nat.lt_succ_of_lt (Nat.lt_succ_of_lt (Nat.lt_succ_of_lt (Nat.lt_succ_of_lt (Nat.lt_succ_of_lt (Nat.lt_succ_of_lt (Nat.lt_succ_of_lt (Nat.lt_succ_of_lt (Nat.lt_succ_of_lt (Nat.lt_succ_of_lt (Nat.lt_succ_of_lt (Nat.lt_succ_of_lt (Nat.lt_succ_of_lt (Nat.lt_succ_of_lt (Nat.lt_succ_of_lt (Nat.lt_succ_of_lt (Nat.lt_succ_of_lt hx)))))))))))))))))))))))))) (Nat.lt_succ_of_lt (Nat.lt_succ_of_lt (Nat.lt_succ_of_lt (Nat.lt_succ_of_lt (Nat.lt_succ_of_lt (Nat.lt_succ_of_lt (Nat.lt_succ_of_lt (Nat.lt_succ_of_lt (Nat.lt_succ_of_lt (Nat.lt_succ_of_lt (Nat.lt_succ_of_lt (Nat.lt_succ_of_lt (Nat.lt_succ_of_lt (Nat.lt_succ_of_lt (Nat.lt_succ_of_lt (Nat.lt_succ_of_lt (Nat.lt_succ_of_lt (Nat.lt_succ_of_lt (Nat.lt_succ_of_lt (Nat.lt_succ_of_lt (Nat.lt_succ_of_lt (Nat.lt_succ_of_lt (Nat.lt_succ_of_lt (Nat.lt_succ_of_lt (Nat.lt_succ_of_lt (Nat.lt_succ_of_lt hx))))))))))))))))))))))))))) (Nat.lt_succ_of_lt (Nat.lt_succ_of_lt (Nat.lt_succ_of_lt (Nat.lt_succ_of_lt (Nat.lt_succ_of_lt (Nat.lt_succ_of_lt (Nat.lt_succ_of_lt (Nat.lt_succ_of_lt (Nat.lt_succ_of_lt (Nat.lt_succ_of_lt (Nat.lt_succ_of_lt (Nat.lt_succ_of_lt (Nat.lt_succ_of_lt (Nat.lt_succ_of_lt (Nat.lt_succ_of_lt (Nat.lt_succ_of_lt (Nat.lt_succ_of_lt (Nat.lt_succ_of_lt (Nat.lt_succ_of_lt (Nat.lt_succ_of_lt (Nat.lt_succ_of_lt (Nat.lt_succ_of_lt (Nat.lt_succ_of_lt (Nat.lt_succ_of_lt (Nat.lt_succ_of_lt (Nat.lt_succ_of_lt (Nat.lt_succ_of_lt hx))))))))))))))))))))))))))))
set_option maxRecDepth 100000 in
set_option maxHeartbeats 4000000 in
theorem m_X11_init {G : ha_G} {l : Launch} {σ : ha_St} {a : Nat} (hT : gT σ a = (12, 0)) (ha : a < gn σ) : hM G l yX11_init cX11_init 1 none { frames := 1, cells := 28, slots := 7717, locals := 20 } [.ref (ad G a)] σ (fun v σ' => v = none ∧ σ' = modI σ a) := by
  refine hM_ofF [(0, .ref (ad G a))] (by decide +kernel) (Nat.le_of_ble_eq_true rfl) rfl ?_
  intro p e s m args below meth c0 C hin
  refine h_aload_n C 0 dX11_init_0 rfl rfl ?_
  refine h_objInit C caX11_1 oi_in oi_co (by decide) (by decide) dX11_init_1 ?_
  refine h_aload_n C 0 dX11_init_4 rfl rfl ?_
  refine h_iconst C 0 dX11_init_5 (by decide) ?_
  refine pfX11_7 C hT dX11_init_6 ?_
  refine h_aload_n C 0 dX11_init_9 rfl rfl ?_
  refine h_iconst C 0 dX11_init_10 (by decide) ?_
  refine pfX11_13 C hT dX11_init_11 ?_
  refine h_aload_n C 0 dX11_init_14 rfl rfl ?_
  refine h_bipush C 10 dX11_init_15 (by decide) ?_
  refine h_newaI C (N := 10) acI (by decide) (by decide) (by decide) (by decide) (by decide) dX11_init_17 ?_
  have hT : gT (sN (sI (sI σ a 0 0) a 1 0) 20 10) a = (12, 0) := tg_new hT ha
  have ha : a < gn (sN (sI (sI σ a 0 0) a 1 0) 20 10) := Nat.lt_succ_of_lt ha
  refine pfX11_16 C hT hin dX11_init_19 ?_
  refine h_aload_n C 0 dX11_init_22 rfl rfl ?_
  refine h_bipush C 10 dX11_init_23 (by decide) ?_
  refine h_newaI C (N := 10) acI (by decide) (by decide) (by decide) (by decide) (by decide) dX11_init_25 ?_
  have hT : gT (sN (sR (sN (sI (sI σ a 0 0) a 1 0) 20 10) a 2 (some (gn σ))) 20 10) a = (12, 0) := tg_new hT ha
  have ha : a < gn (sN (sR (sN (sI (sI σ a 0 0) a 1 0) 20 10) a 2 (some (gn σ))) 20 10) := Nat.lt_succ_of_lt ha
  refine pfX11_20 C hT hin dX11_init_27 ?_
  refine h_aload_n C 0 dX11_init_30 rfl rfl ?_
  refine h_bipush C 10 dX11_init_31 (by decide) ?_
  refine h_newaI C (N := 10) acI (by decide) (by decide) (by decide) (by decide) (by decide) dX11_init_33 ?_
  have hT : gT (sN (sR (sN (sR (sN (sI (sI σ a 0 0) a 1 0) 20 10) a 2 (some (gn σ))) 20 10) a 3 (some (gn σ + 1))) 20 10) a = (12, 0) := tg_new hT ha
  have ha : a < gn (sN (sR (sN (sR (sN (sI (sI σ a 0 0) a 1 0) 20 10) a 2 (some (gn σ))) 20 10) a 3 (some (gn σ + 1))) 20 10) := Nat.lt_succ_of_lt ha
  refine pfX11_23 C hT hin dX11_init_35 ?_
  refine h_aload_n C 0 dX11_init_38 rfl rfl ?_
  refine h_bipush C 10 dX11_init_39 (by decide) ?_
  refine h_newaI C (N := 10) acI (by decide) (by decide) (by decide) (by decide) (by decide) dX11_init_41 ?_
  have hT : gT (sN (sR (sN (sR (sN (sR (sN (sI (sI σ a 0 0) a 1 0) 20 10) a 2 (some (gn σ))) 20 10) a 3 (some (gn σ + 1))) 20 10) a 4 (some (gn σ + 2))) 20 10) a = (12, 0) := tg_new hT ha
  have ha : a < gn (sN (sR (sN (sR (sN (sR (sN (sI (sI σ a 0 0) a 1 0) 20 10) a 2 (some (gn σ))) 20 10) a 3 (some (gn σ + 1))) 20 10) a 4 (some (gn σ + 2))) 20 10) := Nat.lt_succ_of_lt ha
  refine pfX11_26 C hT hin dX11_init_43 ?_
  refine h_aload_n C 0 dX11_init_46 rfl rfl ?_
  refine h_bipush C 10 dX11_init_47 (by decide) ?_
  refine h_newaI C (N := 10) acI (by decide) (by decide) (by decide) (by decide) (by decide) dX11_init_49 ?_
  have hT : gT (sN (sR (sN (sR (sN (sR (sN (sR (sN (sI (sI σ a 0 0) a 1 0) 20 10) a 2 (some (gn σ))) 20 10) a 3 (some (gn σ + 1))) 20 10) a 4 (some (gn σ + 2))) 20 10) a 5 (some (gn σ + 3))) 20 10) a = (12, 0) := tg_new hT ha
  have ha : a < gn (sN (sR (sN (sR (sN (sR (sN (sR (sN (sI (sI σ a 0 0) a 1 0) 20 10) a 2 (some (gn σ))) 20 10) a 3 (some (gn σ + 1))) 20 10) a 4 (some (gn σ + 2))) 20 10) a 5 (some (gn σ + 3))) 20 10) := Nat.lt_succ_of_lt ha
  refine pfX11_29 C hT hin dX11_init_51 ?_
  refine h_aload_n C 0 dX11_init_54 rfl rfl ?_
  refine h_bipush C 10 dX11_init_55 (by decide) ?_
  refine h_newaI C (N := 10) acI (by decide) (by decide) (by decide) (by decide) (by decide) dX11_init_57 ?_
  have hT : gT (sN (sR (sN (sR (sN (sR (sN (sR (sN (sR (sN (sI (sI σ a 0 0) a 1 0) 20 10) a 2 (some (gn σ))) 20 10) a 3 (some (gn σ + 1))) 20 10) a 4 (some (gn σ + 2))) 20 10) a 5 (some (gn σ + 3))) 20 10) a 6 (some (gn σ + 4))) 20 10) a = (12, 0) := tg_new hT ha
  have ha : a < gn (sN (sR (sN (sR (sN (sR (sN (sR (sN (sR (sN (sI (sI σ a 0 0) a 1 0) 20 10) a 2 (some (gn σ))) 20 10) a 3 (some (gn σ + 1))) 20 10) a 4 (some (gn σ + 2))) 20 10) a 5 (some (gn σ + 3))) 20 10) a 6 (some (gn σ + 4))) 20 10) := Nat.lt_succ_of_lt ha
  refine pfX11_32 C hT hin dX11_init_59 ?_
  refine h_aload_n C 0 dX11_init_62 rfl rfl ?_
  refine h_bipush C 10 dX11_init_63 (by decide) ?_
  refine h_newaI C (N := 10) acI (by decide) (by decide) (by decide) (by decide) (by decide) dX11_init_65 ?_
  have hT : gT (sN (sR (sN (sR (sN (sR (sN (sR (sN (sR (sN (sR (sN (sI (sI σ a 0 0) a 1 0) 20 10) a 2 (some (gn σ))) 20 10) a 3 (some (gn σ + 1))) 20 10) a 4 (some (gn σ + 2))) 20 10) a 5 (some (gn σ + 3))) 20 10) a 6 (some (gn σ + 4))) 20 10) a 7 (some (gn σ + 5))) 20 10) a = (12, 0) := tg_new hT ha
  have ha : a < gn (sN (sR (sN (sR (sN (sR (sN (sR (sN (sR (sN (sR (sN (sI (sI σ a 0 0) a 1 0) 20 10) a 2 (some (gn σ))) 20 10) a 3 (some (gn σ + 1))) 20 10) a 4 (some (gn σ + 2))) 20 10) a 5 (some (gn σ + 3))) 20 10) a 6 (some (gn σ + 4))) 20 10) a 7 (some (gn σ + 5))) 20 10) := Nat.lt_succ_of_lt ha
  refine pfX11_35 C hT hin dX11_init_67 ?_
  refine h_aload_n C 0 dX11_init_70 rfl rfl ?_
  refine h_iconst C 0 dX11_init_71 (by decide) ?_
  refine pfX11_38 C hT dX11_init_72 ?_
  refine h_aload_n C 0 dX11_init_75 rfl rfl ?_
  refine h_bipush C 90 dX11_init_76 (by decide) ?_
  refine h_newaL C (N := 90) acL (by decide) (by decide) (by decide) (by decide) (by decide) dX11_init_78 ?_
  have hT : gT (sN (sI (sR (sN (sR (sN (sR (sN (sR (sN (sR (sN (sR (sN (sR (sN (sI (sI σ a 0 0) a 1 0) 20 10) a 2 (some (gn σ))) 20 10) a 3 (some (gn σ + 1))) 20 10) a 4 (some (gn σ + 2))) 20 10) a 5 (some (gn σ + 3))) 20 10) a 6 (some (gn σ + 4))) 20 10) a 7 (some (gn σ + 5))) 20 10) a 8 (some (gn σ + 6))) a 9 0) 21 90) a = (12, 0) := tg_new hT ha
  have ha : a < gn (sN (sI (sR (sN (sR (sN (sR (sN (sR (sN (sR (sN (sR (sN (sR (sN (sI (sI σ a 0 0) a 1 0) 20 10) a 2 (some (gn σ))) 20 10) a 3 (some (gn σ + 1))) 20 10) a 4 (some (gn σ + 2))) 20 10) a 5 (some (gn σ + 3))) 20 10) a 6 (some (gn σ + 4))) 20 10) a 7 (some (gn σ + 5))) 20 10) a 8 (some (gn σ + 6))) a 9 0) 21 90) := Nat.lt_succ_of_lt ha
  refine pfX11_41 C hT hin dX11_init_80 ?_
  refine h_aload_n C 0 dX11_init_83 rfl rfl ?_
  refine h_iconst C 3 dX11_init_84 (by decide) ?_
  refine h_newaL C (N := 3) acL (by decide) (by decide) (by decide) (by decide) (by decide) dX11_init_85 ?_
  have hT : gT (sN (sR (sN (sI (sR (sN (sR (sN (sR (sN (sR (sN (sR (sN (sR (sN (sR (sN (sI (sI σ a 0 0) a 1 0) 20 10) a 2 (some (gn σ))) 20 10) a 3 (some (gn σ + 1))) 20 10) a 4 (some (gn σ + 2))) 20 10) a 5 (some (gn σ + 3))) 20 10) a 6 (some (gn σ + 4))) 20 10) a 7 (some (gn σ + 5))) 20 10) a 8 (some (gn σ + 6))) a 9 0) 21 90) a 10 (some (gn σ + 7))) 21 3) a = (12, 0) := tg_new hT ha
  have ha : a < gn (sN (sR (sN (sI (sR (sN (sR (sN (sR (sN (sR (sN (sR (sN (sR (sN (sR (sN (sI (sI σ a 0 0) a 1 0) 20 10) a 2 (some (gn σ))) 20 10) a 3 (some (gn σ + 1))) 20 10) a 4 (some (gn σ + 2))) 20 10) a 5 (some (gn σ + 3))) 20 10) a 6 (some (gn σ + 4))) 20 10) a 7 (some (gn σ + 5))) 20 10) a 8 (some (gn σ + 6))) a 9 0) 21 90) a 10 (some (gn σ + 7))) 21 3) := Nat.lt_succ_of_lt ha
  refine pfX11_45 C hT hin dX11_init_87 ?_
  refine h_aload_n C 0 dX11_init_90 rfl rfl ?_
  refine h_iconst C 0 dX11_init_91 (by decide) ?_
  refine pfX11_48 C hT dX11_init_92 ?_
  refine h_aload_n C 0 dX11_init_95 rfl rfl ?_
  refine h_iconst C 0 dX11_init_96 (by decide) ?_
  refine pfX11_51 C hT dX11_init_97 ?_
  refine h_aload_n C 0 dX11_init_100 rfl rfl ?_
  refine h_sipush C 2700 dX11_init_101 (by decide) ?_
  refine h_newaL C (N := 2700) acL (by decide) (by decide) (by decide) (by decide) (by decide) dX11_init_104 ?_
  have hT : gT (sN (sI (sI (sR (sN (sR (sN (sI (sR (sN (sR (sN (sR (sN (sR (sN (sR (sN (sR (sN (sR (sN (sI (sI σ a 0 0) a 1 0) 20 10) a 2 (some (gn σ))) 20 10) a 3 (some (gn σ + 1))) 20 10) a 4 (some (gn σ + 2))) 20 10) a 5 (some (gn σ + 3))) 20 10) a 6 (some (gn σ + 4))) 20 10) a 7 (some (gn σ + 5))) 20 10) a 8 (some (gn σ + 6))) a 9 0) 21 90) a 10 (some (gn σ + 7))) 21 3) a 11 (some (gn σ + 8))) a 12 0) a 13 0) 21 2700) a = (12, 0) := tg_new hT ha
  have ha : a < gn (sN (sI (sI (sR (sN (sR (sN (sI (sR (sN (sR (sN (sR (sN (sR (sN (sR (sN (sR (sN (sR (sN (sI (sI σ a 0 0) a 1 0) 20 10) a 2 (some (gn σ))) 20 10) a 3 (some (gn σ + 1))) 20 10) a 4 (some (gn σ + 2))) 20 10) a 5 (some (gn σ + 3))) 20 10) a 6 (some (gn σ + 4))) 20 10) a 7 (some (gn σ + 5))) 20 10) a 8 (some (gn σ + 6))) a 9 0) 21 90) a 10 (some (gn σ + 7))) 21 3) a 11 (some (gn σ + 8))) a 12 0) a 13 0) 21 2700) := Nat.lt_succ_of_lt ha
  refine pfX11_54 C hT hin dX11_init_106 ?_
  refine h_aload_n C 0 dX11_init_109 rfl rfl ?_
  refine h_iconst C 3 dX11_init_110 (by decide) ?_
  refine h_newaL C (N := 3) acL (by decide) (by decide) (by decide) (by decide) (by decide) dX11_init_111 ?_
  have hT : gT (sN (sR (sN (sI (sI (sR (sN (sR (sN (sI (sR (sN (sR (sN (sR (sN (sR (sN (sR (sN (sR (sN (sR (sN (sI (sI σ a 0 0) a 1 0) 20 10) a 2 (some (gn σ))) 20 10) a 3 (some (gn σ + 1))) 20 10) a 4 (some (gn σ + 2))) 20 10) a 5 (some (gn σ + 3))) 20 10) a 6 (some (gn σ + 4))) 20 10) a 7 (some (gn σ + 5))) 20 10) a 8 (some (gn σ + 6))) a 9 0) 21 90) a 10 (some (gn σ + 7))) 21 3) a 11 (some (gn σ + 8))) a 12 0) a 13 0) 21 2700) a 14 (some (gn σ + 9))) 21 3) a = (12, 0) := tg_new hT ha
  have ha : a < gn (sN (sR (sN (sI (sI (sR (sN (sR (sN (sI (sR (sN (sR (sN (sR (sN (sR (sN (sR (sN (sR (sN (sR (sN (sI (sI σ a 0 0) a 1 0) 20 10) a 2 (some (gn σ))) 20 10) a 3 (some (gn σ + 1))) 20 10) a 4 (some (gn σ + 2))) 20 10) a 5 (some (gn σ + 3))) 20 10) a 6 (some (gn σ + 4))) 20 10) a 7 (some (gn σ + 5))) 20 10) a 8 (some (gn σ + 6))) a 9 0) 21 90) a 10 (some (gn σ + 7))) 21 3) a 11 (some (gn σ + 8))) a 12 0) a 13 0) 21 2700) a 14 (some (gn σ + 9))) 21 3) := Nat.lt_succ_of_lt ha
  refine pfX11_57 C hT hin dX11_init_113 ?_
  refine h_aload_n C 0 dX11_init_116 rfl rfl ?_
  refine h_iconst C 3 dX11_init_117 (by decide) ?_
  refine h_newaL C (N := 3) acL (by decide) (by decide) (by decide) (by decide) (by decide) dX11_init_118 ?_
  have hT : gT (sN (sR (sN (sR (sN (sI (sI (sR (sN (sR (sN (sI (sR (sN (sR (sN (sR (sN (sR (sN (sR (sN (sR (sN (sR (sN (sI (sI σ a 0 0) a 1 0) 20 10) a 2 (some (gn σ))) 20 10) a 3 (some (gn σ + 1))) 20 10) a 4 (some (gn σ + 2))) 20 10) a 5 (some (gn σ + 3))) 20 10) a 6 (some (gn σ + 4))) 20 10) a 7 (some (gn σ + 5))) 20 10) a 8 (some (gn σ + 6))) a 9 0) 21 90) a 10 (some (gn σ + 7))) 21 3) a 11 (some (gn σ + 8))) a 12 0) a 13 0) 21 2700) a 14 (some (gn σ + 9))) 21 3) a 15 (some (gn σ + 10))) 21 3) a = (12, 0) := tg_new hT ha
  have ha : a < gn (sN (sR (sN (sR (sN (sI (sI (sR (sN (sR (sN (sI (sR (sN (sR (sN (sR (sN (sR (sN (sR (sN (sR (sN (sR (sN (sI (sI σ a 0 0) a 1 0) 20 10) a 2 (some (gn σ))) 20 10) a 3 (some (gn σ + 1))) 20 10) a 4 (some (gn σ + 2))) 20 10) a 5 (some (gn σ + 3))) 20 10) a 6 (some (gn σ + 4))) 20 10) a 7 (some (gn σ + 5))) 20 10) a 8 (some (gn σ + 6))) a 9 0) 21 90) a 10 (some (gn σ + 7))) 21 3) a 11 (some (gn σ + 8))) a 12 0) a 13 0) 21 2700) a 14 (some (gn σ + 9))) 21 3) a 15 (some (gn σ + 10))) 21 3) := Nat.lt_succ_of_lt ha
  refine pfX11_60 C hT hin dX11_init_120 ?_
  refine h_aload_n C 0 dX11_init_123 rfl rfl ?_
  refine h_iconst C 0 dX11_init_124 (by decide) ?_
  refine pfX11_63 C hT dX11_init_125 ?_
  refine h_aload_n C 0 dX11_init_128 rfl rfl ?_
  refine h_bipush C 48 dX11_init_129 (by decide) ?_
  refine h_newaI C (N := 48) acI (by decide) (by decide) (by decide) (by decide) (by decide) dX11_init_131 ?_
  have hT : gT (sN (sI (sR (sN (sR (sN (sR (sN (sI (sI (sR (sN (sR (sN (sI (sR (sN (sR (sN (sR (sN (sR (sN (sR (sN (sR (sN (sR (sN (sI (sI σ a 0 0) a 1 0) 20 10) a 2 (some (gn σ))) 20 10) a 3 (some (gn σ + 1))) 20 10) a 4 (some (gn σ + 2))) 20 10) a 5 (some (gn σ + 3))) 20 10) a 6 (some (gn σ + 4))) 20 10) a 7 (some (gn σ + 5))) 20 10) a 8 (some (gn σ + 6))) a 9 0) 21 90) a 10 (some (gn σ + 7))) 21 3) a 11 (some (gn σ + 8))) a 12 0) a 13 0) 21 2700) a 14 (some (gn σ + 9))) 21 3) a 15 (some (gn σ + 10))) 21 3) a 16 (some (gn σ + 11))) a 17 0) 20 48) a = (12, 0) := tg_new hT ha
  have ha : a < gn (sN (sI (sR (sN (sR (sN (sR (sN (sI (sI (sR (sN (sR (sN (sI (sR (sN (sR (sN (sR (sN (sR (sN (sR (sN (sR (sN (sR (sN (sI (sI σ a 0 0) a 1 0) 20 10) a 2 (some (gn σ))) 20 10) a 3 (some (gn σ + 1))) 20 10) a 4 (some (gn σ + 2))) 20 10) a 5 (some (gn σ + 3))) 20 10) a 6 (some (gn σ + 4))) 20 10) a 7 (some (gn σ + 5))) 20 10) a 8 (some (gn σ + 6))) a 9 0) 21 90) a 10 (some (gn σ + 7))) 21 3) a 11 (some (gn σ + 8))) a 12 0) a 13 0) 21 2700) a 14 (some (gn σ + 9))) 21 3) a 15 (some (gn σ + 10))) 21 3) a 16 (some (gn σ + 11))) a 17 0) 20 48) := Nat.lt_succ_of_lt ha
  refine pfX11_66 C hT hin dX11_init_133 ?_
  refine h_aload_n C 0 dX11_init_136 rfl rfl ?_
  refine h_bipush C 9 dX11_init_137 (by decide) ?_
  refine h_newaL C (N := 9) acL (by decide) (by decide) (by decide) (by decide) (by decide) dX11_init_139 ?_
  have hT : gT (sN (sR (sN (sI (sR (sN (sR (sN (sR (sN (sI (sI (sR (sN (sR (sN (sI (sR (sN (sR (sN (sR (sN (sR (sN (sR (sN (sR (sN (sR (sN (sI (sI σ a 0 0) a 1 0) 20 10) a 2 (some (gn σ))) 20 10) a 3 (some (gn σ + 1))) 20 10) a 4 (some (gn σ + 2))) 20 10) a 5 (some (gn σ + 3))) 20 10) a 6 (some (gn σ + 4))) 20 10) a 7 (some (gn σ + 5))) 20 10) a 8 (some (gn σ + 6))) a 9 0) 21 90) a 10 (some (gn σ + 7))) 21 3) a 11 (some (gn σ + 8))) a 12 0) a 13 0) 21 2700) a 14 (some (gn σ + 9))) 21 3) a 15 (some (gn σ + 10))) 21 3) a 16 (some (gn σ + 11))) a 17 0) 20 48) a 18 (some (gn σ + 12))) 21 9) a = (12, 0) := tg_new hT ha
  have ha : a < gn (sN (sR (sN (sI (sR (sN (sR (sN (sR (sN (sI (sI (sR (sN (sR (sN (sI (sR (sN (sR (sN (sR (sN (sR (sN (sR (sN (sR (sN (sR (sN (sI (sI σ a 0 0) a 1 0) 20 10) a 2 (some (gn σ))) 20 10) a 3 (some (gn σ + 1))) 20 10) a 4 (some (gn σ + 2))) 20 10) a 5 (some (gn σ + 3))) 20 10) a 6 (some (gn σ + 4))) 20 10) a 7 (some (gn σ + 5))) 20 10) a 8 (some (gn σ + 6))) a 9 0) 21 90) a 10 (some (gn σ + 7))) 21 3) a 11 (some (gn σ + 8))) a 12 0) a 13 0) 21 2700) a 14 (some (gn σ + 9))) 21 3) a 15 (some (gn σ + 10))) 21 3) a 16 (some (gn σ + 11))) a 17 0) 20 48) a 18 (some (gn σ + 12))) 21 9) := Nat.lt_succ_of_lt ha
  refine pfX11_69 C hT hin dX11_init_141 ?_
  refine h_aload_n C 0 dX11_init_144 rfl rfl ?_
  refine h_iconst C 3 dX11_init_145 (by decide) ?_
  refine h_newaL C (N := 3) acL (by decide) (by decide) (by decide) (by decide) (by decide) dX11_init_146 ?_
  have hT : gT (sN (sR (sN (sR (sN (sI (sR (sN (sR (sN (sR (sN (sI (sI (sR (sN (sR (sN (sI (sR (sN (sR (sN (sR (sN (sR (sN (sR (sN (sR (sN (sR (sN (sI (sI σ a 0 0) a 1 0) 20 10) a 2 (some (gn σ))) 20 10) a 3 (some (gn σ + 1))) 20 10) a 4 (some (gn σ + 2))) 20 10) a 5 (some (gn σ + 3))) 20 10) a 6 (some (gn σ + 4))) 20 10) a 7 (some (gn σ + 5))) 20 10) a 8 (some (gn σ + 6))) a 9 0) 21 90) a 10 (some (gn σ + 7))) 21 3) a 11 (some (gn σ + 8))) a 12 0) a 13 0) 21 2700) a 14 (some (gn σ + 9))) 21 3) a 15 (some (gn σ + 10))) 21 3) a 16 (some (gn σ + 11))) a 17 0) 20 48) a 18 (some (gn σ + 12))) 21 9) a 19 (some (gn σ + 13))) 21 3) a = (12, 0) := tg_new hT ha
  have ha : a < gn (sN (sR (sN (sR (sN (sI (sR (sN (sR (sN (sR (sN (sI (sI (sR (sN (sR (sN (sI (sR (sN (sR (sN (sR (sN (sR (sN (sR (sN (sR (sN (sR (sN (sI (sI σ a 0 0) a 1 0) 20 10) a 2 (some (gn σ))) 20 10) a 3 (some (gn σ + 1))) 20 10) a 4 (some (gn σ + 2))) 20 10) a 5 (some (gn σ + 3))) 20 10) a 6 (some (gn σ + 4))) 20 10) a 7 (some (gn σ + 5))) 20 10) a 8 (some (gn σ + 6))) a 9 0) 21 90) a 10 (some (gn σ + 7))) 21 3) a 11 (some (gn σ + 8))) a 12 0) a 13 0) 21 2700) a 14 (some (gn σ + 9))) 21 3) a 15 (some (gn σ + 10))) 21 3) a 16 (some (gn σ + 11))) a 17 0) 20 48) a 18 (some (gn σ + 12))) 21 9) a 19 (some (gn σ + 13))) 21 3) := Nat.lt_succ_of_lt ha
  refine pfX11_72 C hT hin dX11_init_148 ?_
  refine h_aload_n C 0 dX11_init_151 rfl rfl ?_
  refine h_lconst C 0 dX11_init_152 rfl ?_
  refine pfX11_75 C hT dX11_init_153 ?_
  refine h_aload_n C 0 dX11_init_156 rfl rfl ?_
  refine h_lconst C 1 dX11_init_157 rfl ?_
  refine pfX11_79 C hT dX11_init_158 ?_
  refine h_aload_n C 0 dX11_init_161 rfl rfl ?_
  refine h_iconst C 0 dX11_init_162 (by decide) ?_
  refine pfX11_82 C hT dX11_init_163 ?_
  refine h_aload_n C 0 dX11_init_166 rfl rfl ?_
  refine h_bipush C 12 dX11_init_167 (by decide) ?_
  refine h_newaI C (N := 12) acI (by decide) (by decide) (by decide) (by decide) (by decide) dX11_init_169 ?_
  have hT : gT (sN (sI (sL (sL (sR (sN (sR (sN (sR (sN (sI (sR (sN (sR (sN (sR (sN (sI (sI (sR (sN (sR (sN (sI (sR (sN (sR (sN (sR (sN (sR (sN (sR (sN (sR (sN (sR (sN (sI (sI σ a 0 0) a 1 0) 20 10) a 2 (some (gn σ))) 20 10) a 3 (some (gn σ + 1))) 20 10) a 4 (some (gn σ + 2))) 20 10) a 5 (some (gn σ + 3))) 20 10) a 6 (some (gn σ + 4))) 20 10) a 7 (some (gn σ + 5))) 20 10) a 8 (some (gn σ + 6))) a 9 0) 21 90) a 10 (some (gn σ + 7))) 21 3) a 11 (some (gn σ + 8))) a 12 0) a 13 0) 21 2700) a 14 (some (gn σ + 9))) 21 3) a 15 (some (gn σ + 10))) 21 3) a 16 (some (gn σ + 11))) a 17 0) 20 48) a 18 (some (gn σ + 12))) 21 9) a 19 (some (gn σ + 13))) 21 3) a 20 (some (gn σ + 14))) a 21 0) a 22 1) a 23 0) 20 12) a = (12, 0) := tg_new hT ha
  have ha : a < gn (sN (sI (sL (sL (sR (sN (sR (sN (sR (sN (sI (sR (sN (sR (sN (sR (sN (sI (sI (sR (sN (sR (sN (sI (sR (sN (sR (sN (sR (sN (sR (sN (sR (sN (sR (sN (sR (sN (sI (sI σ a 0 0) a 1 0) 20 10) a 2 (some (gn σ))) 20 10) a 3 (some (gn σ + 1))) 20 10) a 4 (some (gn σ + 2))) 20 10) a 5 (some (gn σ + 3))) 20 10) a 6 (some (gn σ + 4))) 20 10) a 7 (some (gn σ + 5))) 20 10) a 8 (some (gn σ + 6))) a 9 0) 21 90) a 10 (some (gn σ + 7))) 21 3) a 11 (some (gn σ + 8))) a 12 0) a 13 0) 21 2700) a 14 (some (gn σ + 9))) 21 3) a 15 (some (gn σ + 10))) 21 3) a 16 (some (gn σ + 11))) a 17 0) 20 48) a 18 (some (gn σ + 12))) 21 9) a 19 (some (gn σ + 13))) 21 3) a 20 (some (gn σ + 14))) a 21 0) a 22 1) a 23 0) 20 12) := Nat.lt_succ_of_lt ha
  refine pfX11_85 C hT hin dX11_init_171 ?_
  refine h_aload_n C 0 dX11_init_174 rfl rfl ?_
  refine h_bipush C 12 dX11_init_175 (by decide) ?_
  refine h_newaI C (N := 12) acI (by decide) (by decide) (by decide) (by decide) (by decide) dX11_init_177 ?_
  have hT : gT (sN (sR (sN (sI (sL (sL (sR (sN (sR (sN (sR (sN (sI (sR (sN (sR (sN (sR (sN (sI (sI (sR (sN (sR (sN (sI (sR (sN (sR (sN (sR (sN (sR (sN (sR (sN (sR (sN (sR (sN (sI (sI σ a 0 0) a 1 0) 20 10) a 2 (some (gn σ))) 20 10) a 3 (some (gn σ + 1))) 20 10) a 4 (some (gn σ + 2))) 20 10) a 5 (some (gn σ + 3))) 20 10) a 6 (some (gn σ + 4))) 20 10) a 7 (some (gn σ + 5))) 20 10) a 8 (some (gn σ + 6))) a 9 0) 21 90) a 10 (some (gn σ + 7))) 21 3) a 11 (some (gn σ + 8))) a 12 0) a 13 0) 21 2700) a 14 (some (gn σ + 9))) 21 3) a 15 (some (gn σ + 10))) 21 3) a 16 (some (gn σ + 11))) a 17 0) 20 48) a 18 (some (gn σ + 12))) 21 9) a 19 (some (gn σ + 13))) 21 3) a 20 (some (gn σ + 14))) a 21 0) a 22 1) a 23 0) 20 12) a 24 (some (gn σ + 15))) 20 12) a = (12, 0) := tg_new hT ha
  have ha : a < gn (sN (sR (sN (sI (sL (sL (sR (sN (sR (sN (sR (sN (sI (sR (sN (sR (sN (sR (sN (sI (sI (sR (sN (sR (sN (sI (sR (sN (sR (sN (sR (sN (sR (sN (sR (sN (sR (sN (sR (sN (sI (sI σ a 0 0) a 1 0) 20 10) a 2 (some (gn σ))) 20 10) a 3 (some (gn σ + 1))) 20 10) a 4 (some (gn σ + 2))) 20 10) a 5 (some (gn σ + 3))) 20 10) a 6 (some (gn σ + 4))) 20 10) a 7 (some (gn σ + 5))) 20 10) a 8 (some (gn σ + 6))) a 9 0) 21 90) a 10 (some (gn σ + 7))) 21 3) a 11 (some (gn σ + 8))) a 12 0) a 13 0) 21 2700) a 14 (some (gn σ + 9))) 21 3) a 15 (some (gn σ + 10))) 21 3) a 16 (some (gn σ + 11))) a 17 0) 20 48) a 18 (some (gn σ + 12))) 21 9) a 19 (some (gn σ + 13))) 21 3) a 20 (some (gn σ + 14))) a 21 0) a 22 1) a 23 0) 20 12) a 24 (some (gn σ + 15))) 20 12) := Nat.lt_succ_of_lt ha
  refine pfX11_88 C hT hin dX11_init_179 ?_
  refine h_aload_n C 0 dX11_init_182 rfl rfl ?_
  refine h_sipush C 4096 dX11_init_183 (by decide) ?_
  refine h_newaI C (N := 4096) acI (by decide) (by decide) (by decide) (by decide) (by decide) dX11_init_186 ?_
  have hT : gT (sN (sR (sN (sR (sN (sI (sL (sL (sR (sN (sR (sN (sR (sN (sI (sR (sN (sR (sN (sR (sN (sI (sI (sR (sN (sR (sN (sI (sR (sN (sR (sN (sR (sN (sR (sN (sR (sN (sR (sN (sR (sN (sI (sI σ a 0 0) a 1 0) 20 10) a 2 (some (gn σ))) 20 10) a 3 (some (gn σ + 1))) 20 10) a 4 (some (gn σ + 2))) 20 10) a 5 (some (gn σ + 3))) 20 10) a 6 (some (gn σ + 4))) 20 10) a 7 (some (gn σ + 5))) 20 10) a 8 (some (gn σ + 6))) a 9 0) 21 90) a 10 (some (gn σ + 7))) 21 3) a 11 (some (gn σ + 8))) a 12 0) a 13 0) 21 2700) a 14 (some (gn σ + 9))) 21 3) a 15 (some (gn σ + 10))) 21 3) a 16 (some (gn σ + 11))) a 17 0) 20 48) a 18 (some (gn σ + 12))) 21 9) a 19 (some (gn σ + 13))) 21 3) a 20 (some (gn σ + 14))) a 21 0) a 22 1) a 23 0) 20 12) a 24 (some (gn σ + 15))) 20 12) a 25 (some (gn σ + 16))) 20 4096) a = (12, 0) := tg_new hT ha
  have ha : a < gn (sN (sR (sN (sR (sN (sI (sL (sL (sR (sN (sR (sN (sR (sN (sI (sR (sN (sR (sN (sR (sN (sI (sI (sR (sN (sR (sN (sI (sR (sN (sR (sN (sR (sN (sR (sN (sR (sN (sR (sN (sR (sN (sI (sI σ a 0 0) a 1 0) 20 10) a 2 (some (gn σ))) 20 10) a 3 (some (gn σ + 1))) 20 10) a 4 (some (gn σ + 2))) 20 10) a 5 (some (gn σ + 3))) 20 10) a 6 (some (gn σ + 4))) 20 10) a 7 (some (gn σ + 5))) 20 10) a 8 (some (gn σ + 6))) a 9 0) 21 90) a 10 (some (gn σ + 7))) 21 3) a 11 (some (gn σ + 8))) a 12 0) a 13 0) 21 2700) a 14 (some (gn σ + 9))) 21 3) a 15 (some (gn σ + 10))) 21 3) a 16 (some (gn σ + 11))) a 17 0) 20 48) a 18 (some (gn σ + 12))) 21 9) a 19 (some (gn σ + 13))) 21 3) a 20 (some (gn σ + 14))) a 21 0) a 22 1) a 23 0) 20 12) a 24 (some (gn σ + 15))) 20 12) a 25 (some (gn σ + 16))) 20 4096) := Nat.lt_succ_of_lt ha
  refine pfX11_91 C hT hin dX11_init_188 ?_
  refine h_aload_n C 0 dX11_init_191 rfl rfl ?_
  refine h_iconst C 0 dX11_init_192 (by decide) ?_
  refine pfX11_94 C hT dX11_init_193 ?_
  refine h_aload_n C 0 dX11_init_196 rfl rfl ?_
  refine h_iconst C 0 dX11_init_197 (by decide) ?_
  refine pfX11_97 C hT dX11_init_198 ?_
  refine h_aload_n C 0 dX11_init_201 rfl rfl ?_
  refine h_bipush C 40 dX11_init_202 (by decide) ?_
  refine h_newaI C (N := 40) acI (by decide) (by decide) (by decide) (by decide) (by decide) dX11_init_204 ?_
  have hT : gT (sN (sI (sI (sR (sN (sR (sN (sR (sN (sI (sL (sL (sR (sN (sR (sN (sR (sN (sI (sR (sN (sR (sN (sR (sN (sI (sI (sR (sN (sR (sN (sI (sR (sN (sR (sN (sR (sN (sR (sN (sR (sN (sR (sN (sR (sN (sI (sI σ a 0 0) a 1 0) 20 10) a 2 (some (gn σ))) 20 10) a 3 (some (gn σ + 1))) 20 10) a 4 (some (gn σ + 2))) 20 10) a 5 (some (gn σ + 3))) 20 10) a 6 (some (gn σ + 4))) 20 10) a 7 (some (gn σ + 5))) 20 10) a 8 (some (gn σ + 6))) a 9 0) 21 90) a 10 (some (gn σ + 7))) 21 3) a 11 (some (gn σ + 8))) a 12 0) a 13 0) 21 2700) a 14 (some (gn σ + 9))) 21 3) a 15 (some (gn σ + 10))) 21 3) a 16 (some (gn σ + 11))) a 17 0) 20 48) a 18 (some (gn σ + 12))) 21 9) a 19 (some (gn σ + 13))) 21 3) a 20 (some (gn σ + 14))) a 21 0) a 22 1) a 23 0) 20 12) a 24 (some (gn σ + 15))) 20 12) a 25 (some (gn σ + 16))) 20 4096) a 26 (some (gn σ + 17))) a 27 0) a 28 0) 20 40) a = (12, 0) := tg_new hT ha
  have ha : a < gn (sN (sI (sI (sR (sN (sR (sN (sR (sN (sI (sL (sL (sR (sN (sR (sN (sR (sN (sI (sR (sN (sR (sN (sR (sN (sI (sI (sR (sN (sR (sN (sI (sR (sN (sR (sN (sR (sN (sR (sN (sR (sN (sR (sN (sR (sN (sI (sI σ a 0 0) a 1 0) 20 10) a 2 (some (gn σ))) 20 10) a 3 (some (gn σ + 1))) 20 10) a 4 (some (gn σ + 2))) 20 10) a 5 (some (gn σ + 3))) 20 10) a 6 (some (gn σ + 4))) 20 10) a 7 (some (gn σ + 5))) 20 10) a 8 (some (gn σ + 6))) a 9 0) 21 90) a 10 (some (gn σ + 7))) 21 3) a 11 (some (gn σ + 8))) a 12 0) a 13 0) 21 2700) a 14 (some (gn σ + 9))) 21 3) a 15 (some (gn σ + 10))) 21 3) a 16 (some (gn σ + 11))) a 17 0) 20 48) a 18 (some (gn σ + 12))) 21 9) a 19 (some (gn σ + 13))) 21 3) a 20 (some (gn σ + 14))) a 21 0) a 22 1) a 23 0) 20 12) a 24 (some (gn σ + 15))) 20 12) a 25 (some (gn σ + 16))) 20 4096) a 26 (some (gn σ + 17))) a 27 0) a 28 0) 20 40) := Nat.lt_succ_of_lt ha
  refine pfX11_100 C hT hin dX11_init_206 ?_
  refine h_aload_n C 0 dX11_init_209 rfl rfl ?_
  refine h_bipush C 40 dX11_init_210 (by decide) ?_
  refine h_newaI C (N := 40) acI (by decide) (by decide) (by decide) (by decide) (by decide) dX11_init_212 ?_
  have hT : gT (sN (sR (sN (sI (sI (sR (sN (sR (sN (sR (sN (sI (sL (sL (sR (sN (sR (sN (sR (sN (sI (sR (sN (sR (sN (sR (sN (sI (sI (sR (sN (sR (sN (sI (sR (sN (sR (sN (sR (sN (sR (sN (sR (sN (sR (sN (sR (sN (sI (sI σ a 0 0) a 1 0) 20 10) a 2 (some (gn σ))) 20 10) a 3 (some (gn σ + 1))) 20 10) a 4 (some (gn σ + 2))) 20 10) a 5 (some (gn σ + 3))) 20 10) a 6 (some (gn σ + 4))) 20 10) a 7 (some (gn σ + 5))) 20 10) a 8 (some (gn σ + 6))) a 9 0) 21 90) a 10 (some (gn σ + 7))) 21 3) a 11 (some (gn σ + 8))) a 12 0) a 13 0) 21 2700) a 14 (some (gn σ + 9))) 21 3) a 15 (some (gn σ + 10))) 21 3) a 16 (some (gn σ + 11))) a 17 0) 20 48) a 18 (some (gn σ + 12))) 21 9) a 19 (some (gn σ + 13))) 21 3) a 20 (some (gn σ + 14))) a 21 0) a 22 1) a 23 0) 20 12) a 24 (some (gn σ + 15))) 20 12) a 25 (some (gn σ + 16))) 20 4096) a 26 (some (gn σ + 17))) a 27 0) a 28 0) 20 40) a 29 (some (gn σ + 18))) 20 40) a = (12, 0) := tg_new hT ha
  have ha : a < gn (sN (sR (sN (sI (sI (sR (sN (sR (sN (sR (sN (sI (sL (sL (sR (sN (sR (sN (sR (sN (sI (sR (sN (sR (sN (sR (sN (sI (sI (sR (sN (sR (sN (sI (sR (sN (sR (sN (sR (sN (sR (sN (sR (sN (sR (sN (sR (sN (sI (sI σ a 0 0) a 1 0) 20 10) a 2 (some (gn σ))) 20 10) a 3 (some (gn σ + 1))) 20 10) a 4 (some (gn σ + 2))) 20 10) a 5 (some (gn σ + 3))) 20 10) a 6 (some (gn σ + 4))) 20 10) a 7 (some (gn σ + 5))) 20 10) a 8 (some (gn σ + 6))) a 9 0) 21 90) a 10 (some (gn σ + 7))) 21 3) a 11 (some (gn σ + 8))) a 12 0) a 13 0) 21 2700) a 14 (some (gn σ + 9))) 21 3) a 15 (some (gn σ + 10))) 21 3) a 16 (some (gn σ + 11))) a 17 0) 20 48) a 18 (some (gn σ + 12))) 21 9) a 19 (some (gn σ + 13))) 21 3) a 20 (some (gn σ + 14))) a 21 0) a 22 1) a 23 0) 20 12) a 24 (some (gn σ + 15))) 20 12) a 25 (some (gn σ + 16))) 20 4096) a 26 (some (gn σ + 17))) a 27 0) a 28 0) 20 40) a 29 (some (gn σ + 18))) 20 40) := Nat.lt_succ_of_lt ha
  refine pfX11_103 C hT hin dX11_init_214 ?_
  refine h_aload_n C 0 dX11_init_217 rfl rfl ?_
  refine h_bipush C 8 dX11_init_218 (by decide) ?_
  refine h_newaI C (N := 8) acI (by decide) (by decide) (by decide) (by decide) (by decide) dX11_init_220 ?_
  have hT : gT (sN (sR (sN (sR (sN (sI (sI (sR (sN (sR (sN (sR (sN (sI (sL (sL (sR (sN (sR (sN (sR (sN (sI (sR (sN (sR (sN (sR (sN (sI (sI (sR (sN (sR (sN (sI (sR (sN (sR (sN (sR (sN (sR (sN (sR (sN (sR (sN (sR (sN (sI (sI σ a 0 0) a 1 0) 20 10) a 2 (some (gn σ))) 20 10) a 3 (some (gn σ + 1))) 20 10) a 4 (some (gn σ + 2))) 20 10) a 5 (some (gn σ + 3))) 20 10) a 6 (some (gn σ + 4))) 20 10) a 7 (some (gn σ + 5))) 20 10) a 8 (some (gn σ + 6))) a 9 0) 21 90) a 10 (some (gn σ + 7))) 21 3) a 11 (some (gn σ + 8))) a 12 0) a 13 0) 21 2700) a 14 (some (gn σ + 9))) 21 3) a 15 (some (gn σ + 10))) 21 3) a 16 (some (gn σ + 11))) a 17 0) 20 48) a 18 (some (gn σ + 12))) 21 9) a 19 (some (gn σ + 13))) 21 3) a 20 (some (gn σ + 14))) a 21 0) a 22 1) a 23 0) 20 12) a 24 (some (gn σ + 15))) 20 12) a 25 (some (gn σ + 16))) 20 4096) a 26 (some (gn σ + 17))) a 27 0) a 28 0) 20 40) a 29 (some (gn σ + 18))) 20 40) a 30 (some (gn σ + 19))) 20 8) a = (12, 0) := tg_new hT ha
  have ha : a < gn (sN (sR (sN (sR (sN (sI (sI (sR (sN (sR (sN (sR (sN (sI (sL (sL (sR (sN (sR (sN (sR (sN (sI (sR (sN (sR (sN (sR (sN (sI (sI (sR (sN (sR (sN (sI (sR (sN (sR (sN (sR (sN (sR (sN (sR (sN (sR (sN (sR (sN (sI (sI σ a 0 0) a 1 0) 20 10) a 2 (some (gn σ))) 20 10) a 3 (some (gn σ + 1))) 20 10) a 4 (some (gn σ + 2))) 20 10) a 5 (some (gn σ + 3))) 20 10) a 6 (some (gn σ + 4))) 20 10) a 7 (some (gn σ + 5))) 20 10) a 8 (some (gn σ + 6))) a 9 0) 21 90) a 10 (some (gn σ + 7))) 21 3) a 11 (some (gn σ + 8))) a 12 0) a 13 0) 21 2700) a 14 (some (gn σ + 9))) 21 3) a 15 (some (gn σ + 10))) 21 3) a 16 (some (gn σ + 11))) a 17 0) 20 48) a 18 (some (gn σ + 12))) 21 9) a 19 (some (gn σ + 13))) 21 3) a 20 (some (gn σ + 14))) a 21 0) a 22 1) a 23 0) 20 12) a 24 (some (gn σ + 15))) 20 12) a 25 (some (gn σ + 16))) 20 4096) a 26 (some (gn σ + 17))) a 27 0) a 28 0) 20 40) a 29 (some (gn σ + 18))) 20 40) a 30 (some (gn σ + 19))) 20 8) := Nat.lt_succ_of_lt ha
  refine pfX11_106 C hT hin dX11_init_222 ?_
  refine h_aload_n C 0 dX11_init_225 rfl rfl ?_
  refine h_bipush C 8 dX11_init_226 (by decide) ?_
  refine h_newaI C (N := 8) acI (by decide) (by decide) (by decide) (by decide) (by decide) dX11_init_228 ?_
  have hT : gT (sN (sR (sN (sR (sN (sR (sN (sI (sI (sR (sN (sR (sN (sR (sN (sI (sL (sL (sR (sN (sR (sN (sR (sN (sI (sR (sN (sR (sN (sR (sN (sI (sI (sR (sN (sR (sN (sI (sR (sN (sR (sN (sR (sN (sR (sN (sR (sN (sR (sN (sR (sN (sI (sI σ a 0 0) a 1 0) 20 10) a 2 (some (gn σ))) 20 10) a 3 (some (gn σ + 1))) 20 10) a 4 (some (gn σ + 2))) 20 10) a 5 (some (gn σ + 3))) 20 10) a 6 (some (gn σ + 4))) 20 10) a 7 (some (gn σ + 5))) 20 10) a 8 (some (gn σ + 6))) a 9 0) 21 90) a 10 (some (gn σ + 7))) 21 3) a 11 (some (gn σ + 8))) a 12 0) a 13 0) 21 2700) a 14 (some (gn σ + 9))) 21 3) a 15 (some (gn σ + 10))) 21 3) a 16 (some (gn σ + 11))) a 17 0) 20 48) a 18 (some (gn σ + 12))) 21 9) a 19 (some (gn σ + 13))) 21 3) a 20 (some (gn σ + 14))) a 21 0) a 22 1) a 23 0) 20 12) a 24 (some (gn σ + 15))) 20 12) a 25 (some (gn σ + 16))) 20 4096) a 26 (some (gn σ + 17))) a 27 0) a 28 0) 20 40) a 29 (some (gn σ + 18))) 20 40) a 30 (some (gn σ + 19))) 20 8) a 31 (some (gn σ + 20))) 20 8) a = (12, 0) := tg_new hT ha
  have ha : a < gn (sN (sR (sN (sR (sN (sR (sN (sI (sI (sR (sN (sR (sN (sR (sN (sI (sL (sL (sR (sN (sR (sN (sR (sN (sI (sR (sN (sR (sN (sR (sN (sI (sI (sR (sN (sR (sN (sI (sR (sN (sR (sN (sR (sN (sR (sN (sR (sN (sR (sN (sR (sN (sI (sI σ a 0 0) a 1 0) 20 10) a 2 (some (gn σ))) 20 10) a 3 (some (gn σ + 1))) 20 10) a 4 (some (gn σ + 2))) 20 10) a 5 (some (gn σ + 3))) 20 10) a 6 (some (gn σ + 4))) 20 10) a 7 (some (gn σ + 5))) 20 10) a 8 (some (gn σ + 6))) a 9 0) 21 90) a 10 (some (gn σ + 7))) 21 3) a 11 (some (gn σ + 8))) a 12 0) a 13 0) 21 2700) a 14 (some (gn σ + 9))) 21 3) a 15 (some (gn σ + 10))) 21 3) a 16 (some (gn σ + 11))) a 17 0) 20 48) a 18 (some (gn σ + 12))) 21 9) a 19 (some (gn σ + 13))) 21 3) a 20 (some (gn σ + 14))) a 21 0) a 22 1) a 23 0) 20 12) a 24 (some (gn σ + 15))) 20 12) a 25 (some (gn σ + 16))) 20 4096) a 26 (some (gn σ + 17))) a 27 0) a 28 0) 20 40) a 29 (some (gn σ + 18))) 20 40) a 30 (some (gn σ + 19))) 20 8) a 31 (some (gn σ + 20))) 20 8) := Nat.lt_succ_of_lt ha
  refine pfX11_109 C hT hin dX11_init_230 ?_
  refine h_aload_n C 0 dX11_init_233 rfl rfl ?_
  refine h_bipush C 8 dX11_init_234 (by decide) ?_
  refine h_newaI C (N := 8) acI (by decide) (by decide) (by decide) (by decide) (by decide) dX11_init_236 ?_
  have hT : gT (sN (sR (sN (sR (sN (sR (sN (sR (sN (sI (sI (sR (sN (sR (sN (sR (sN (sI (sL (sL (sR (sN (sR (sN (sR (sN (sI (sR (sN (sR (sN (sR (sN (sI (sI (sR (sN (sR (sN (sI (sR (sN (sR (sN (sR (sN (sR (sN (sR (sN (sR (sN (sR (sN (sI (sI σ a 0 0) a 1 0) 20 10) a 2 (some (gn σ))) 20 10) a 3 (some (gn σ + 1))) 20 10) a 4 (some (gn σ + 2))) 20 10) a 5 (some (gn σ + 3))) 20 10) a 6 (some (gn σ + 4))) 20 10) a 7 (some (gn σ + 5))) 20 10) a 8 (some (gn σ + 6))) a 9 0) 21 90) a 10 (some (gn σ + 7))) 21 3) a 11 (some (gn σ + 8))) a 12 0) a 13 0) 21 2700) a 14 (some (gn σ + 9))) 21 3) a 15 (some (gn σ + 10))) 21 3) a 16 (some (gn σ + 11))) a 17 0) 20 48) a 18 (some (gn σ + 12))) 21 9) a 19 (some (gn σ + 13))) 21 3) a 20 (some (gn σ + 14))) a 21 0) a 22 1) a 23 0) 20 12) a 24 (some (gn σ + 15))) 20 12) a 25 (some (gn σ + 16))) 20 4096) a 26 (some (gn σ + 17))) a 27 0) a 28 0) 20 40) a 29 (some (gn σ + 18))) 20 40) a 30 (some (gn σ + 19))) 20 8) a 31 (some (gn σ + 20))) 20 8) a 32 (some (gn σ + 21))) 20 8) a = (12, 0) := tg_new hT ha
  have ha : a < gn (sN (sR (sN (sR (sN (sR (sN (sR (sN (sI (sI (sR (sN (sR (sN (sR (sN (sI (sL (sL (sR (sN (sR (sN (sR (sN (sI (sR (sN (sR (sN (sR (sN (sI (sI (sR (sN (sR (sN (sI (sR (sN (sR (sN (sR (sN (sR (sN (sR (sN (sR (sN (sR (sN (sI (sI σ a 0 0) a 1 0) 20 10) a 2 (some (gn σ))) 20 10) a 3 (some (gn σ + 1))) 20 10) a 4 (some (gn σ + 2))) 20 10) a 5 (some (gn σ + 3))) 20 10) a 6 (some (gn σ + 4))) 20 10) a 7 (some (gn σ + 5))) 20 10) a 8 (some (gn σ + 6))) a 9 0) 21 90) a 10 (some (gn σ + 7))) 21 3) a 11 (some (gn σ + 8))) a 12 0) a 13 0) 21 2700) a 14 (some (gn σ + 9))) 21 3) a 15 (some (gn σ + 10))) 21 3) a 16 (some (gn σ + 11))) a 17 0) 20 48) a 18 (some (gn σ + 12))) 21 9) a 19 (some (gn σ + 13))) 21 3) a 20 (some (gn σ + 14))) a 21 0) a 22 1) a 23 0) 20 12) a 24 (some (gn σ + 15))) 20 12) a 25 (some (gn σ + 16))) 20 4096) a 26 (some (gn σ + 17))) a 27 0) a 28 0) 20 40) a 29 (some (gn σ + 18))) 20 40) a 30 (some (gn σ + 19))) 20 8) a 31 (some (gn σ + 20))) 20 8) a 32 (some (gn σ + 21))) 20 8) := Nat.lt_succ_of_lt ha
  refine pfX11_112 C hT hin dX11_init_238 ?_
  refine h_aload_n C 0 dX11_init_241 rfl rfl ?_
  refine h_bipush C 8 dX11_init_242 (by decide) ?_
  refine h_newaI C (N := 8) acI (by decide) (by decide) (by decide) (by decide) (by decide) dX11_init_244 ?_
  have hT : gT (sN (sR (sN (sR (sN (sR (sN (sR (sN (sR (sN (sI (sI (sR (sN (sR (sN (sR (sN (sI (sL (sL (sR (sN (sR (sN (sR (sN (sI (sR (sN (sR (sN (sR (sN (sI (sI (sR (sN (sR (sN (sI (sR (sN (sR (sN (sR (sN (sR (sN (sR (sN (sR (sN (sR (sN (sI (sI σ a 0 0) a 1 0) 20 10) a 2 (some (gn σ))) 20 10) a 3 (some (gn σ + 1))) 20 10) a 4 (some (gn σ + 2))) 20 10) a 5 (some (gn σ + 3))) 20 10) a 6 (some (gn σ + 4))) 20 10) a 7 (some (gn σ + 5))) 20 10) a 8 (some (gn σ + 6))) a 9 0) 21 90) a 10 (some (gn σ + 7))) 21 3) a 11 (some (gn σ + 8))) a 12 0) a 13 0) 21 2700) a 14 (some (gn σ + 9))) 21 3) a 15 (some (gn σ + 10))) 21 3) a 16 (some (gn σ + 11))) a 17 0) 20 48) a 18 (some (gn σ + 12))) 21 9) a 19 (some (gn σ + 13))) 21 3) a 20 (some (gn σ + 14))) a 21 0) a 22 1) a 23 0) 20 12) a 24 (some (gn σ + 15))) 20 12) a 25 (some (gn σ + 16))) 20 4096) a 26 (some (gn σ + 17))) a 27 0) a 28 0) 20 40) a 29 (some (gn σ + 18))) 20 40) a 30 (some (gn σ + 19))) 20 8) a 31 (some (gn σ + 20))) 20 8) a 32 (some (gn σ + 21))) 20 8) a 33 (some (gn σ + 22))) 20 8) a = (12, 0) := tg_new hT ha
  have ha : a < gn (sN (sR (sN (sR (sN (sR (sN (sR (sN (sR (sN (sI (sI (sR (sN (sR (sN (sR (sN (sI (sL (sL (sR (sN (sR (sN (sR (sN (sI (sR (sN (sR (sN (sR (sN (sI (sI (sR (sN (sR (sN (sI (sR (sN (sR (sN (sR (sN (sR (sN (sR (sN (sR (sN (sR (sN (sI (sI σ a 0 0) a 1 0) 20 10) a 2 (some (gn σ))) 20 10) a 3 (some (gn σ + 1))) 20 10) a 4 (some (gn σ + 2))) 20 10) a 5 (some (gn σ + 3))) 20 10) a 6 (some (gn σ + 4))) 20 10) a 7 (some (gn σ + 5))) 20 10) a 8 (some (gn σ + 6))) a 9 0) 21 90) a 10 (some (gn σ + 7))) 21 3) a 11 (some (gn σ + 8))) a 12 0) a 13 0) 21 2700) a 14 (some (gn σ + 9))) 21 3) a 15 (some (gn σ + 10))) 21 3) a 16 (some (gn σ + 11))) a 17 0) 20 48) a 18 (some (gn σ + 12))) 21 9) a 19 (some (gn σ + 13))) 21 3) a 20 (some (gn σ + 14))) a 21 0) a 22 1) a 23 0) 20 12) a 24 (some (gn σ + 15))) 20 12) a 25 (some (gn σ + 16))) 20 4096) a 26 (some (gn σ + 17))) a 27 0) a 28 0) 20 40) a 29 (some (gn σ + 18))) 20 40) a 30 (some (gn σ + 19))) 20 8) a 31 (some (gn σ + 20))) 20 8) a 32 (some (gn σ + 21))) 20 8) a 33 (some (gn σ + 22))) 20 8) := Nat.lt_succ_of_lt ha
  refine pfX11_115 C hT hin dX11_init_246 ?_
  refine h_aload_n C 0 dX11_init_249 rfl rfl ?_
  refine h_bipush C 8 dX11_init_250 (by decide) ?_
  refine h_newaI C (N := 8) acI (by decide) (by decide) (by decide) (by decide) (by decide) dX11_init_252 ?_
  have hT : gT (sN (sR (sN (sR (sN (sR (sN (sR (sN (sR (sN (sR (sN (sI (sI (sR (sN (sR (sN (sR (sN (sI (sL (sL (sR (sN (sR (sN (sR (sN (sI (sR (sN (sR (sN (sR (sN (sI (sI (sR (sN (sR (sN (sI (sR (sN (sR (sN (sR (sN (sR (sN (sR (sN (sR (sN (sR (sN (sI (sI σ a 0 0) a 1 0) 20 10) a 2 (some (gn σ))) 20 10) a 3 (some (gn σ + 1))) 20 10) a 4 (some (gn σ + 2))) 20 10) a 5 (some (gn σ + 3))) 20 10) a 6 (some (gn σ + 4))) 20 10) a 7 (some (gn σ + 5))) 20 10) a 8 (some (gn σ + 6))) a 9 0) 21 90) a 10 (some (gn σ + 7))) 21 3) a 11 (some (gn σ + 8))) a 12 0) a 13 0) 21 2700) a 14 (some (gn σ + 9))) 21 3) a 15 (some (gn σ + 10))) 21 3) a 16 (some (gn σ + 11))) a 17 0) 20 48) a 18 (some (gn σ + 12))) 21 9) a 19 (some (gn σ + 13))) 21 3) a 20 (some (gn σ + 14))) a 21 0) a 22 1) a 23 0) 20 12) a 24 (some (gn σ + 15))) 20 12) a 25 (some (gn σ + 16))) 20 4096) a 26 (some (gn σ + 17))) a 27 0) a 28 0) 20 40) a 29 (some (gn σ + 18))) 20 40) a 30 (some (gn σ + 19))) 20 8) a 31 (some (gn σ + 20))) 20 8) a 32 (some (gn σ + 21))) 20 8) a 33 (some (gn σ + 22))) 20 8) a 34 (some (gn σ + 23))) 20 8) a = (12, 0) := tg_new hT ha
  have ha : a < gn (sN (sR (sN (sR (sN (sR (sN (sR (sN (sR (sN (sR (sN (sI (sI (sR (sN (sR (sN (sR (sN (sI (sL (sL (sR (sN (sR (sN (sR (sN (sI (sR (sN (sR (sN (sR (sN (sI (sI (sR (sN (sR (sN (sI (sR (sN (sR (sN (sR (sN (sR (sN (sR (sN (sR (sN (sR (sN (sI (sI σ a 0 0) a 1 0) 20 10) a 2 (some (gn σ))) 20 10) a 3 (some (gn σ + 1))) 20 10) a 4 (some (gn σ + 2))) 20 10) a 5 (some (gn σ + 3))) 20 10) a 6 (some (gn σ + 4))) 20 10) a 7 (some (gn σ + 5))) 20 10) a 8 (some (gn σ + 6))) a 9 0) 21 90) a 10 (some (gn σ + 7))) 21 3) a 11 (some (gn σ + 8))) a 12 0) a 13 0) 21 2700) a 14 (some (gn σ + 9))) 21 3) a 15 (some (gn σ + 10))) 21 3) a 16 (some (gn σ + 11))) a 17 0) 20 48) a 18 (some (gn σ + 12))) 21 9) a 19 (some (gn σ + 13))) 21 3) a 20 (some (gn σ + 14))) a 21 0) a 22 1) a 23 0) 20 12) a 24 (some (gn σ + 15))) 20 12) a 25 (some (gn σ + 16))) 20 4096) a 26 (some (gn σ + 17))) a 27 0) a 28 0) 20 40) a 29 (some (gn σ + 18))) 20 40) a 30 (some (gn σ + 19))) 20 8) a 31 (some (gn σ + 20))) 20 8) a 32 (some (gn σ + 21))) 20 8) a 33 (some (gn σ + 22))) 20 8) a 34 (some (gn σ + 23))) 20 8) := Nat.lt_succ_of_lt ha
  refine pfX11_118 C hT hin dX11_init_254 ?_
  refine h_aload_n C 0 dX11_init_257 rfl rfl ?_
  refine h_bipush C 8 dX11_init_258 (by decide) ?_
  refine h_newaI C (N := 8) acI (by decide) (by decide) (by decide) (by decide) (by decide) dX11_init_260 ?_
  have hT : gT (sN (sR (sN (sR (sN (sR (sN (sR (sN (sR (sN (sR (sN (sR (sN (sI (sI (sR (sN (sR (sN (sR (sN (sI (sL (sL (sR (sN (sR (sN (sR (sN (sI (sR (sN (sR (sN (sR (sN (sI (sI (sR (sN (sR (sN (sI (sR (sN (sR (sN (sR (sN (sR (sN (sR (sN (sR (sN (sR (sN (sI (sI σ a 0 0) a 1 0) 20 10) a 2 (some (gn σ))) 20 10) a 3 (some (gn σ + 1))) 20 10) a 4 (some (gn σ + 2))) 20 10) a 5 (some (gn σ + 3))) 20 10) a 6 (some (gn σ + 4))) 20 10) a 7 (some (gn σ + 5))) 20 10) a 8 (some (gn σ + 6))) a 9 0) 21 90) a 10 (some (gn σ + 7))) 21 3) a 11 (some (gn σ + 8))) a 12 0) a 13 0) 21 2700) a 14 (some (gn σ + 9))) 21 3) a 15 (some (gn σ + 10))) 21 3) a 16 (some (gn σ + 11))) a 17 0) 20 48) a 18 (some (gn σ + 12))) 21 9) a 19 (some (gn σ + 13))) 21 3) a 20 (some (gn σ + 14))) a 21 0) a 22 1) a 23 0) 20 12) a 24 (some (gn σ + 15))) 20 12) a 25 (some (gn σ + 16))) 20 4096) a 26 (some (gn σ + 17))) a 27 0) a 28 0) 20 40) a 29 (some (gn σ + 18))) 20 40) a 30 (some (gn σ + 19))) 20 8) a 31 (some (gn σ + 20))) 20 8) a 32 (some (gn σ + 21))) 20 8) a 33 (some (gn σ + 22))) 20 8) a 34 (some (gn σ + 23))) 20 8) a 35 (some (gn σ + 24))) 20 8) a = (12, 0) := tg_new hT ha
  have ha : a < gn (sN (sR (sN (sR (sN (sR (sN (sR (sN (sR (sN (sR (sN (sR (sN (sI (sI (sR (sN (sR (sN (sR (sN (sI (sL (sL (sR (sN (sR (sN (sR (sN (sI (sR (sN (sR (sN (sR (sN (sI (sI (sR (sN (sR (sN (sI (sR (sN (sR (sN (sR (sN (sR (sN (sR (sN (sR (sN (sR (sN (sI (sI σ a 0 0) a 1 0) 20 10) a 2 (some (gn σ))) 20 10) a 3 (some (gn σ + 1))) 20 10) a 4 (some (gn σ + 2))) 20 10) a 5 (some (gn σ + 3))) 20 10) a 6 (some (gn σ + 4))) 20 10) a 7 (some (gn σ + 5))) 20 10) a 8 (some (gn σ + 6))) a 9 0) 21 90) a 10 (some (gn σ + 7))) 21 3) a 11 (some (gn σ + 8))) a 12 0) a 13 0) 21 2700) a 14 (some (gn σ + 9))) 21 3) a 15 (some (gn σ + 10))) 21 3) a 16 (some (gn σ + 11))) a 17 0) 20 48) a 18 (some (gn σ + 12))) 21 9) a 19 (some (gn σ + 13))) 21 3) a 20 (some (gn σ + 14))) a 21 0) a 22 1) a 23 0) 20 12) a 24 (some (gn σ + 15))) 20 12) a 25 (some (gn σ + 16))) 20 4096) a 26 (some (gn σ + 17))) a 27 0) a 28 0) 20 40) a 29 (some (gn σ + 18))) 20 40) a 30 (some (gn σ + 19))) 20 8) a 31 (some (gn σ + 20))) 20 8) a 32 (some (gn σ + 21))) 20 8) a 33 (some (gn σ + 22))) 20 8) a 34 (some (gn σ + 23))) 20 8) a 35 (some (gn σ + 24))) 20 8) := Nat.lt_succ_of_lt ha
  refine pfX11_121 C hT hin dX11_init_262 ?_
  refine h_aload_n C 0 dX11_init_265 rfl rfl ?_
  refine h_sipush C 480 dX11_init_266 (by decide) ?_
  refine h_newaI C (N := 480) acI (by decide) (by decide) (by decide) (by decide) (by decide) dX11_init_269 ?_
  have hT : gT (sN (sR (sN (sR (sN (sR (sN (sR (sN (sR (sN (sR (sN (sR (sN (sR (sN (sI (sI (sR (sN (sR (sN (sR (sN (sI (sL (sL (sR (sN (sR (sN (sR (sN (sI (sR (sN (sR (sN (sR (sN (sI (sI (sR (sN (sR (sN (sI (sR (sN (sR (sN (sR (sN (sR (sN (sR (sN (sR (sN (sR (sN (sI (sI σ a 0 0) a 1 0) 20 10) a 2 (some (gn σ))) 20 10) a 3 (some (gn σ + 1))) 20 10) a 4 (some (gn σ + 2))) 20 10) a 5 (some (gn σ + 3))) 20 10) a 6 (some (gn σ + 4))) 20 10) a 7 (some (gn σ + 5))) 20 10) a 8 (some (gn σ + 6))) a 9 0) 21 90) a 10 (some (gn σ + 7))) 21 3) a 11 (some (gn σ + 8))) a 12 0) a 13 0) 21 2700) a 14 (some (gn σ + 9))) 21 3) a 15 (some (gn σ + 10))) 21 3) a 16 (some (gn σ + 11))) a 17 0) 20 48) a 18 (some (gn σ + 12))) 21 9) a 19 (some (gn σ + 13))) 21 3) a 20 (some (gn σ + 14))) a 21 0) a 22 1) a 23 0) 20 12) a 24 (some (gn σ + 15))) 20 12) a 25 (some (gn σ + 16))) 20 4096) a 26 (some (gn σ + 17))) a 27 0) a 28 0) 20 40) a 29 (some (gn σ + 18))) 20 40) a 30 (some (gn σ + 19))) 20 8) a 31 (some (gn σ + 20))) 20 8) a 32 (some (gn σ + 21))) 20 8) a 33 (some (gn σ + 22))) 20 8) a 34 (some (gn σ + 23))) 20 8) a 35 (some (gn σ + 24))) 20 8) a 36 (some (gn σ + 25))) 20 480) a = (12, 0) := tg_new hT ha
  have ha : a < gn (sN (sR (sN (sR (sN (sR (sN (sR (sN (sR (sN (sR (sN (sR (sN (sR (sN (sI (sI (sR (sN (sR (sN (sR (sN (sI (sL (sL (sR (sN (sR (sN (sR (sN (sI (sR (sN (sR (sN (sR (sN (sI (sI (sR (sN (sR (sN (sI (sR (sN (sR (sN (sR (sN (sR (sN (sR (sN (sR (sN (sR (sN (sI (sI σ a 0 0) a 1 0) 20 10) a 2 (some (gn σ))) 20 10) a 3 (some (gn σ + 1))) 20 10) a 4 (some (gn σ + 2))) 20 10) a 5 (some (gn σ + 3))) 20 10) a 6 (some (gn σ + 4))) 20 10) a 7 (some (gn σ + 5))) 20 10) a 8 (some (gn σ + 6))) a 9 0) 21 90) a 10 (some (gn σ + 7))) 21 3) a 11 (some (gn σ + 8))) a 12 0) a 13 0) 21 2700) a 14 (some (gn σ + 9))) 21 3) a 15 (some (gn σ + 10))) 21 3) a 16 (some (gn σ + 11))) a 17 0) 20 48) a 18 (some (gn σ + 12))) 21 9) a 19 (some (gn σ + 13))) 21 3) a 20 (some (gn σ + 14))) a 21 0) a 22 1) a 23 0) 20 12) a 24 (some (gn σ + 15))) 20 12) a 25 (some (gn σ + 16))) 20 4096) a 26 (some (gn σ + 17))) a 27 0) a 28 0) 20 40) a 29 (some (gn σ + 18))) 20 40) a 30 (some (gn σ + 19))) 20 8) a 31 (some (gn σ + 20))) 20 8) a 32 (some (gn σ + 21))) 20 8) a 33 (some (gn σ + 22))) 20 8) a 34 (some (gn σ + 23))) 20 8) a 35 (some (gn σ + 24))) 20 8) a 36 (some (gn σ + 25))) 20 480) := Nat.lt_succ_of_lt ha
  refine pfX11_124 C hT hin dX11_init_271 ?_
  refine h_aload_n C 0 dX11_init_274 rfl rfl ?_
  refine h_bipush C 60 dX11_init_275 (by decide) ?_
  refine h_newaI C (N := 60) acI (by decide) (by decide) (by decide) (by decide) (by decide) dX11_init_277 ?_
  have hT : gT (sN (sR (sN (sR (sN (sR (sN (sR (sN (sR (sN (sR (sN (sR (sN (sR (sN (sR (sN (sI (sI (sR (sN (sR (sN (sR (sN (sI (sL (sL (sR (sN (sR (sN (sR (sN (sI (sR (sN (sR (sN (sR (sN (sI (sI (sR (sN (sR (sN (sI (sR (sN (sR (sN (sR (sN (sR (sN (sR (sN (sR (sN (sR (sN (sI (sI σ a 0 0) a 1 0) 20 10) a 2 (some (gn σ))) 20 10) a 3 (some (gn σ + 1))) 20 10) a 4 (some (gn σ + 2))) 20 10) a 5 (some (gn σ + 3))) 20 10) a 6 (some (gn σ + 4))) 20 10) a 7 (some (gn σ + 5))) 20 10) a 8 (some (gn σ + 6))) a 9 0) 21 90) a 10 (some (gn σ + 7))) 21 3) a 11 (some (gn σ + 8))) a 12 0) a 13 0) 21 2700) a 14 (some (gn σ + 9))) 21 3) a 15 (some (gn σ + 10))) 21 3) a 16 (some (gn σ + 11))) a 17 0) 20 48) a 18 (some (gn σ + 12))) 21 9) a 19 (some (gn σ + 13))) 21 3) a 20 (some (gn σ + 14))) a 21 0) a 22 1) a 23 0) 20 12) a 24 (some (gn σ + 15))) 20 12) a 25 (some (gn σ + 16))) 20 4096) a 26 (some (gn σ + 17))) a 27 0) a 28 0) 20 40) a 29 (some (gn σ + 18))) 20 40) a 30 (some (gn σ + 19))) 20 8) a 31 (some (gn σ + 20))) 20 8) a 32 (some (gn σ + 21))) 20 8) a 33 (some (gn σ + 22))) 20 8) a 34 (some (gn σ + 23))) 20 8) a 35 (some (gn σ + 24))) 20 8) a 36 (some (gn σ + 25))) 20 480) a 37 (some (gn σ + 26))) 20 60) a = (12, 0) := tg_new hT ha
  have ha : a < gn (sN (sR (sN (sR (sN (sR (sN (sR (sN (sR (sN (sR (sN (sR (sN (sR (sN (sR (sN (sI (sI (sR (sN (sR (sN (sR (sN (sI (sL (sL (sR (sN (sR (sN (sR (sN (sI (sR (sN (sR (sN (sR (sN (sI (sI (sR (sN (sR (sN (sI (sR (sN (sR (sN (sR (sN (sR (sN (sR (sN (sR (sN (sR (sN (sI (sI σ a 0 0) a 1 0) 20 10) a 2 (some (gn σ))) 20 10) a 3 (some (gn σ + 1))) 20 10) a 4 (some (gn σ + 2))) 20 10) a 5 (some (gn σ + 3))) 20 10) a 6 (some (gn σ + 4))) 20 10) a 7 (some (gn σ + 5))) 20 10) a 8 (some (gn σ + 6))) a 9 0) 21 90) a 10 (some (gn σ + 7))) 21 3) a 11 (some (gn σ + 8))) a 12 0) a 13 0) 21 2700) a 14 (some (gn σ + 9))) 21 3) a 15 (some (gn σ + 10))) 21 3) a 16 (some (gn σ + 11))) a 17 0) 20 48) a 18 (some (gn σ + 12))) 21 9) a 19 (some (gn σ + 13))) 21 3) a 20 (some (gn σ + 14))) a 21 0) a 22 1) a 23 0) 20 12) a 24 (some (gn σ + 15))) 20 12) a 25 (some (gn σ + 16))) 20 4096) a 26 (some (gn σ + 17))) a 27 0) a 28 0) 20 40) a 29 (some (gn σ + 18))) 20 40) a 30 (some (gn σ + 19))) 20 8) a 31 (some (gn σ + 20))) 20 8) a 32 (some (gn σ + 21))) 20 8) a 33 (some (gn σ + 22))) 20 8) a 34 (some (gn σ + 23))) 20 8) a 35 (some (gn σ + 24))) 20 8) a 36 (some (gn σ + 25))) 20 480) a 37 (some (gn σ + 26))) 20 60) := Nat.lt_succ_of_lt ha
  refine pfX11_127 C hT hin dX11_init_279 ?_
  refine h_vret C rfl (by decide) (by decide) dX11_init_282 ?_
  exact ⟨rfl, rfl⟩
/-- a shelf more -/
def shS (b : Nat) (i : Nat) (s : ha_St) : ha_St := sR (shX (sN s 10 0) (gn s)) b i (some (gn s))
theorem shS_n (b : Nat) (s : ha_St) : ∀ n, gn (itF (shS b) n s) = gn s + n
  | 0 => rfl
  | n + 1 => by
    show gn (itF (shS b) n s) + 1 = _
    rw [shS_n b s n]
    omega
theorem shS_T {b x : Nat} {y : Nat × Nat} {s : ha_St} (h : gT s x = y) (hx : x < gn s) : ∀ n, gT (itF (shS b) n s) x = y
  | 0 => h
  | n + 1 => tg_new (shS_T h hx n) (by rw [shS_n]; omega)
theorem shS_R {b x : Nat} {j : Nat} {y : Option Nat} {s : ha_St} (h : gR s x j = y) (hx : x < gn s) (hb : x ≠ b) : ∀ n, gR (itF (shS b) n s) x j = y
  | 0 => h
  | n + 1 => by
    have ih := shS_R h hx hb n
    have hn := shS_n b s n
    show gR (sR (shX (sN (itF (shS b) n s) 10 0) (gn (itF (shS b) n s))) b n _) x j = y
    unfold shX
    rw [gR_sR, if_neg (fun q => hb q.1), gR_sR, if_neg (by omega), gR_sR, if_neg (by omega), gR_sR, if_neg (by omega), gR_sN, if_neg (by omega)]
    exact ih
def held0 (σ : ha_St) (a : Nat) : ha_St := (sR (sN (sR (pathI (sN (sR (planI (sN (sR (missI (sN (sR (cutI (sN (sI (sR (sN (sR (coneI (sN (sR (coneI (sN (sI (sR (sN σ 23 10) a 0 (some (gn σ))) a 1 0) 3 0) (gn σ + 1)) a 2 (some (gn σ + 1))) 3 0) (gn σ + 8)) a 3 (some (gn σ + 8))) 21 3) a 4 (some (gn σ + 15))) a 5 1) 4 0) (gn σ + 16)) a 6 (some (gn σ + 16))) 5 0) (gn σ + 20)) a 7 (some (gn σ + 20))) 9 0) (gn σ + 25)) a 8 (some (gn σ + 25))) 7 0) (gn σ + 31)) a 9 (some (gn σ + 31))) 24 8) a 10 (some (gn σ + 34)))
def heldI (σ : ha_St) (a : Nat) : ha_St := itF (shS (gn σ + 34)) 8 (held0 σ a)
set_option maxRecDepth 100000 in
set_option maxHeartbeats 4000000 in
theorem m_X10_init {G : ha_G} {l : Launch} {σ : ha_St} {a : Nat} (hT : gT σ a = (11, 0)) (ha : a < gn σ) : hM G l yX10_init cX10_init 2 none { frames := 2, cells := 43, slots := 4750, locals := 40 } [.ref (ad G a)] σ (fun v σ' => v = none ∧ σ' = heldI σ a) := by
  refine hM_ofF [(0, .ref (ad G a))] (by decide +kernel) (Nat.le_of_ble_eq_true rfl) rfl ?_
  intro p e s m args below meth c0 C hin
  refine h_aload_n C 0 dX10_init_0 rfl rfl ?_
  refine h_objInit C caX10_3 oi_in oi_co (by decide) (by decide) dX10_init_1 ?_
  refine h_aload_n C 0 dX10_init_4 rfl rfl ?_
  refine h_bipush C 10 dX10_init_5 (by decide) ?_
  refine h_newaP C (N := 10) clX10_9 (by decide) (by decide) (by decide) (by decide) (by decide) dX10_init_7 ?_
  have hT : gT (sN σ 23 10) a = (11, 0) := tg_new hT ha
  have ha : a < gn (sN σ 23 10) := Nat.lt_succ_of_lt ha
  refine pfX10_11 C hT hin dX10_init_10 ?_
  refine h_aload_n C 0 dX10_init_13 rfl rfl ?_
  refine h_iconst C 0 dX10_init_14 (by decide) ?_
  refine pfX10_15 C hT dX10_init_15 ?_
  refine h_aload_n C 0 dX10_init_18 rfl rfl ?_
  refine h_new C kX2 clX10_19 isX2 iniX2 dfX2 (by decide) (by decide) dX10_init_19 ?_
  have hT : gT (sN (sI (sR (sN σ 23 10) a 0 (some (gn σ))) a 1 0) 3 0) a = (11, 0) := tg_new hT ha
  have ha : a < gn (sN (sI (sR (sN σ 23 10) a 0 (some (gn σ))) a 1 0) 3 0) := Nat.lt_succ_of_lt ha
  refine h_dup C dX10_init_22 rfl ?_
  refine h_callIN C (m_X2_init sN_T (Nat.lt_succ_self _)) caX10_21 ⟨by decide, by decide, by decide, by decide⟩ rfl rfl (Nat.le_of_ble_eq_true rfl) dX10_init_23 ?_
  rintro v σ' ⟨rfl, h2⟩; rw [h2]; clear h2
  show hW _ _ _ _ _ _ _ _ _ _ _ _ _ 26 [(0, .ref (ad G a))] [.ref (ad G (gn σ + 1)), .ref (ad G a)] (coneI (sN (sI (sR (sN σ 23 10) a 0 (some (gn σ))) a 1 0) 3 0) (gn σ + 1)) 8 207
  have hT : gT (coneI (sN (sI (sR (sN σ 23 10) a 0 (some (gn σ))) a 1 0) 3 0) (gn σ + 1)) a = (11, 0) := coneI_T hT ha
  have ha : a < gn (coneI (sN (sI (sR (sN σ 23 10) a 0 (some (gn σ))) a 1 0) 3 0) (gn σ + 1)) := by have := ha; rw [coneI_n]; omega
  refine pfX10_22 C hT hin dX10_init_26 ?_
  refine h_aload_n C 0 dX10_init_29 rfl rfl ?_
  refine h_new C kX2 clX10_19 isX2 iniX2 dfX2 (by decide) (by decide) dX10_init_30 ?_
  have hT : gT (sN (sR (coneI (sN (sI (sR (sN σ 23 10) a 0 (some (gn σ))) a 1 0) 3 0) (gn σ + 1)) a 2 (some (gn σ + 1))) 3 0) a = (11, 0) := tg_new hT ha
  have ha : a < gn (sN (sR (coneI (sN (sI (sR (sN σ 23 10) a 0 (some (gn σ))) a 1 0) 3 0) (gn σ + 1)) a 2 (some (gn σ + 1))) 3 0) := Nat.lt_succ_of_lt ha
  refine h_dup C dX10_init_33 rfl ?_
  refine h_callIN C (m_X2_init sN_T (Nat.lt_succ_self _)) caX10_21 ⟨by decide, by decide, by decide, by decide⟩ rfl rfl (Nat.le_of_ble_eq_true rfl) dX10_init_34 ?_
  rintro v σ' ⟨rfl, h2⟩; rw [h2]; clear h2
  show hW _ _ _ _ _ _ _ _ _ _ _ _ _ 37 [(0, .ref (ad G a))] [.ref (ad G (gn σ + 8)), .ref (ad G a)] (coneI (sN (sR (coneI (sN (sI (sR (sN σ 23 10) a 0 (some (gn σ))) a 1 0) 3 0) (gn σ + 1)) a 2 (some (gn σ + 1))) 3 0) (gn σ + 8)) 15 404
  have hT : gT (coneI (sN (sR (coneI (sN (sI (sR (sN σ 23 10) a 0 (some (gn σ))) a 1 0) 3 0) (gn σ + 1)) a 2 (some (gn σ + 1))) 3 0) (gn σ + 8)) a = (11, 0) := coneI_T hT ha
  have ha : a < gn (coneI (sN (sR (coneI (sN (sI (sR (sN σ 23 10) a 0 (some (gn σ))) a 1 0) 3 0) (gn σ + 1)) a 2 (some (gn σ + 1))) 3 0) (gn σ + 8)) := by have := ha; rw [coneI_n]; omega
  refine pfX10_26 C hT hin dX10_init_37 ?_
  refine h_aload_n C 0 dX10_init_40 rfl rfl ?_
  refine h_iconst C 3 dX10_init_41 (by decide) ?_
  refine h_newaL C (N := 3) acL (by decide) (by decide) (by decide) (by decide) (by decide) dX10_init_42 ?_
  have hT : gT (sN (sR (coneI (sN (sR (coneI (sN (sI (sR (sN σ 23 10) a 0 (some (gn σ))) a 1 0) 3 0) (gn σ + 1)) a 2 (some (gn σ + 1))) 3 0) (gn σ + 8)) a 3 (some (gn σ + 8))) 21 3) a = (11, 0) := tg_new hT ha
  have ha : a < gn (sN (sR (coneI (sN (sR (coneI (sN (sI (sR (sN σ 23 10) a 0 (some (gn σ))) a 1 0) 3 0) (gn σ + 1)) a 2 (some (gn σ + 1))) 3 0) (gn σ + 8)) a 3 (some (gn σ + 8))) 21 3) := Nat.lt_succ_of_lt ha
  refine pfX10_29 C hT hin dX10_init_44 ?_
  refine h_aload_n C 0 dX10_init_47 rfl rfl ?_
  refine h_iconst C 1 dX10_init_48 (by decide) ?_
  refine pfX10_33 C (by decide) hT dX10_init_49 ?_
  refine h_aload_n C 0 dX10_init_52 rfl rfl ?_
  refine h_new C kX3 clX10_37 isX3 iniX3 dfX3 (by decide) (by decide) dX10_init_53 ?_
  have hT : gT (sN (sI (sR (sN (sR (coneI (sN (sR (coneI (sN (sI (sR (sN σ 23 10) a 0 (some (gn σ))) a 1 0) 3 0) (gn σ + 1)) a 2 (some (gn σ + 1))) 3 0) (gn σ + 8)) a 3 (some (gn σ + 8))) 21 3) a 4 (some (gn σ + 15))) a 5 1) 4 0) a = (11, 0) := tg_new hT ha
  have ha : a < gn (sN (sI (sR (sN (sR (coneI (sN (sR (coneI (sN (sI (sR (sN σ 23 10) a 0 (some (gn σ))) a 1 0) 3 0) (gn σ + 1)) a 2 (some (gn σ + 1))) 3 0) (gn σ + 8)) a 3 (some (gn σ + 8))) 21 3) a 4 (some (gn σ + 15))) a 5 1) 4 0) := Nat.lt_succ_of_lt ha
  refine h_dup C dX10_init_56 rfl ?_
  refine h_callIN C (m_X3_init sN_T (Nat.lt_succ_self _)) caX10_39 ⟨by decide, by decide, by decide, by decide⟩ rfl rfl (Nat.le_of_ble_eq_true rfl) dX10_init_57 ?_
  rintro v σ' ⟨rfl, h2⟩; rw [h2]; clear h2
  show hW _ _ _ _ _ _ _ _ _ _ _ _ _ 60 [(0, .ref (ad G a))] [.ref (ad G (gn σ + 16)), .ref (ad G a)] (cutI (sN (sI (sR (sN (sR (coneI (sN (sR (coneI (sN (sI (sR (sN σ 23 10) a 0 (some (gn σ))) a 1 0) 3 0) (gn σ + 1)) a 2 (some (gn σ + 1))) 3 0) (gn σ + 8)) a 3 (some (gn σ + 8))) 21 3) a 4 (some (gn σ + 15))) a 5 1) 4 0) (gn σ + 16)) 20 461
  have hT : gT (cutI (sN (sI (sR (sN (sR (coneI (sN (sR (coneI (sN (sI (sR (sN σ 23 10) a 0 (some (gn σ))) a 1 0) 3 0) (gn σ + 1)) a 2 (some (gn σ + 1))) 3 0) (gn σ + 8)) a 3 (some (gn σ + 8))) 21 3) a 4 (some (gn σ + 15))) a 5 1) 4 0) (gn σ + 16)) a = (11, 0) := cutI_T hT ha
  have ha : a < gn (cutI (sN (sI (sR (sN (sR (coneI (sN (sR (coneI (sN (sI (sR (sN σ 23 10) a 0 (some (gn σ))) a 1 0) 3 0) (gn σ + 1)) a 2 (some (gn σ + 1))) 3 0) (gn σ + 8)) a 3 (some (gn σ + 8))) 21 3) a 4 (some (gn σ + 15))) a 5 1) 4 0) (gn σ + 16)) := by have := ha; rw [cutI_n]; omega
  refine pfX10_40 C hT hin dX10_init_60 ?_
  refine h_aload_n C 0 dX10_init_63 rfl rfl ?_
  refine h_new C kX4 clX10_44 isX4 iniX4 dfX4 (by decide) (by decide) dX10_init_64 ?_
  have hT : gT (sN (sR (cutI (sN (sI (sR (sN (sR (coneI (sN (sR (coneI (sN (sI (sR (sN σ 23 10) a 0 (some (gn σ))) a 1 0) 3 0) (gn σ + 1)) a 2 (some (gn σ + 1))) 3 0) (gn σ + 8)) a 3 (some (gn σ + 8))) 21 3) a 4 (some (gn σ + 15))) a 5 1) 4 0) (gn σ + 16)) a 6 (some (gn σ + 16))) 5 0) a = (11, 0) := tg_new hT ha
  have ha : a < gn (sN (sR (cutI (sN (sI (sR (sN (sR (coneI (sN (sR (coneI (sN (sI (sR (sN σ 23 10) a 0 (some (gn σ))) a 1 0) 3 0) (gn σ + 1)) a 2 (some (gn σ + 1))) 3 0) (gn σ + 8)) a 3 (some (gn σ + 8))) 21 3) a 4 (some (gn σ + 15))) a 5 1) 4 0) (gn σ + 16)) a 6 (some (gn σ + 16))) 5 0) := Nat.lt_succ_of_lt ha
  refine h_dup C dX10_init_67 rfl ?_
  refine h_callIN C (m_X4_init sN_T (Nat.lt_succ_self _)) caX10_46 ⟨by decide, by decide, by decide, by decide⟩ rfl rfl (Nat.le_of_ble_eq_true rfl) dX10_init_68 ?_
  rintro v σ' ⟨rfl, h2⟩; rw [h2]; clear h2
  show hW _ _ _ _ _ _ _ _ _ _ _ _ _ 71 [(0, .ref (ad G a))] [.ref (ad G (gn σ + 20)), .ref (ad G a)] (missI (sN (sR (cutI (sN (sI (sR (sN (sR (coneI (sN (sR (coneI (sN (sI (sR (sN σ 23 10) a 0 (some (gn σ))) a 1 0) 3 0) (gn σ + 1)) a 2 (some (gn σ + 1))) 3 0) (gn σ + 8)) a 3 (some (gn σ + 8))) 21 3) a 4 (some (gn σ + 15))) a 5 1) 4 0) (gn σ + 16)) a 6 (some (gn σ + 16))) 5 0) (gn σ + 20)) 25 482
  have hT : gT (missI (sN (sR (cutI (sN (sI (sR (sN (sR (coneI (sN (sR (coneI (sN (sI (sR (sN σ 23 10) a 0 (some (gn σ))) a 1 0) 3 0) (gn σ + 1)) a 2 (some (gn σ + 1))) 3 0) (gn σ + 8)) a 3 (some (gn σ + 8))) 21 3) a 4 (some (gn σ + 15))) a 5 1) 4 0) (gn σ + 16)) a 6 (some (gn σ + 16))) 5 0) (gn σ + 20)) a = (11, 0) := missI_T hT ha
  have ha : a < gn (missI (sN (sR (cutI (sN (sI (sR (sN (sR (coneI (sN (sR (coneI (sN (sI (sR (sN σ 23 10) a 0 (some (gn σ))) a 1 0) 3 0) (gn σ + 1)) a 2 (some (gn σ + 1))) 3 0) (gn σ + 8)) a 3 (some (gn σ + 8))) 21 3) a 4 (some (gn σ + 15))) a 5 1) 4 0) (gn σ + 16)) a 6 (some (gn σ + 16))) 5 0) (gn σ + 20)) := by have := ha; rw [missI_n]; omega
  refine pfX10_47 C hT hin dX10_init_71 ?_
  refine h_aload_n C 0 dX10_init_74 rfl rfl ?_
  refine h_new C kX8 clX10_51 isX8 iniX8 dfX8 (by decide) (by decide) dX10_init_75 ?_
  have hT : gT (sN (sR (missI (sN (sR (cutI (sN (sI (sR (sN (sR (coneI (sN (sR (coneI (sN (sI (sR (sN σ 23 10) a 0 (some (gn σ))) a 1 0) 3 0) (gn σ + 1)) a 2 (some (gn σ + 1))) 3 0) (gn σ + 8)) a 3 (some (gn σ + 8))) 21 3) a 4 (some (gn σ + 15))) a 5 1) 4 0) (gn σ + 16)) a 6 (some (gn σ + 16))) 5 0) (gn σ + 20)) a 7 (some (gn σ + 20))) 9 0) a = (11, 0) := tg_new hT ha
  have ha : a < gn (sN (sR (missI (sN (sR (cutI (sN (sI (sR (sN (sR (coneI (sN (sR (coneI (sN (sI (sR (sN σ 23 10) a 0 (some (gn σ))) a 1 0) 3 0) (gn σ + 1)) a 2 (some (gn σ + 1))) 3 0) (gn σ + 8)) a 3 (some (gn σ + 8))) 21 3) a 4 (some (gn σ + 15))) a 5 1) 4 0) (gn σ + 16)) a 6 (some (gn σ + 16))) 5 0) (gn σ + 20)) a 7 (some (gn σ + 20))) 9 0) := Nat.lt_succ_of_lt ha
  refine h_dup C dX10_init_78 rfl ?_
  refine h_callIN C (m_X8_init sN_T (Nat.lt_succ_self _)) caX10_53 ⟨by decide, by decide, by decide, by decide⟩ rfl rfl (Nat.le_of_ble_eq_true rfl) dX10_init_79 ?_
  rintro v σ' ⟨rfl, h2⟩; rw [h2]; clear h2
  show hW _ _ _ _ _ _ _ _ _ _ _ _ _ 82 [(0, .ref (ad G a))] [.ref (ad G (gn σ + 25)), .ref (ad G a)] (planI (sN (sR (missI (sN (sR (cutI (sN (sI (sR (sN (sR (coneI (sN (sR (coneI (sN (sI (sR (sN σ 23 10) a 0 (some (gn σ))) a 1 0) 3 0) (gn σ + 1)) a 2 (some (gn σ + 1))) 3 0) (gn σ + 8)) a 3 (some (gn σ + 8))) 21 3) a 4 (some (gn σ + 15))) a 5 1) 4 0) (gn σ + 16)) a 6 (some (gn σ + 16))) 5 0) (gn σ + 20)) a 7 (some (gn σ + 20))) 9 0) (gn σ + 25)) 31 4634
  have hT : gT (planI (sN (sR (missI (sN (sR (cutI (sN (sI (sR (sN (sR (coneI (sN (sR (coneI (sN (sI (sR (sN σ 23 10) a 0 (some (gn σ))) a 1 0) 3 0) (gn σ + 1)) a 2 (some (gn σ + 1))) 3 0) (gn σ + 8)) a 3 (some (gn σ + 8))) 21 3) a 4 (some (gn σ + 15))) a 5 1) 4 0) (gn σ + 16)) a 6 (some (gn σ + 16))) 5 0) (gn σ + 20)) a 7 (some (gn σ + 20))) 9 0) (gn σ + 25)) a = (11, 0) := planI_T hT ha
  have ha : a < gn (planI (sN (sR (missI (sN (sR (cutI (sN (sI (sR (sN (sR (coneI (sN (sR (coneI (sN (sI (sR (sN σ 23 10) a 0 (some (gn σ))) a 1 0) 3 0) (gn σ + 1)) a 2 (some (gn σ + 1))) 3 0) (gn σ + 8)) a 3 (some (gn σ + 8))) 21 3) a 4 (some (gn σ + 15))) a 5 1) 4 0) (gn σ + 16)) a 6 (some (gn σ + 16))) 5 0) (gn σ + 20)) a 7 (some (gn σ + 20))) 9 0) (gn σ + 25)) := by have := ha; rw [planI_n]; omega
  refine pfX10_54 C hT hin dX10_init_82 ?_
  refine h_aload_n C 0 dX10_init_85 rfl rfl ?_
  refine h_new C kX6 clX10_58 isX6 iniX6 dfX6 (by decide) (by decide) dX10_init_86 ?_
  have hT : gT (sN (sR (planI (sN (sR (missI (sN (sR (cutI (sN (sI (sR (sN (sR (coneI (sN (sR (coneI (sN (sI (sR (sN σ 23 10) a 0 (some (gn σ))) a 1 0) 3 0) (gn σ + 1)) a 2 (some (gn σ + 1))) 3 0) (gn σ + 8)) a 3 (some (gn σ + 8))) 21 3) a 4 (some (gn σ + 15))) a 5 1) 4 0) (gn σ + 16)) a 6 (some (gn σ + 16))) 5 0) (gn σ + 20)) a 7 (some (gn σ + 20))) 9 0) (gn σ + 25)) a 8 (some (gn σ + 25))) 7 0) a = (11, 0) := tg_new hT ha
  have ha : a < gn (sN (sR (planI (sN (sR (missI (sN (sR (cutI (sN (sI (sR (sN (sR (coneI (sN (sR (coneI (sN (sI (sR (sN σ 23 10) a 0 (some (gn σ))) a 1 0) 3 0) (gn σ + 1)) a 2 (some (gn σ + 1))) 3 0) (gn σ + 8)) a 3 (some (gn σ + 8))) 21 3) a 4 (some (gn σ + 15))) a 5 1) 4 0) (gn σ + 16)) a 6 (some (gn σ + 16))) 5 0) (gn σ + 20)) a 7 (some (gn σ + 20))) 9 0) (gn σ + 25)) a 8 (some (gn σ + 25))) 7 0) := Nat.lt_succ_of_lt ha
  refine h_dup C dX10_init_89 rfl ?_
  refine h_callIN C (m_X6_init sN_T (Nat.lt_succ_self _)) caX10_60 ⟨by decide, by decide, by decide, by decide⟩ rfl rfl (Nat.le_of_ble_eq_true rfl) dX10_init_90 ?_
  rintro v σ' ⟨rfl, h2⟩; rw [h2]; clear h2
  show hW _ _ _ _ _ _ _ _ _ _ _ _ _ 93 [(0, .ref (ad G a))] [.ref (ad G (gn σ + 31)), .ref (ad G a)] (pathI (sN (sR (planI (sN (sR (missI (sN (sR (cutI (sN (sI (sR (sN (sR (coneI (sN (sR (coneI (sN (sI (sR (sN σ 23 10) a 0 (some (gn σ))) a 1 0) 3 0) (gn σ + 1)) a 2 (some (gn σ + 1))) 3 0) (gn σ + 8)) a 3 (some (gn σ + 8))) 21 3) a 4 (some (gn σ + 15))) a 5 1) 4 0) (gn σ + 16)) a 6 (some (gn σ + 16))) 5 0) (gn σ + 20)) a 7 (some (gn σ + 20))) 9 0) (gn σ + 25)) a 8 (some (gn σ + 25))) 7 0) (gn σ + 31)) 34 4718
  have hT : gT (pathI (sN (sR (planI (sN (sR (missI (sN (sR (cutI (sN (sI (sR (sN (sR (coneI (sN (sR (coneI (sN (sI (sR (sN σ 23 10) a 0 (some (gn σ))) a 1 0) 3 0) (gn σ + 1)) a 2 (some (gn σ + 1))) 3 0) (gn σ + 8)) a 3 (some (gn σ + 8))) 21 3) a 4 (some (gn σ + 15))) a 5 1) 4 0) (gn σ + 16)) a 6 (some (gn σ + 16))) 5 0) (gn σ + 20)) a 7 (some (gn σ + 20))) 9 0) (gn σ + 25)) a 8 (some (gn σ + 25))) 7 0) (gn σ + 31)) a = (11, 0) := pathI_T hT ha
  have ha : a < gn (pathI (sN (sR (planI (sN (sR (missI (sN (sR (cutI (sN (sI (sR (sN (sR (coneI (sN (sR (coneI (sN (sI (sR (sN σ 23 10) a 0 (some (gn σ))) a 1 0) 3 0) (gn σ + 1)) a 2 (some (gn σ + 1))) 3 0) (gn σ + 8)) a 3 (some (gn σ + 8))) 21 3) a 4 (some (gn σ + 15))) a 5 1) 4 0) (gn σ + 16)) a 6 (some (gn σ + 16))) 5 0) (gn σ + 20)) a 7 (some (gn σ + 20))) 9 0) (gn σ + 25)) a 8 (some (gn σ + 25))) 7 0) (gn σ + 31)) := by have := ha; rw [pathI_n]; omega
  refine pfX10_61 C hT hin dX10_init_93 ?_
  refine h_aload_n C 0 dX10_init_96 rfl rfl ?_
  refine h_bipush C 8 dX10_init_97 (by decide) ?_
  refine h_newaS C (N := 8) clX10_65 (by decide) (by decide) (by decide) (by decide) (by decide) dX10_init_99 ?_
  have hT : gT (sN (sR (pathI (sN (sR (planI (sN (sR (missI (sN (sR (cutI (sN (sI (sR (sN (sR (coneI (sN (sR (coneI (sN (sI (sR (sN σ 23 10) a 0 (some (gn σ))) a 1 0) 3 0) (gn σ + 1)) a 2 (some (gn σ + 1))) 3 0) (gn σ + 8)) a 3 (some (gn σ + 8))) 21 3) a 4 (some (gn σ + 15))) a 5 1) 4 0) (gn σ + 16)) a 6 (some (gn σ + 16))) 5 0) (gn σ + 20)) a 7 (some (gn σ + 20))) 9 0) (gn σ + 25)) a 8 (some (gn σ + 25))) 7 0) (gn σ + 31)) a 9 (some (gn σ + 31))) 24 8) a = (11, 0) := tg_new hT ha
  have ha : a < gn (sN (sR (pathI (sN (sR (planI (sN (sR (missI (sN (sR (cutI (sN (sI (sR (sN (sR (coneI (sN (sR (coneI (sN (sI (sR (sN σ 23 10) a 0 (some (gn σ))) a 1 0) 3 0) (gn σ + 1)) a 2 (some (gn σ + 1))) 3 0) (gn σ + 8)) a 3 (some (gn σ + 8))) 21 3) a 4 (some (gn σ + 15))) a 5 1) 4 0) (gn σ + 16)) a 6 (some (gn σ + 16))) 5 0) (gn σ + 20)) a 7 (some (gn σ + 20))) 9 0) (gn σ + 25)) a 8 (some (gn σ + 25))) 7 0) (gn σ + 31)) a 9 (some (gn σ + 31))) 24 8) := Nat.lt_succ_of_lt ha
  refine pfX10_67 C hT hin dX10_init_102 ?_
  refine h_iconst C 0 dX10_init_105 (by decide) ?_
  refine h_istore_n C [(1, .int 0), (0, .ref (ad G a))] dX10_init_106 rfl (by decide) rfl ?_
  have hT : gT (sR (sN (sR (pathI (sN (sR (planI (sN (sR (missI (sN (sR (cutI (sN (sI (sR (sN (sR (coneI (sN (sR (coneI (sN (sI (sR (sN σ 23 10) a 0 (some (gn σ))) a 1 0) 3 0) (gn σ + 1)) a 2 (some (gn σ + 1))) 3 0) (gn σ + 8)) a 3 (some (gn σ + 8))) 21 3) a 4 (some (gn σ + 15))) a 5 1) 4 0) (gn σ + 16)) a 6 (some (gn σ + 16))) 5 0) (gn σ + 20)) a 7 (some (gn σ + 20))) 9 0) (gn σ + 25)) a 8 (some (gn σ + 25))) 7 0) (gn σ + 31)) a 9 (some (gn σ + 31))) 24 8) a 10 (some (gn σ + 34))) a = (11, 0) := hT
  have ha : a < gn (sR (sN (sR (pathI (sN (sR (planI (sN (sR (missI (sN (sR (cutI (sN (sI (sR (sN (sR (coneI (sN (sR (coneI (sN (sI (sR (sN σ 23 10) a 0 (some (gn σ))) a 1 0) 3 0) (gn σ + 1)) a 2 (some (gn σ + 1))) 3 0) (gn σ + 8)) a 3 (some (gn σ + 8))) 21 3) a 4 (some (gn σ + 15))) a 5 1) 4 0) (gn σ + 16)) a 6 (some (gn σ + 16))) 5 0) (gn σ + 20)) a 7 (some (gn σ + 20))) 9 0) (gn σ + 25)) a 8 (some (gn σ + 25))) 7 0) (gn σ + 31)) a 9 (some (gn σ + 31))) 24 8) a 10 (some (gn σ + 34))) := ha
  show hW _ _ _ _ _ _ _ _ _ _ _ _ _ 107 [(1, .int 0), (0, .ref (ad G a))] [] (sR (sN (sR (pathI (sN (sR (planI (sN (sR (missI (sN (sR (cutI (sN (sI (sR (sN (sR (coneI (sN (sR (coneI (sN (sI (sR (sN σ 23 10) a 0 (some (gn σ))) a 1 0) 3 0) (gn σ + 1)) a 2 (some (gn σ + 1))) 3 0) (gn σ + 8)) a 3 (some (gn σ + 8))) 21 3) a 4 (some (gn σ + 15))) a 5 1) 4 0) (gn σ + 16)) a 6 (some (gn σ + 16))) 5 0) (gn σ + 20)) a 7 (some (gn σ + 20))) 9 0) (gn σ + 25)) a 8 (some (gn σ + 25))) 7 0) (gn σ + 31)) a 9 (some (gn σ + 31))) 24 8) a 10 (some (gn σ + 34))) 35 4726
  obtain ⟨s0, hs0⟩ : ∃ z, z = (sR (sN (sR (pathI (sN (sR (planI (sN (sR (missI (sN (sR (cutI (sN (sI (sR (sN (sR (coneI (sN (sR (coneI (sN (sI (sR (sN σ 23 10) a 0 (some (gn σ))) a 1 0) 3 0) (gn σ + 1)) a 2 (some (gn σ + 1))) 3 0) (gn σ + 8)) a 3 (some (gn σ + 8))) 21 3) a 4 (some (gn σ + 15))) a 5 1) 4 0) (gn σ + 16)) a 6 (some (gn σ + 16))) 5 0) (gn σ + 20)) a 7 (some (gn σ + 20))) 9 0) (gn σ + 25)) a 8 (some (gn σ + 25))) 7 0) (gn σ + 31)) a 9 (some (gn σ + 31))) 24 8) a 10 (some (gn σ + 34))) := ⟨_, rfl⟩
  rw [← hs0] at hT ha ⊢
  have hb : gn σ + 34 < gn s0 := by rw [hs0]; show gn σ + 34 < gn σ + 35; omega
  have hTb : gT s0 (gn σ + 34) = (24, 8) := by rw [hs0]; exact sN_T
  have hR : gR s0 a 10 = some (gn σ + 34) := by rw [hs0, gR_sR, if_pos ⟨rfl, rfl⟩]
  have hab : a ≠ gn σ + 34 := by omega
  refine h_sub [1, 0] rfl ?_
  refine h_loop (α := Int32) (fun i => 0 ≤ i ∧ i ≤ 8) (fun i => tm 8 i) (fun i => [(0, .ref (ad G a)), (1, .int i)]) (fun i => []) (fun i => (itF (shS (gn σ + 34)) i.toNatClampNeg s0)) (fun i => 35 + i.toNatClampNeg) (fun i => 4726 + 3 * i.toNatClampNeg) ?_ 0 ?_
  · rintro i hI ih
    show hW _ _ _ _ _ _ _ _ _ _ _ _ _ 107 [(0, .ref (ad G a)), (1, .int i)] [] (itF (shS (gn σ + 34)) i.toNatClampNeg s0) _ _
    refine h_iload_n C 1 dX10_init_107 rfl rfl ?_
    refine h_bipush C 8 dX10_init_108 (by decide) ?_
    refine h_icmp_ge C 132 dX10_init_110 (by decide) (fun c_110 => ?_) (fun c_110 => ?_)
    · refine h_vret C rfl (by have := tn_le hI.1 hI.2; rw [show (8 : Int32).toNatClampNeg = 8 by decide] at this; show 35 + i.toNatClampNeg ≤ 43; omega) (by have := tn_le hI.1 hI.2; rw [show (8 : Int32).toNatClampNeg = 8 by decide] at this; show 4726 + 3 * i.toNatClampNeg ≤ 4750; omega) dX10_init_132 ?_
      have he := eq_end hI.2 (Int32.not_lt.mpr c_110)
      subst he
      refine ⟨rfl, ?_⟩
      rw [hs0]
      rfl
    · have hT1 : gT (itF (shS (gn σ + 34)) i.toNatClampNeg s0) a = (11, 0) := shS_T hT ha _
      have hTb1 : gT (itF (shS (gn σ + 34)) i.toNatClampNeg s0) (gn σ + 34) = (24, 8) := shS_T hTb hb _
      have hR1 : gR (itF (shS (gn σ + 34)) i.toNatClampNeg s0) a 10 = some (gn σ + 34) := shS_R hR ha hab _
      have hi8 : i.toNatClampNeg < 8 := by have := tn_lt hI.1 (Int32.not_le.mp c_110); rw [show (8 : Int32).toNatClampNeg = 8 by decide] at this; exact this
      refine h_aload_n C 0 dX10_init_113 rfl rfl ?_
      refine gfX10_67 C hT1 dX10_init_114 ?_
      refine h_tref (b := (gn σ + 34)) hR1 ?_
      refine h_iload_n C 1 dX10_init_117 rfl rfl ?_
      refine h_new C kX9 clX10_65 isX9 iniX9 dfX9 (by show 35 + i.toNatClampNeg + 1 ≤ 43; omega) (by show 4726 + 3 * i.toNatClampNeg + 3 ≤ 4750; omega) dX10_init_118 ?_
      refine h_dup C dX10_init_121 rfl ?_
      refine h_callIN C (m_X9_init sN_T (Nat.lt_succ_self _)) caX10_71 ⟨by decide, by decide, by show 35 + i.toNatClampNeg + 1 + 0 ≤ 43; omega, by show 4726 + 3 * i.toNatClampNeg + 3 + 0 ≤ 4750; omega⟩ rfl rfl (Nat.le_of_ble_eq_true rfl) dX10_init_122 ?_
      rintro v σ' ⟨rfl, h2⟩; rw [h2]; clear h2
      show hW _ _ _ _ _ _ _ _ _ _ _ _ _ 125 [(0, .ref (ad G a)), (1, .int i)] [.ref (ad G (gn (itF (shS (gn σ + 34)) i.toNatClampNeg s0))), .int i, .ref (ad G (gn σ + 34))] (shX (sN (itF (shS (gn σ + 34)) i.toNatClampNeg s0) 10 0) (gn (itF (shS (gn σ + 34)) i.toNatClampNeg s0))) (35 + i.toNatClampNeg + 1 + 0) (4726 + 3 * i.toNatClampNeg + 3 + 0)
      refine h_sast C (show gT (shX (sN (itF (shS (gn σ + 34)) i.toNatClampNeg s0) 10 0) (gn (itF (shS (gn σ + 34)) i.toNatClampNeg s0))) (gn σ + 34) = (24, 8) from tg_new hTb1 (by rw [shS_n]; omega)) kX9 (show gT (shX (sN (itF (shS (gn σ + 34)) i.toNatClampNeg s0) 10 0) (gn (itF (shS (gn σ + 34)) i.toNatClampNeg s0))) (gn (itF (shS (gn σ + 34)) i.toNatClampNeg s0)) = (10, 0) from sN_T) (vp32 (N := 8) hI.1 (Int32.not_le.mp c_110) (by decide)) dX10_init_125 ?_
      have e9 : (sR (shX (sN (itF (shS (gn σ + 34)) i.toNatClampNeg s0) 10 0) (gn (itF (shS (gn σ + 34)) i.toNatClampNeg s0))) (gn σ + 34) i.toNatClampNeg (some (gn (itF (shS (gn σ + 34)) i.toNatClampNeg s0)))) = itF (shS (gn σ + 34)) (i + 1).toNatClampNeg s0 := by rw [tn_succ hI.1 (Int32.not_le.mp c_110)]; rfl
      have e8 := tn_succ hI.1 (Int32.not_le.mp c_110)
      rw [e9]
      refine h_widen (k' := 35 + (i + 1).toNatClampNeg) (n' := 4726 + 3 * (i + 1).toNatClampNeg) (by rw [e8]; omega) (by rw [e8]; omega) ?_
      refine h_iinc C [(1, .int (i + 1)), (0, .ref (ad G a))] 1 (i + 1) dX10_init_126 rfl rfl (by decide) rfl ?_
      refine h_goto C 107 dX10_init_129 (by decide) ?_
      refine h_sub [1, 0] rfl ?_
      refine ih (i + 1) ?_ ?_
      · exact le_succ hI.1 (Int32.not_le.mp c_110)
      · exact tm_lt (Int32.not_le.mp c_110)
  · exact ⟨by decide, by decide⟩
