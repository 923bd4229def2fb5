/-! ===== the reference: the tool ===== -/
def mPt (σ : ha_St) (x y : Int32) : ha_St := sI (sI (sI σ 63 (gI σ 44 27).toNatClampNeg x) 64 (gI σ 44 27).toNatClampNeg y) 44 27 (gI σ 44 27 + 1)
def mOkP (x y : Int32) : Prop := (-200 ≤ x ∧ x ≤ 200) ∧ -200 ≤ y ∧ y ≤ 200
def mPointQ (σ : ha_St) (x y r : Int32) (σ' : ha_St) : Prop := (¬ mOkP x y ∧ r = -1 ∧ σ' = σ) ∨ (mOkP x y ∧ gI σ 44 27 = 40 ∧ r = -2 ∧ σ' = σ) ∨ (mOkP x y ∧ gI σ 44 27 ≠ 40 ∧ r = gI σ 44 27 + 1 ∧ σ' = mPt σ x y)
def mToolQ (σ : ha_St) (x r : Int32) (σ' : ha_St) : Prop := (¬ (0 ≤ x ∧ x ≤ 20) ∧ r = -1 ∧ σ' = σ) ∨ ((0 ≤ x ∧ x ≤ 20) ∧ r = gI σ 44 27 ∧ σ' = sI (sI σ 44 27 0) 44 28 x)
def mNear (σ : ha_St) (c i j : Nat) : Prop := nearP (gI σ 63 j - gI σ 63 i).toInt64 (gI σ 64 j - gI σ 64 i).toInt64 (gI σ 47 c - gI σ 63 i).toInt64 (gI σ 48 c - gI σ 64 i).toInt64 (gI σ 44 28 + gI σ 50 c).toInt64
def mLines (σ : ha_St) : Int32 := if gI σ 44 27 = 1 then 1 else gI σ 44 27 - 1
def mTo (σ : ha_St) (i : Int32) : Int32 := if gI σ 44 27 = 1 then i else i + 1
def mNI (σ : ha_St) (c : Nat) (i : Int32) : Prop := mNear σ c i.toNatClampNeg (mTo σ i).toNatClampNeg
def mFN (σ : ha_St) (c : Nat) (r : Int32) : Prop := (0 ≤ r ∧ r < mLines σ ∧ mNI σ c r ∧ ∀ i : Int32, 0 ≤ i → i < r → ¬ mNI σ c i) ∨ (r = -2 ∧ ∀ i : Int32, 0 ≤ i → i < mLines σ → ¬ mNI σ c i)
def mMetP (σ : ha_St) (i : Nat) : Prop := ∃ q, mFN σ i q ∧ 0 ≤ q
def mCount (σ : ha_St) (w : Int32) : Int32 := if w = 0 then gI σ 44 1 else if w = 1 then gI σ 44 17 else if w = 2 then gI σ 44 23 else if w = 3 then gI σ 44 27 else if w = 4 then gI σ 44 28 else -1
theorem mFN_det {σ : ha_St} {c : Nat} {q r : Int32} (h : mFN σ c q) (g : mFN σ c r) : q = r := by
  rcases h with ⟨h1, h2, h3, h4⟩ | ⟨h1, h2⟩ <;> rcases g with ⟨g1, g2, g3, g4⟩ | ⟨g1, g2⟩
  · by_cases e : q < r
    · exact absurd h3 (g4 q h1 e)
    · by_cases e2 : r < q
      · exact absurd g3 (h4 r g1 e2)
      · grind
  · exact absurd h3 (g2 q h1 h2)
  · exact absurd g3 (h2 r g1 g2)
  · rw [h1, g1]
set_option maxRecDepth 100000 in
set_option maxHeartbeats 4000000 in
theorem m_X11_point {G : ha_G} {l : Launch} {σ : ha_St} {x y : Int32} (hY : LY σ) (hp0 : 0 ≤ gI σ 44 27) (hp1 : gI σ 44 27 ≤ 40) : hM G l yX11_point cX11_point 3 (some .int) { frames := 1, cells := 0, slots := 0, locals := 23 } [.ref (ad G 44), .int x, .int y] σ (fun v σ' => ∃ r, v = some (.int r) ∧ mPointQ σ x y r σ') := by
  refine hM_ofF [(0, .ref (ad G 44)), (1, .int x), (2, .int y)] (by decide +kernel) (Nat.le_of_ble_eq_true rfl) rfl ?_
  intro p e s m args below meth c0 C hin
  refine h_aload_n C 0 dX11_point_0 rfl rfl ?_
  refine h_iload_n C 1 dX11_point_1 rfl rfl ?_
  refine h_sipush C (-200) dX11_point_2 (by decide) ?_
  refine h_sipush C 200 dX11_point_5 (by decide) ?_
  refine h_callV C m_X11_in caX11_130 kX11 (ty_44 hY) ⟨by decide, by decide, by decide, by decide⟩ rfl rfl (Nat.le_of_ble_eq_true rfl) dX11_point_8 ?_
  rintro v σ' ⟨rfl, h2⟩; rw [h2]; clear h2
  show hW _ _ _ _ _ _ _ _ _ _ _ _ _ 11 [(0, .ref (ad G 44)), (1, .int x), (2, .int y)] [.int (inV x (-200) 200)] σ 0 0
  refine h_if_eq C 28 dX11_point_11 (by decide) (fun c_11 => ?_) (fun c_11 => ?_)
  · refine h_iconst C (-1) dX11_point_28 (by decide) ?_
    refine h_iret C rfl (Nat.zero_le _) (Nat.zero_le _) dX11_point_29 ?_
    exact ⟨_, rfl, Or.inl ⟨fun q => inV_0 c_11 q.1, rfl, rfl⟩⟩
  · refine h_aload_n C 0 dX11_point_14 rfl rfl ?_
    refine h_iload_n C 2 dX11_point_15 rfl rfl ?_
    refine h_sipush C (-200) dX11_point_16 (by decide) ?_
    refine h_sipush C 200 dX11_point_19 (by decide) ?_
    refine h_callV C m_X11_in caX11_130 kX11 (ty_44 hY) ⟨by decide, by decide, by decide, by decide⟩ rfl rfl (Nat.le_of_ble_eq_true rfl) dX11_point_22 ?_
    rintro v σ' ⟨rfl, h2⟩; rw [h2]; clear h2
    show hW _ _ _ _ _ _ _ _ _ _ _ _ _ 25 [(0, .ref (ad G 44)), (1, .int x), (2, .int y)] [.int (inV y (-200) 200)] σ 0 0
    refine h_if_ne C 30 dX11_point_25 (by decide) (fun c_25 => ?_) (fun c_25 => ?_)
    · refine h_aload_n C 0 dX11_point_30 rfl rfl ?_
      refine gfX11_94 C (ty_44 hY) dX11_point_31 ?_
      refine h_bipush C 40 dX11_point_34 (by decide) ?_
      refine h_icmp_ne C 42 dX11_point_36 (by decide) (fun c_36 => ?_) (fun c_36 => ?_)
      · have hv : vp_in (gI σ 44 27) 40 := vp32 (N := 40) hp0 (by have h1 := hp1; have h2 := c_36; clear C; grind) (by decide)
        refine h_aload_n C 0 dX11_point_42 rfl rfl ?_
        refine gfX11_100 C (ty_44 hY) dX11_point_43 ?_
        refine h_tref (b := 63) (rf_44_29 hY) ?_
        refine h_aload_n C 0 dX11_point_46 rfl rfl ?_
        refine gfX11_94 C (ty_44 hY) dX11_point_47 ?_
        refine h_iload_n C 1 dX11_point_50 rfl rfl ?_
        refine h_iast C _ (ty_63 hY) hv dX11_point_51 rfl ?_
        refine h_aload_n C 0 dX11_point_52 rfl rfl ?_
        refine gfX11_103 C (ty_44 hY) dX11_point_53 ?_
        refine h_tref (b := 64) (rf_44_30 hY) ?_
        refine h_aload_n C 0 dX11_point_56 rfl rfl ?_
        refine gfX11_94 C (ty_44 hY) dX11_point_57 ?_
        show hW _ _ _ _ _ _ _ _ _ _ _ _ _ 60 [(0, .ref (ad G 44)), (1, .int x), (2, .int y)] [.int (gI σ 44 27), .ref (ad G 64)] (sI σ 63 (gI σ 44 27).toNatClampNeg x) 0 0
        refine h_iload_n C 2 dX11_point_60 rfl rfl ?_
        refine h_iast C _ (ty_64 hY) hv dX11_point_61 rfl ?_
        refine h_aload_n C 0 dX11_point_62 rfl rfl ?_
        refine h_dup C dX11_point_63 rfl ?_
        refine gfX11_94 C (ty_44 hY) dX11_point_64 ?_
        show hW _ _ _ _ _ _ _ _ _ _ _ _ _ 67 [(0, .ref (ad G 44)), (1, .int x), (2, .int y)] [.int (gI σ 44 27), .ref (ad G 44)] (sI (sI σ 63 (gI σ 44 27).toNatClampNeg x) 64 (gI σ 44 27).toNatClampNeg y) 0 0
        refine h_iconst C 1 dX11_point_67 (by decide) ?_
        refine h_iadd C dX11_point_68 ?_
        refine pfX11_94 C (ty_44 hY) dX11_point_69 ?_
        refine h_aload_n C 0 dX11_point_72 rfl rfl ?_
        refine gfX11_94 C (ty_44 hY) dX11_point_73 ?_
        show hW _ _ _ _ _ _ _ _ _ _ _ _ _ 76 [(0, .ref (ad G 44)), (1, .int x), (2, .int y)] [.int ((gI σ 44 27) + 1)] (sI (sI (sI σ 63 (gI σ 44 27).toNatClampNeg x) 64 (gI σ 44 27).toNatClampNeg y) 44 27 ((gI σ 44 27) + 1)) 0 0
        refine h_iret C rfl (Nat.zero_le _) (Nat.zero_le _) dX11_point_76 ?_
        exact ⟨_, rfl, Or.inr (Or.inr ⟨⟨inV_1 c_11, inV_1 c_25⟩, c_36, rfl, rfl⟩)⟩
      · refine h_bipush C (-2) dX11_point_39 (by decide) ?_
        refine h_iret C rfl (Nat.zero_le _) (Nat.zero_le _) dX11_point_41 ?_
        exact ⟨_, rfl, Or.inr (Or.inl ⟨⟨inV_1 c_11, inV_1 c_25⟩, c_36, rfl, rfl⟩)⟩
    · refine h_iconst C (-1) dX11_point_28 (by decide) ?_
      refine h_iret C rfl (Nat.zero_le _) (Nat.zero_le _) dX11_point_29 ?_
      exact ⟨_, rfl, Or.inl ⟨fun q => inV_0 c_25 q.2, rfl, rfl⟩⟩
set_option maxRecDepth 100000 in
set_option maxHeartbeats 4000000 in
theorem m_X11_tool {G : ha_G} {l : Launch} {σ : ha_St} {x : Int32} (hY : LY σ) : hM G l yX11_tool cX11_tool 3 (some .int) { frames := 1, cells := 0, slots := 0, locals := 23 } [.ref (ad G 44), .int x] σ (fun v σ' => ∃ r, v = some (.int r) ∧ mToolQ σ x r σ') := by
  refine hM_ofF [(0, .ref (ad G 44)), (1, .int x)] (by decide +kernel) (Nat.le_of_ble_eq_true rfl) rfl ?_
  intro p e s m args below meth c0 C hin
  refine h_aload_n C 0 dX11_tool_0 rfl rfl ?_
  refine h_iload_n C 1 dX11_tool_1 rfl rfl ?_
  refine h_iconst C 0 dX11_tool_2 (by decide) ?_
  refine h_bipush C 20 dX11_tool_3 (by decide) ?_
  refine h_callV C m_X11_in caX11_130 kX11 (ty_44 hY) ⟨by decide, by decide, by decide, by decide⟩ rfl rfl (Nat.le_of_ble_eq_true rfl) dX11_tool_5 ?_
  rintro v σ' ⟨rfl, h2⟩; rw [h2]; clear h2
  show hW _ _ _ _ _ _ _ _ _ _ _ _ _ 8 [(0, .ref (ad G 44)), (1, .int x)] [.int (inV x 0 20)] σ 0 0
  refine h_if_ne C 13 dX11_tool_8 (by decide) (fun c_8 => ?_) (fun c_8 => ?_)
  · refine h_aload_n C 0 dX11_tool_13 rfl rfl ?_
    refine gfX11_94 C (ty_44 hY) dX11_tool_14 ?_
    refine h_istore_n C [(2, .int (gI σ 44 27)), (0, .ref (ad G 44)), (1, .int x)] dX11_tool_17 rfl (by decide) rfl ?_
    refine h_aload_n C 1 dX11_tool_18 rfl rfl ?_
    refine h_iconst C 0 dX11_tool_19 (by decide) ?_
    refine pfX11_94 C (ty_44 hY) dX11_tool_20 ?_
    refine h_aload_n C 1 dX11_tool_23 rfl rfl ?_
    refine h_iload_n C 2 dX11_tool_24 rfl rfl ?_
    refine pfX11_97 C (ty_44 hY) dX11_tool_25 ?_
    refine h_iload_n C 0 dX11_tool_28 rfl rfl ?_
    refine h_iret C rfl (Nat.zero_le _) (Nat.zero_le _) dX11_tool_29 ?_
    exact ⟨_, rfl, Or.inr ⟨inV_1 c_8, rfl, rfl⟩⟩
  · refine h_iconst C (-1) dX11_tool_11 (by decide) ?_
    refine h_iret C rfl (Nat.zero_le _) (Nat.zero_le _) dX11_tool_12 ?_
    exact ⟨_, rfl, Or.inl ⟨inV_0 c_8, rfl, rfl⟩⟩
theorem lg_gt0i {x : Int64} (h : 0 < x) : 0 < lg_cmp x 0 := by
  rcases lg_cases x 0 with ⟨-, z⟩ | ⟨q, -⟩ | ⟨q, -⟩
  · rw [z]; decide
  · rw [q] at h; exact absurd h Int64.lt_irrefl
  · exact absurd (Int64.lt_trans h q) Int64.lt_irrefl
theorem nr_sq {a b c d : Int64} : (a * b - c * d) * (a * b - c * d) = (d * c - b * a) * (d * c - b * a) := by grind
set_option maxRecDepth 100000 in
set_option maxHeartbeats 4000000 in
theorem m_X11_isNear {G : ha_G} {l : Launch} {σ : ha_St} {c i j : Int32} (hY : LY σ) (hc : vp_in c 10) (hi : vp_in i 40) (hj : vp_in j 40) : hM G l yX11_isNear cX11_isNear 20 (some .boolean) { frames := 0, cells := 0, slots := 0, locals := 0 } [.ref (ad G 44), .int c, .int i, .int j] σ (fun v σ' => (∃ r, v = some (.int r) ∧ isB r (mNear σ c.toNatClampNeg i.toNatClampNeg j.toNatClampNeg)) ∧ σ' = σ) := by
  refine hM_ofF [(0, .ref (ad G 44)), (1, .int c), (2, .int i), (3, .int j)] (by decide +kernel) (Nat.le_of_ble_eq_true rfl) rfl ?_
  intro p e s m args below meth c0 C hin
  refine h_aload_n C 0 dX11_isNear_0 rfl rfl ?_
  refine gfX11_97 C (ty_44 hY) dX11_isNear_1 ?_
  refine h_aload_n C 0 dX11_isNear_4 rfl rfl ?_
  refine gfX11_32 C (ty_44 hY) dX11_isNear_5 ?_
  refine h_tref (b := 50) (rf_44_7 hY) ?_
  refine h_iload_n C 1 dX11_isNear_8 rfl rfl ?_
  refine h_iald C (ty_50 hY) hc dX11_isNear_9 ?_
  refine h_iadd C dX11_isNear_10 ?_
  refine h_i2l C dX11_isNear_11 ?_
  refine h_lstore C [(4, .long ((gI σ 44 28) + (gI σ 50 c.toNatClampNeg)).toInt64), (0, .ref (ad G 44)), (1, .int c), (2, .int i), (3, .int j)] dX11_isNear_12 (by decide) rfl ?_
  refine h_aload_n C 1 dX11_isNear_14 rfl rfl ?_
  refine gfX11_23 C (ty_44 hY) dX11_isNear_15 ?_
  refine h_tref (b := 47) (rf_44_4 hY) ?_
  refine h_iload_n C 2 dX11_isNear_18 rfl rfl ?_
  refine h_iald C (ty_47 hY) hc dX11_isNear_19 ?_
  refine h_aload_n C 1 dX11_isNear_20 rfl rfl ?_
  refine gfX11_100 C (ty_44 hY) dX11_isNear_21 ?_
  refine h_tref (b := 63) (rf_44_29 hY) ?_
  refine h_iload_n C 3 dX11_isNear_24 rfl rfl ?_
  refine h_iald C (ty_63 hY) hi dX11_isNear_25 ?_
  refine h_isub C dX11_isNear_26 ?_
  refine h_i2l C dX11_isNear_27 ?_
  refine h_lstore C [(6, .long ((gI σ 47 c.toNatClampNeg) - (gI σ 63 i.toNatClampNeg)).toInt64), (4, .long ((gI σ 44 28) + (gI σ 50 c.toNatClampNeg)).toInt64), (0, .ref (ad G 44)), (1, .int c), (2, .int i), (3, .int j)] dX11_isNear_28 (by decide) rfl ?_
  refine h_aload_n C 2 dX11_isNear_30 rfl rfl ?_
  refine gfX11_26 C (ty_44 hY) dX11_isNear_31 ?_
  refine h_tref (b := 48) (rf_44_5 hY) ?_
  refine h_iload_n C 3 dX11_isNear_34 rfl rfl ?_
  refine h_iald C (ty_48 hY) hc dX11_isNear_35 ?_
  refine h_aload_n C 2 dX11_isNear_36 rfl rfl ?_
  refine gfX11_103 C (ty_44 hY) dX11_isNear_37 ?_
  refine h_tref (b := 64) (rf_44_30 hY) ?_
  refine h_iload_n C 4 dX11_isNear_40 rfl rfl ?_
  refine h_iald C (ty_64 hY) hi dX11_isNear_41 ?_
  refine h_isub C dX11_isNear_42 ?_
  refine h_i2l C dX11_isNear_43 ?_
  refine h_lstore C [(8, .long ((gI σ 48 c.toNatClampNeg) - (gI σ 64 i.toNatClampNeg)).toInt64), (6, .long ((gI σ 47 c.toNatClampNeg) - (gI σ 63 i.toNatClampNeg)).toInt64), (4, .long ((gI σ 44 28) + (gI σ 50 c.toNatClampNeg)).toInt64), (0, .ref (ad G 44)), (1, .int c), (2, .int i), (3, .int j)] dX11_isNear_44 (by decide) rfl ?_
  refine h_aload_n C 3 dX11_isNear_46 rfl rfl ?_
  refine gfX11_100 C (ty_44 hY) dX11_isNear_47 ?_
  refine h_tref (b := 63) (rf_44_29 hY) ?_
  refine h_iload_n C 6 dX11_isNear_50 rfl rfl ?_
  refine h_iald C (ty_63 hY) hj dX11_isNear_51 ?_
  refine h_aload_n C 3 dX11_isNear_52 rfl rfl ?_
  refine gfX11_100 C (ty_44 hY) dX11_isNear_53 ?_
  refine h_tref (b := 63) (rf_44_29 hY) ?_
  refine h_iload_n C 5 dX11_isNear_56 rfl rfl ?_
  refine h_iald C (ty_63 hY) hi dX11_isNear_57 ?_
  refine h_isub C dX11_isNear_58 ?_
  refine h_i2l C dX11_isNear_59 ?_
  refine h_lstore C [(10, .long ((gI σ 63 j.toNatClampNeg) - (gI σ 63 i.toNatClampNeg)).toInt64), (8, .long ((gI σ 48 c.toNatClampNeg) - (gI σ 64 i.toNatClampNeg)).toInt64), (6, .long ((gI σ 47 c.toNatClampNeg) - (gI σ 63 i.toNatClampNeg)).toInt64), (4, .long ((gI σ 44 28) + (gI σ 50 c.toNatClampNeg)).toInt64), (0, .ref (ad G 44)), (1, .int c), (2, .int i), (3, .int j)] dX11_isNear_60 (by decide) rfl ?_
  refine h_aload_n C 4 dX11_isNear_62 rfl rfl ?_
  refine gfX11_103 C (ty_44 hY) dX11_isNear_63 ?_
  refine h_tref (b := 64) (rf_44_30 hY) ?_
  refine h_iload_n C 7 dX11_isNear_66 rfl rfl ?_
  refine h_iald C (ty_64 hY) hj dX11_isNear_67 ?_
  refine h_aload_n C 4 dX11_isNear_68 rfl rfl ?_
  refine gfX11_103 C (ty_44 hY) dX11_isNear_69 ?_
  refine h_tref (b := 64) (rf_44_30 hY) ?_
  refine h_iload_n C 6 dX11_isNear_72 rfl rfl ?_
  refine h_iald C (ty_64 hY) hi dX11_isNear_73 ?_
  refine h_isub C dX11_isNear_74 ?_
  refine h_i2l C dX11_isNear_75 ?_
  refine h_lstore C [(12, .long ((gI σ 64 j.toNatClampNeg) - (gI σ 64 i.toNatClampNeg)).toInt64), (10, .long ((gI σ 63 j.toNatClampNeg) - (gI σ 63 i.toNatClampNeg)).toInt64), (8, .long ((gI σ 48 c.toNatClampNeg) - (gI σ 64 i.toNatClampNeg)).toInt64), (6, .long ((gI σ 47 c.toNatClampNeg) - (gI σ 63 i.toNatClampNeg)).toInt64), (4, .long ((gI σ 44 28) + (gI σ 50 c.toNatClampNeg)).toInt64), (0, .ref (ad G 44)), (1, .int c), (2, .int i), (3, .int j)] dX11_isNear_76 (by decide) rfl ?_
  refine h_lload C 3 dX11_isNear_78 rfl ?_
  refine h_lload C 1 dX11_isNear_80 rfl ?_
  refine h_lmul C dX11_isNear_82 ?_
  refine h_lload C 2 dX11_isNear_83 rfl ?_
  refine h_lload C 0 dX11_isNear_85 rfl ?_
  refine h_lmul C dX11_isNear_87 ?_
  refine h_ladd C dX11_isNear_88 ?_
  refine h_lstore C [(14, .long ((((gI σ 47 c.toNatClampNeg) - (gI σ 63 i.toNatClampNeg)).toInt64 * ((gI σ 63 j.toNatClampNeg) - (gI σ 63 i.toNatClampNeg)).toInt64) + (((gI σ 48 c.toNatClampNeg) - (gI σ 64 i.toNatClampNeg)).toInt64 * ((gI σ 64 j.toNatClampNeg) - (gI σ 64 i.toNatClampNeg)).toInt64))), (12, .long ((gI σ 64 j.toNatClampNeg) - (gI σ 64 i.toNatClampNeg)).toInt64), (10, .long ((gI σ 63 j.toNatClampNeg) - (gI σ 63 i.toNatClampNeg)).toInt64), (8, .long ((gI σ 48 c.toNatClampNeg) - (gI σ 64 i.toNatClampNeg)).toInt64), (6, .long ((gI σ 47 c.toNatClampNeg) - (gI σ 63 i.toNatClampNeg)).toInt64), (4, .long ((gI σ 44 28) + (gI σ 50 c.toNatClampNeg)).toInt64), (0, .ref (ad G 44)), (1, .int c), (2, .int i), (3, .int j)] dX11_isNear_89 (by decide) rfl ?_
  refine h_lload C 2 dX11_isNear_91 rfl ?_
  refine h_lload C 2 dX11_isNear_93 rfl ?_
  refine h_lmul C dX11_isNear_95 ?_
  refine h_lload C 1 dX11_isNear_96 rfl ?_
  refine h_lload C 1 dX11_isNear_98 rfl ?_
  refine h_lmul C dX11_isNear_100 ?_
  refine h_ladd C dX11_isNear_101 ?_
  refine h_lstore C [(16, .long ((((gI σ 63 j.toNatClampNeg) - (gI σ 63 i.toNatClampNeg)).toInt64 * ((gI σ 63 j.toNatClampNeg) - (gI σ 63 i.toNatClampNeg)).toInt64) + (((gI σ 64 j.toNatClampNeg) - (gI σ 64 i.toNatClampNeg)).toInt64 * ((gI σ 64 j.toNatClampNeg) - (gI σ 64 i.toNatClampNeg)).toInt64))), (14, .long ((((gI σ 47 c.toNatClampNeg) - (gI σ 63 i.toNatClampNeg)).toInt64 * ((gI σ 63 j.toNatClampNeg) - (gI σ 63 i.toNatClampNeg)).toInt64) + (((gI σ 48 c.toNatClampNeg) - (gI σ 64 i.toNatClampNeg)).toInt64 * ((gI σ 64 j.toNatClampNeg) - (gI σ 64 i.toNatClampNeg)).toInt64))), (12, .long ((gI σ 64 j.toNatClampNeg) - (gI σ 64 i.toNatClampNeg)).toInt64), (10, .long ((gI σ 63 j.toNatClampNeg) - (gI σ 63 i.toNatClampNeg)).toInt64), (8, .long ((gI σ 48 c.toNatClampNeg) - (gI σ 64 i.toNatClampNeg)).toInt64), (6, .long ((gI σ 47 c.toNatClampNeg) - (gI σ 63 i.toNatClampNeg)).toInt64), (4, .long ((gI σ 44 28) + (gI σ 50 c.toNatClampNeg)).toInt64), (0, .ref (ad G 44)), (1, .int c), (2, .int i), (3, .int j)] dX11_isNear_102 (by decide) rfl ?_
  refine h_lload C 1 dX11_isNear_104 rfl ?_
  refine h_lconst C 0 dX11_isNear_106 rfl ?_
  refine h_lcmp C dX11_isNear_107 ?_
  refine h_if_gt C 137 dX11_isNear_108 (by decide) (fun c_108 => ?_) (fun c_108 => ?_)
  · refine h_lload C 1 dX11_isNear_137 rfl ?_
    refine h_lload C 0 dX11_isNear_139 rfl ?_
    refine h_lcmp C dX11_isNear_141 ?_
    refine h_if_lt C 183 dX11_isNear_142 (by decide) (fun c_142 => ?_) (fun c_142 => ?_)
    · refine h_lload C 3 dX11_isNear_183 rfl ?_
      refine h_lload C 4 dX11_isNear_185 rfl ?_
      refine h_lmul C dX11_isNear_187 ?_
      refine h_lload C 2 dX11_isNear_188 rfl ?_
      refine h_lload C 5 dX11_isNear_190 rfl ?_
      refine h_lmul C dX11_isNear_192 ?_
      refine h_lsub C dX11_isNear_193 ?_
      refine h_lstore C [(18, .long ((((gI σ 63 j.toNatClampNeg) - (gI σ 63 i.toNatClampNeg)).toInt64 * ((gI σ 48 c.toNatClampNeg) - (gI σ 64 i.toNatClampNeg)).toInt64) - (((gI σ 64 j.toNatClampNeg) - (gI σ 64 i.toNatClampNeg)).toInt64 * ((gI σ 47 c.toNatClampNeg) - (gI σ 63 i.toNatClampNeg)).toInt64))), (16, .long ((((gI σ 63 j.toNatClampNeg) - (gI σ 63 i.toNatClampNeg)).toInt64 * ((gI σ 63 j.toNatClampNeg) - (gI σ 63 i.toNatClampNeg)).toInt64) + (((gI σ 64 j.toNatClampNeg) - (gI σ 64 i.toNatClampNeg)).toInt64 * ((gI σ 64 j.toNatClampNeg) - (gI σ 64 i.toNatClampNeg)).toInt64))), (14, .long ((((gI σ 47 c.toNatClampNeg) - (gI σ 63 i.toNatClampNeg)).toInt64 * ((gI σ 63 j.toNatClampNeg) - (gI σ 63 i.toNatClampNeg)).toInt64) + (((gI σ 48 c.toNatClampNeg) - (gI σ 64 i.toNatClampNeg)).toInt64 * ((gI σ 64 j.toNatClampNeg) - (gI σ 64 i.toNatClampNeg)).toInt64))), (12, .long ((gI σ 64 j.toNatClampNeg) - (gI σ 64 i.toNatClampNeg)).toInt64), (10, .long ((gI σ 63 j.toNatClampNeg) - (gI σ 63 i.toNatClampNeg)).toInt64), (8, .long ((gI σ 48 c.toNatClampNeg) - (gI σ 64 i.toNatClampNeg)).toInt64), (6, .long ((gI σ 47 c.toNatClampNeg) - (gI σ 63 i.toNatClampNeg)).toInt64), (4, .long ((gI σ 44 28) + (gI σ 50 c.toNatClampNeg)).toInt64), (0, .ref (ad G 44)), (1, .int c), (2, .int i), (3, .int j)] dX11_isNear_194 (by decide) rfl ?_
      refine h_lload C 0 dX11_isNear_196 rfl ?_
      refine h_lload C 0 dX11_isNear_198 rfl ?_
      refine h_lmul C dX11_isNear_200 ?_
      refine h_lload C 7 dX11_isNear_201 rfl ?_
      refine h_lload C 7 dX11_isNear_203 rfl ?_
      refine h_lmul C dX11_isNear_205 ?_
      refine h_lload C 1 dX11_isNear_206 rfl ?_
      refine h_lmul C dX11_isNear_208 ?_
      refine h_lcmp C dX11_isNear_209 ?_
      refine h_if_ge C 217 dX11_isNear_210 (by decide) (fun c_210 => ?_) (fun c_210 => ?_)
      · refine h_iconst C 0 dX11_isNear_217 (by decide) ?_
        refine h_zret C rfl (by decide) (Nat.zero_le _) (Nat.zero_le _) dX11_isNear_218 ?_
        refine ⟨⟨_, rfl, ?_⟩, rfl⟩
        unfold mNear nearP
        rw [if_neg (Int64.not_le.mpr (lg_gt0 c_108)), if_neg (Int64.not_le.mpr (lg_lt.mp c_142))]
        rw [nr_sq] at c_210
        exact isB0 (fun z => absurd (lg_lt.mpr z) (Int32.not_lt.mpr c_210))
      · refine h_iconst C 1 dX11_isNear_213 (by decide) ?_
        refine h_goto C 218 dX11_isNear_214 (by decide) ?_
        refine h_zret C rfl (by decide) (Nat.zero_le _) (Nat.zero_le _) dX11_isNear_218 ?_
        refine ⟨⟨_, rfl, ?_⟩, rfl⟩
        unfold mNear nearP
        rw [if_neg (Int64.not_le.mpr (lg_gt0 c_108)), if_neg (Int64.not_le.mpr (lg_lt.mp c_142))]
        rw [nr_sq] at c_210
        exact isB1 (lg_lt.mp (Int32.not_le.mp c_210))
    · refine h_lload C 5 dX11_isNear_145 rfl ?_
      refine h_lload C 3 dX11_isNear_147 rfl ?_
      refine h_lsub C dX11_isNear_149 ?_
      refine h_lload C 5 dX11_isNear_150 rfl ?_
      refine h_lload C 3 dX11_isNear_152 rfl ?_
      refine h_lsub C dX11_isNear_154 ?_
      refine h_lmul C dX11_isNear_155 ?_
      refine h_lload C 4 dX11_isNear_156 rfl ?_
      refine h_lload C 2 dX11_isNear_158 rfl ?_
      refine h_lsub C dX11_isNear_160 ?_
      refine h_lload C 4 dX11_isNear_161 rfl ?_
      refine h_lload C 2 dX11_isNear_163 rfl ?_
      refine h_lsub C dX11_isNear_165 ?_
      refine h_lmul C dX11_isNear_166 ?_
      refine h_ladd C dX11_isNear_167 ?_
      refine h_lload C 6 dX11_isNear_168 rfl ?_
      refine h_lload C 6 dX11_isNear_170 rfl ?_
      refine h_lmul C dX11_isNear_172 ?_
      refine h_lcmp C dX11_isNear_173 ?_
      refine h_if_ge C 181 dX11_isNear_174 (by decide) (fun c_174 => ?_) (fun c_174 => ?_)
      · refine h_iconst C 0 dX11_isNear_181 (by decide) ?_
        refine h_zret C rfl (by decide) (Nat.zero_le _) (Nat.zero_le _) dX11_isNear_182 ?_
        refine ⟨⟨_, rfl, ?_⟩, rfl⟩
        unfold mNear nearP
        rw [if_neg (Int64.not_le.mpr (lg_gt0 c_108)), if_pos (Int64.not_lt.mp (fun z => c_142 (lg_lt.mpr z)))]
        exact isB0 (fun z => absurd (lg_lt.mpr z) (Int32.not_lt.mpr c_174))
      · refine h_iconst C 1 dX11_isNear_177 (by decide) ?_
        refine h_goto C 182 dX11_isNear_178 (by decide) ?_
        refine h_zret C rfl (by decide) (Nat.zero_le _) (Nat.zero_le _) dX11_isNear_182 ?_
        refine ⟨⟨_, rfl, ?_⟩, rfl⟩
        unfold mNear nearP
        rw [if_neg (Int64.not_le.mpr (lg_gt0 c_108)), if_pos (Int64.not_lt.mp (fun z => c_142 (lg_lt.mpr z)))]
        exact isB1 (lg_lt.mp (Int32.not_le.mp c_174))
  · refine h_lload C 5 dX11_isNear_111 rfl ?_
    refine h_lload C 5 dX11_isNear_113 rfl ?_
    refine h_lmul C dX11_isNear_115 ?_
    refine h_lload C 4 dX11_isNear_116 rfl ?_
    refine h_lload C 4 dX11_isNear_118 rfl ?_
    refine h_lmul C dX11_isNear_120 ?_
    refine h_ladd C dX11_isNear_121 ?_
    refine h_lload C 6 dX11_isNear_122 rfl ?_
    refine h_lload C 6 dX11_isNear_124 rfl ?_
    refine h_lmul C dX11_isNear_126 ?_
    refine h_lcmp C dX11_isNear_127 ?_
    refine h_if_ge C 135 dX11_isNear_128 (by decide) (fun c_128 => ?_) (fun c_128 => ?_)
    · refine h_iconst C 0 dX11_isNear_135 (by decide) ?_
      refine h_zret C rfl (by decide) (Nat.zero_le _) (Nat.zero_le _) dX11_isNear_136 ?_
      refine ⟨⟨_, rfl, ?_⟩, rfl⟩
      unfold mNear nearP
      rw [if_pos (Int64.not_lt.mp (fun z => c_108 (lg_gt0i z)))]
      exact isB0 (fun z => absurd (lg_lt.mpr z) (Int32.not_lt.mpr c_128))
    · refine h_iconst C 1 dX11_isNear_131 (by decide) ?_
      refine h_goto C 136 dX11_isNear_132 (by decide) ?_
      refine h_zret C rfl (by decide) (Nat.zero_le _) (Nat.zero_le _) dX11_isNear_136 ?_
      refine ⟨⟨_, rfl, ?_⟩, rfl⟩
      unfold mNear nearP
      rw [if_pos (Int64.not_lt.mp (fun z => c_108 (lg_gt0i z)))]
      exact isB1 (lg_lt.mp (Int32.not_le.mp c_128))
set_option maxRecDepth 100000 in
set_option maxHeartbeats 4000000 in
theorem m_X11_firstMeeting {G : ha_G} {l : Launch} {σ : ha_St} {c : Int32} (hY : LY σ) (hc : vp_in c 10) (hp0 : 0 ≤ gI σ 44 27) (hp1 : gI σ 44 27 ≤ 40) : hM G l yX11_firstMeeting cX11_firstMeeting 3 (some .int) { frames := 1, cells := 0, slots := 0, locals := 39 } [.ref (ad G 44), .int c] σ (fun v σ' => (∃ r, v = some (.int r) ∧ mFN σ c.toNatClampNeg r) ∧ σ' = σ) := by
  refine hM_ofF [(0, .ref (ad G 44)), (1, .int c)] (by decide +kernel) (Nat.le_of_ble_eq_true rfl) rfl ?_
  intro p e s m args below meth c0 C hin
  refine h_aload_n C 0 dX11_firstMeeting_0 rfl rfl ?_
  refine gfX11_94 C (ty_44 hY) dX11_firstMeeting_1 ?_
  refine h_iconst C 1 dX11_firstMeeting_4 (by decide) ?_
  refine h_icmp_ne C 25 dX11_firstMeeting_5 (by decide) (fun c_5 => ?_) (fun c_5 => ?_)
  · refine h_iconst C 0 dX11_firstMeeting_25 (by decide) ?_
    refine h_istore_n C [(2, .int 0), (0, .ref (ad G 44)), (1, .int c)] dX11_firstMeeting_26 rfl (by decide) rfl ?_
    refine h_sub [1, 2, 0] rfl ?_
    refine h_loop (α := Int32) (fun i => 0 ≤ i ∧ (∀ x : Int32, 0 ≤ x → x < i → ¬ mNI σ c.toNatClampNeg x)) (fun i => tm (gI σ 44 27 - 1) i) (fun i => [(0, .ref (ad G 44)), (1, .int c), (2, .int i)]) (fun i => []) (fun i => σ) (fun i => 0) (fun i => 0) ?_ 0 ?_
    · rintro i hI ih
      show hW _ _ _ _ _ _ _ _ _ _ _ _ _ 27 [(0, .ref (ad G 44)), (1, .int c), (2, .int i)] [] σ 0 0
      refine h_iload_n C 2 dX11_firstMeeting_27 rfl rfl ?_
      refine h_aload_n C 0 dX11_firstMeeting_28 rfl rfl ?_
      refine gfX11_94 C (ty_44 hY) dX11_firstMeeting_29 ?_
      refine h_iconst C 1 dX11_firstMeeting_32 (by decide) ?_
      refine h_isub C dX11_firstMeeting_33 ?_
      refine h_icmp_ge C 57 dX11_firstMeeting_34 (by decide) (fun c_34 => ?_) (fun c_34 => ?_)
      · refine h_bipush C (-2) dX11_firstMeeting_57 (by decide) ?_
        refine h_iret C rfl (Nat.zero_le _) (Nat.zero_le _) dX11_firstMeeting_59 ?_
        have hl : mLines σ = gI σ 44 27 - 1 := by unfold mLines; rw [if_neg c_5]
        refine ⟨⟨_, rfl, Or.inr ⟨rfl, fun x h0 h1 => hI.2 x h0 ?_⟩⟩, rfl⟩
        rw [hl] at h1
        exact Int32.lt_of_lt_of_le h1 c_34
      · have hil := Int32.not_le.mp c_34
        have hvi : vp_in i 40 := vp32 (N := 40) hI.1 (by have h1 := hp1; have h2 := hp0; clear C; grind) (by decide)
        have hvj : vp_in (i + 1) 40 := vp32 (N := 40) (by have h := hI.1; have h1 := hp1; clear C; grind) (by have h0 := hI.1; have h1 := hp1; have h2 := hp0; clear C; grind) (by decide)
        have hto : mTo σ i = i + 1 := by unfold mTo; rw [if_neg c_5]
        refine h_aload_n C 0 dX11_firstMeeting_37 rfl rfl ?_
        refine h_iload_n C 1 dX11_firstMeeting_38 rfl rfl ?_
        refine h_iload_n C 2 dX11_firstMeeting_39 rfl rfl ?_
        refine h_iload_n C 2 dX11_firstMeeting_40 rfl rfl ?_
        refine h_iconst C 1 dX11_firstMeeting_41 (by decide) ?_
        refine h_iadd C dX11_firstMeeting_42 ?_
        refine h_callV C (m_X11_isNear hY hc hvi hvj) caX11_266 kX11 (ty_44 hY) ⟨by decide, by decide, by decide, by decide⟩ rfl rfl (Nat.le_of_ble_eq_true rfl) dX11_firstMeeting_43 ?_
        rintro v σ' ⟨⟨rn, rfl, hn⟩, h2⟩; rw [h2]; clear h2
        show hW _ _ _ _ _ _ _ _ _ _ _ _ _ 46 [(0, .ref (ad G 44)), (1, .int c), (2, .int i)] [.int rn] σ 0 0
        refine h_if_eq C 51 dX11_firstMeeting_46 (by decide) (fun c_46 => ?_) (fun c_46 => ?_)
        · refine h_iinc C [(2, .int (i + 1)), (0, .ref (ad G 44)), (1, .int c)] 2 (i + 1) dX11_firstMeeting_51 rfl rfl (by decide) rfl ?_
          refine h_goto C 27 dX11_firstMeeting_54 (by decide) ?_
          refine h_sub [1, 2, 0] rfl ?_
          refine ih (i + 1) ?_ ?_
          · refine ⟨(le_succ hI.1 hil).1, fun x h0 h1 => ?_⟩
            by_cases e : x = i
            · rw [e]
              unfold mNI
              rw [hto]
              exact isB_0 hn c_46
            · exact hI.2 x h0 (by clear C; grind)
          · exact tm_lt hil
        · refine h_iload_n C 2 dX11_firstMeeting_49 rfl rfl ?_
          refine h_iret C rfl (Nat.zero_le _) (Nat.zero_le _) dX11_firstMeeting_50 ?_
          have hl : mLines σ = gI σ 44 27 - 1 := by unfold mLines; rw [if_neg c_5]
          refine ⟨⟨_, rfl, Or.inl ⟨hI.1, by rw [hl]; exact hil, ?_, hI.2⟩⟩, rfl⟩
          unfold mNI
          rw [hto]
          exact isB_1 hn c_46
    · exact ⟨by decide, fun x h0 h1 => by grind⟩
  · refine h_aload_n C 0 dX11_firstMeeting_8 rfl rfl ?_
    refine h_iload_n C 1 dX11_firstMeeting_9 rfl rfl ?_
    refine h_iconst C 0 dX11_firstMeeting_10 (by decide) ?_
    refine h_iconst C 0 dX11_firstMeeting_11 (by decide) ?_
    refine h_callV C (m_X11_isNear hY hc (vp32 (N := 40) (by decide) (by decide) (by decide)) (vp32 (N := 40) (by decide) (by decide) (by decide))) caX11_266 kX11 (ty_44 hY) ⟨by decide, by decide, by decide, by decide⟩ rfl rfl (Nat.le_of_ble_eq_true rfl) dX11_firstMeeting_12 ?_
    rintro v σ' ⟨⟨rn, rfl, hn⟩, h2⟩; rw [h2]; clear h2
    show hW _ _ _ _ _ _ _ _ _ _ _ _ _ 15 [(0, .ref (ad G 44)), (1, .int c)] [.int rn] σ 0 0
    refine h_if_eq C 22 dX11_firstMeeting_15 (by decide) (fun c_15 => ?_) (fun c_15 => ?_)
    · refine h_bipush C (-2) dX11_firstMeeting_22 (by decide) ?_
      refine h_iret C rfl (Nat.zero_le _) (Nat.zero_le _) dX11_firstMeeting_24 ?_
      have hl : mLines σ = 1 := by unfold mLines; rw [if_pos c_5]
      have ht : mTo σ 0 = 0 := by unfold mTo; rw [if_pos c_5]
      have hz : mNI σ c.toNatClampNeg 0 ↔ mNear σ c.toNatClampNeg (Int32.toNatClampNeg 0) (Int32.toNatClampNeg 0) := by unfold mNI; rw [ht]
      refine ⟨⟨_, rfl, Or.inr ⟨rfl, fun i h0 h1 => ?_⟩⟩, rfl⟩
      rw [hl] at h1
      rw [show i = 0 by clear C; grind, hz]
      exact isB_0 hn c_15
    · refine h_iconst C 0 dX11_firstMeeting_18 (by decide) ?_
      refine h_goto C 24 dX11_firstMeeting_19 (by decide) ?_
      refine h_iret C rfl (Nat.zero_le _) (Nat.zero_le _) dX11_firstMeeting_24 ?_
      have hl : mLines σ = 1 := by unfold mLines; rw [if_pos c_5]
      have ht : mTo σ 0 = 0 := by unfold mTo; rw [if_pos c_5]
      have hz : mNI σ c.toNatClampNeg 0 ↔ mNear σ c.toNatClampNeg (Int32.toNatClampNeg 0) (Int32.toNatClampNeg 0) := by unfold mNI; rw [ht]
      exact ⟨⟨_, rfl, Or.inl ⟨by decide, by rw [hl]; decide, hz.mpr (isB_1 hn c_15), fun i h0 h1 => by grind⟩⟩, rfl⟩
def mMeetsQ (σ : ha_St) (c r : Int32) : Prop := (icV σ c = 0 ∧ r = -1) ∨ (icV σ c ≠ 0 ∧ ((gI σ 44 27 = 0 ∧ r = -3) ∨ (gI σ 44 27 ≠ 0 ∧ mFN σ c.toNatClampNeg r)))
set_option maxRecDepth 100000 in
set_option maxHeartbeats 4000000 in
theorem m_X11_meets {G : ha_G} {l : Launch} {σ : ha_St} {c : Int32} (hY : LY σ) (hN : MN σ) (hp0 : 0 ≤ gI σ 44 27) (hp1 : gI σ 44 27 ≤ 40) : hM G l yX11_meets cX11_meets 2 (some .int) { frames := 2, cells := 0, slots := 0, locals := 61 } [.ref (ad G 44), .int c] σ (fun v σ' => (∃ r, v = some (.int r) ∧ mMeetsQ σ c r) ∧ σ' = σ) := by
  refine hM_ofF [(0, .ref (ad G 44)), (1, .int c)] (by decide +kernel) (Nat.le_of_ble_eq_true rfl) rfl ?_
  intro p e s m args below meth c0 C hin
  refine h_aload_n C 0 dX11_meets_0 rfl rfl ?_
  refine h_iload_n C 1 dX11_meets_1 rfl rfl ?_
  refine h_callV C (m_X11_isContact hY hN) caX11_142 kX11 (ty_44 hY) ⟨by decide, by decide, by decide, by decide⟩ rfl rfl (Nat.le_of_ble_eq_true rfl) dX11_meets_2 ?_
  rintro v σ' ⟨rfl, h2⟩; rw [h2]; clear h2
  show hW _ _ _ _ _ _ _ _ _ _ _ _ _ 5 [(0, .ref (ad G 44)), (1, .int c)] [.int (icV σ c)] σ 0 0
  refine h_if_ne C 10 dX11_meets_5 (by decide) (fun c_5 => ?_) (fun c_5 => ?_)
  · refine h_aload_n C 0 dX11_meets_10 rfl rfl ?_
    refine gfX11_94 C (ty_44 hY) dX11_meets_11 ?_
    refine h_if_ne C 22 dX11_meets_14 (by decide) (fun c_14 => ?_) (fun c_14 => ?_)
    · refine h_aload_n C 0 dX11_meets_22 rfl rfl ?_
      refine h_iload_n C 1 dX11_meets_23 rfl rfl ?_
      refine h_callV C (m_X11_firstMeeting hY (icv hN c_5) hp0 hp1) caX11_269 kX11 (ty_44 hY) ⟨by decide, by decide, by decide, by decide⟩ rfl rfl (Nat.le_of_ble_eq_true rfl) dX11_meets_24 ?_
      rintro v σ' ⟨⟨q, rfl, hq⟩, h2⟩; rw [h2]; clear h2
      show hW _ _ _ _ _ _ _ _ _ _ _ _ _ 27 [(0, .ref (ad G 44)), (1, .int c)] [.int q] σ 0 0
      refine h_iret C rfl (Nat.zero_le _) (Nat.zero_le _) dX11_meets_27 ?_
      exact ⟨⟨_, rfl, Or.inr ⟨c_5, Or.inr ⟨c_14, hq⟩⟩⟩, rfl⟩
    · refine h_bipush C (-3) dX11_meets_17 (by decide) ?_
      refine h_goto C 27 dX11_meets_19 (by decide) ?_
      refine h_iret C rfl (Nat.zero_le _) (Nat.zero_le _) dX11_meets_27 ?_
      exact ⟨⟨_, rfl, Or.inr ⟨c_5, Or.inl ⟨c_14, rfl⟩⟩⟩, rfl⟩
  · refine h_iconst C (-1) dX11_meets_8 (by decide) ?_
    refine h_iret C rfl (Nat.zero_le _) (Nat.zero_le _) dX11_meets_9 ?_
    exact ⟨⟨_, rfl, Or.inl ⟨c_5, rfl⟩⟩, rfl⟩
set_option maxRecDepth 100000 in
set_option maxHeartbeats 4000000 in
theorem m_X11_met {G : ha_G} {l : Launch} {σ : ha_St} (hY : LY σ) (hN : MN σ) (hp0 : 0 ≤ gI σ 44 27) (hp1 : gI σ 44 27 ≤ 40) : hM G l yX11_met cX11_met 3 (some .int) { frames := 2, cells := 0, slots := 0, locals := 61 } [.ref (ad G 44)] σ (fun v σ' => (∃ r, v = some (.int r) ∧ ((gI σ 44 27 = 0 ∧ r = -3) ∨ (gI σ 44 27 ≠ 0 ∧ bitsP (mMetP σ) (gI σ 44 1).toNatClampNeg r))) ∧ σ' = σ) := by
  refine hM_ofF [(0, .ref (ad G 44))] (by decide +kernel) (Nat.le_of_ble_eq_true rfl) rfl ?_
  intro p e s m args below meth c0 C hin
  refine h_aload_n C 0 dX11_met_0 rfl rfl ?_
  refine gfX11_94 C (ty_44 hY) dX11_met_1 ?_
  refine h_if_ne C 10 dX11_met_4 (by decide) (fun c_4 => ?_) (fun c_4 => ?_)
  · refine h_iconst C 0 dX11_met_10 (by decide) ?_
    refine h_istore_n C [(1, .int 0), (0, .ref (ad G 44))] dX11_met_11 rfl (by decide) rfl ?_
    refine h_iconst C 0 dX11_met_12 (by decide) ?_
    refine h_istore_n C [(2, .int 0), (1, .int 0), (0, .ref (ad G 44))] dX11_met_13 rfl (by decide) rfl ?_
    refine h_sub [2, 1, 0] rfl ?_
    refine h_loop (α := Int32 × Int32) (fun (b, i) => 0 ≤ i ∧ i ≤ gI σ 44 1 ∧ bitsP (mMetP σ) i.toNatClampNeg b) (fun (b, i) => tm (gI σ 44 1) i) (fun (b, i) => [(0, .ref (ad G 44)), (1, .int b), (2, .int i)]) (fun (b, i) => []) (fun (b, i) => σ) (fun (b, i) => 0) (fun (b, i) => 0) ?_ (0, 0) ?_
    · rintro ⟨b, i⟩ hI ih
      show hW _ _ _ _ _ _ _ _ _ _ _ _ _ 14 [(0, .ref (ad G 44)), (1, .int b), (2, .int i)] [] σ 0 0
      refine h_iload_n C 2 dX11_met_14 rfl rfl ?_
      refine h_aload_n C 0 dX11_met_15 rfl rfl ?_
      refine gfX11_13 C (ty_44 hY) dX11_met_16 ?_
      refine h_icmp_ge C 46 dX11_met_19 (by decide) (fun c_19 => ?_) (fun c_19 => ?_)
      · refine h_iload_n C 1 dX11_met_46 rfl rfl ?_
        refine h_iret C rfl (Nat.zero_le _) (Nat.zero_le _) dX11_met_47 ?_
        have he := eq_end hI.2.1 (Int32.not_lt.mpr c_19)
        have hq := hI.2.2
        rw [he] at hq
        exact ⟨⟨_, rfl, Or.inr ⟨c_4, hq⟩⟩, rfl⟩
      · have hil := Int32.not_le.mp c_19
        have hvc : vp_in i 10 := vp32 (N := 10) hI.1 (Int32.lt_of_lt_of_le hil hN.2) (by decide)
        refine h_iload_n C 1 dX11_met_22 rfl rfl ?_
        refine h_aload_n C 0 dX11_met_23 rfl rfl ?_
        refine h_iload_n C 2 dX11_met_24 rfl rfl ?_
        refine h_callV C (m_X11_firstMeeting hY hvc hp0 hp1) caX11_269 kX11 (ty_44 hY) ⟨by decide, by decide, by decide, by decide⟩ rfl rfl (Nat.le_of_ble_eq_true rfl) dX11_met_25 ?_
        rintro v σ' ⟨⟨q, rfl, hq⟩, h2⟩; rw [h2]; clear h2
        show hW _ _ _ _ _ _ _ _ _ _ _ _ _ 28 [(0, .ref (ad G 44)), (1, .int b), (2, .int i)] [.int q, .int b] σ 0 0
        refine h_if_lt C 37 dX11_met_28 (by decide) (fun c_28 => ?_) (fun c_28 => ?_)
        · refine h_iconst C 0 dX11_met_37 (by decide) ?_
          refine h_ior C dX11_met_38 ?_
          refine h_istore_n C [(1, .int (b ||| 0)), (0, .ref (ad G 44)), (2, .int i)] dX11_met_39 rfl (by decide) rfl ?_
          refine h_iinc C [(2, .int (i + 1)), (1, .int (b ||| 0)), (0, .ref (ad G 44))] 2 (i + 1) dX11_met_40 rfl rfl (by decide) rfl ?_
          refine h_goto C 14 dX11_met_43 (by decide) ?_
          refine h_sub [2, 1, 0] rfl ?_
          refine ih ((b ||| 0), (i + 1)) ?_ ?_
          · refine ⟨(le_succ hI.1 hil).1, (le_succ hI.1 hil).2, ?_⟩
            rw [tn_succ hI.1 hil]
            refine ⟨b, hI.2.2, ?_⟩
            exact Or.inr ⟨fun ⟨q2, z, h0⟩ => absurd (show (0 : Int32) ≤ q by rw [mFN_det hq z]; exact h0) (Int32.not_le.mpr c_28), Int32.or_zero⟩
          · exact tm_lt hil
        · refine h_iconst C 1 dX11_met_31 (by decide) ?_
          refine h_iload_n C 2 dX11_met_32 rfl rfl ?_
          refine h_ishl C dX11_met_33 ?_
          refine h_goto C 38 dX11_met_34 (by decide) ?_
          refine h_ior C dX11_met_38 ?_
          refine h_istore_n C [(1, .int (b ||| (1 <<< (i &&& 31)))), (0, .ref (ad G 44)), (2, .int i)] dX11_met_39 rfl (by decide) rfl ?_
          refine h_iinc C [(2, .int (i + 1)), (1, .int (b ||| (1 <<< (i &&& 31)))), (0, .ref (ad G 44))] 2 (i + 1) dX11_met_40 rfl rfl (by decide) rfl ?_
          refine h_goto C 14 dX11_met_43 (by decide) ?_
          refine h_sub [2, 1, 0] rfl ?_
          refine ih ((b ||| (1 <<< (i &&& 31))), (i + 1)) ?_ ?_
          · refine ⟨(le_succ hI.1 hil).1, (le_succ hI.1 hil).2, ?_⟩
            rw [tn_succ hI.1 hil]
            refine ⟨b, hI.2.2, ?_⟩
            exact Or.inl ⟨⟨q, hq, Int32.not_lt.mp c_28⟩, by rw [nI_tn hI.1]⟩
          · exact tm_lt hil
    · exact ⟨by decide, hN.1, by rw [tn_0]; rfl⟩
  · refine h_bipush C (-3) dX11_met_7 (by decide) ?_
    refine h_iret C rfl (Nat.zero_le _) (Nat.zero_le _) dX11_met_9 ?_
    exact ⟨⟨_, rfl, Or.inl ⟨c_4, rfl⟩⟩, rfl⟩
set_option maxRecDepth 100000 in
set_option maxHeartbeats 4000000 in
theorem m_X11_count {G : ha_G} {l : Launch} {σ : ha_St} {w : Int32} (hY : LY σ) : hM G l yX11_count cX11_count 2 (some .int) { frames := 0, cells := 0, slots := 0, locals := 0 } [.ref (ad G 44), .int w] σ (fun v σ' => v = some (.int (mCount σ w)) ∧ σ' = σ) := by
  refine hM_ofF [(0, .ref (ad G 44)), (1, .int w)] (by decide +kernel) (Nat.le_of_ble_eq_true rfl) rfl ?_
  intro p e s m args below meth c0 C hin
  refine h_iload_n C 1 dX11_count_0 rfl rfl ?_
  refine h_if_ne C 11 dX11_count_1 (by decide) (fun c_1 => ?_) (fun c_1 => ?_)
  · refine h_iload_n C 1 dX11_count_11 rfl rfl ?_
    refine h_iconst C 1 dX11_count_12 (by decide) ?_
    refine h_icmp_ne C 23 dX11_count_13 (by decide) (fun c_13 => ?_) (fun c_13 => ?_)
    · refine h_iload_n C 1 dX11_count_23 rfl rfl ?_
      refine h_iconst C 2 dX11_count_24 (by decide) ?_
      refine h_icmp_ne C 35 dX11_count_25 (by decide) (fun c_25 => ?_) (fun c_25 => ?_)
      · refine h_iload_n C 1 dX11_count_35 rfl rfl ?_
        refine h_iconst C 3 dX11_count_36 (by decide) ?_
        refine h_icmp_ne C 47 dX11_count_37 (by decide) (fun c_37 => ?_) (fun c_37 => ?_)
        · refine h_iload_n C 1 dX11_count_47 rfl rfl ?_
          refine h_iconst C 4 dX11_count_48 (by decide) ?_
          refine h_icmp_ne C 59 dX11_count_49 (by decide) (fun c_49 => ?_) (fun c_49 => ?_)
          · refine h_iconst C (-1) dX11_count_59 (by decide) ?_
            refine h_iret C rfl (Nat.zero_le _) (Nat.zero_le _) dX11_count_60 ?_
            refine ⟨vint ?_, rfl⟩
            unfold mCount
            rw [if_neg c_1, if_neg c_13, if_neg c_25, if_neg c_37, if_neg c_49]
          · refine h_aload_n C 0 dX11_count_52 rfl rfl ?_
            refine gfX11_97 C (ty_44 hY) dX11_count_53 ?_
            refine h_goto C 60 dX11_count_56 (by decide) ?_
            refine h_iret C rfl (Nat.zero_le _) (Nat.zero_le _) dX11_count_60 ?_
            refine ⟨vint ?_, rfl⟩
            unfold mCount
            rw [if_neg c_1, if_neg c_13, if_neg c_25, if_neg c_37, if_pos c_49]
        · refine h_aload_n C 0 dX11_count_40 rfl rfl ?_
          refine gfX11_94 C (ty_44 hY) dX11_count_41 ?_
          refine h_goto C 60 dX11_count_44 (by decide) ?_
          refine h_iret C rfl (Nat.zero_le _) (Nat.zero_le _) dX11_count_60 ?_
          refine ⟨vint ?_, rfl⟩
          unfold mCount
          rw [if_neg c_1, if_neg c_13, if_neg c_25, if_pos c_37]
      · refine h_aload_n C 0 dX11_count_28 rfl rfl ?_
        refine gfX11_82 C (ty_44 hY) dX11_count_29 ?_
        refine h_goto C 60 dX11_count_32 (by decide) ?_
        refine h_iret C rfl (Nat.zero_le _) (Nat.zero_le _) dX11_count_60 ?_
        refine ⟨vint ?_, rfl⟩
        unfold mCount
        rw [if_neg c_1, if_neg c_13, if_pos c_25]
    · refine h_aload_n C 0 dX11_count_16 rfl rfl ?_
      refine gfX11_63 C (ty_44 hY) dX11_count_17 ?_
      refine h_goto C 60 dX11_count_20 (by decide) ?_
      refine h_iret C rfl (Nat.zero_le _) (Nat.zero_le _) dX11_count_60 ?_
      refine ⟨vint ?_, rfl⟩
      unfold mCount
      rw [if_neg c_1, if_pos c_13]
  · refine h_aload_n C 0 dX11_count_4 rfl rfl ?_
    refine gfX11_13 C (ty_44 hY) dX11_count_5 ?_
    refine h_goto C 60 dX11_count_8 (by decide) ?_
    refine h_iret C rfl (Nat.zero_le _) (Nat.zero_le _) dX11_count_60 ?_
    refine ⟨vint ?_, rfl⟩
    unfold mCount
    rw [if_pos c_1]
