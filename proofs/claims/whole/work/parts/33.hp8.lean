theorem sAt_some {d : Int32} {b : Nat} (h : sAt d = some b) : ∃ k, k < 8 ∧ b = 36 + k ∧ k = d.toNatClampNeg ∧ 0 ≤ d ∧ d < 8 := by
  unfold sAt at h
  split at h
  · rename_i hd
    have h2 := tn_lt hd.1 hd.2
    rw [show (8 : Int32).toNatClampNeg = 8 by decide] at h2
    cases h
    exact ⟨_, h2, rfl, rfl, hd.1, hd.2⟩
  · cases h
theorem ty_sh {σ : ha_St} (h : LY σ) {k : Nat} (hk : k < 8) : gT σ (36 + k) = (10, 0) := by
  rw [h.1 (36 + k) (by omega)]
  revert k
  decide
/-- what lies on the shelves; at most one of the rows -/
def SH (σ : ha_St) : Prop := ∀ k, k < 8 → SV σ (36 + k) ∧ ∀ q, gR σ (36 + k) 2 = some q → gR σ (36 + k) 1 = none
theorem sh_at {σ : ha_St} {d : Int32} {b : Nat} (hS : SH σ) (h : sAt d = some b) : SV σ b ∧ (∀ q, gR σ b 2 = some q → gR σ b 1 = none) ∧ 36 ≤ b ∧ b < 44 := by
  obtain ⟨k, hk, rfl, -⟩ := sAt_some h
  exact ⟨(hS k hk).1, (hS k hk).2, by omega, by omega⟩
theorem ty_at {σ : ha_St} {d : Int32} {b : Nat} (hY : LY σ) (h : sAt d = some b) : gT σ b = (10, 0) := by
  obtain ⟨k, hk, rfl, -⟩ := sAt_some h
  exact ty_sh hY hk
def lieF (σ : ha_St) (a j b : Nat) : ha_St := sR (shX σ a) a j (some b)
def keepQ (σ : ha_St) (d w k r : Int32) (σ' : ha_St) : Prop := match sAt d with
  | none => r = -1 ∧ σ' = σ
  | some a => if w = 0 then r = 0 ∧ σ' = shX σ a else if w = 1 then (match cAt σ k with | none => r = -1 ∧ σ' = σ | some b => r = 0 ∧ σ' = lieF (twinF σ b (gT σ b).1) a 0 (gn σ)) else if w = 3 then r = 0 ∧ σ' = lieF (wrowF σ) a 1 (gn σ) else if w = 4 then r = 0 ∧ ∃ σ1, fewQ σ σ1 ∧ σ' = lieF (sideF σ1) a 2 (gn σ1) else r = -1 ∧ σ' = σ
theorem twinF_LY {σ : ha_St} {b t : Nat} (h : LY σ) : LY (twinF σ b t) := (LY_mkPin (σ := σ) h).same rfl rfl rfl
theorem wrowF_LY {σ : ha_St} (h : LY σ) : LY (wrowF σ) := wrS_LY h
theorem sideF_LY {σ : ha_St} (h : LY σ) : LY (sideF σ) := (h.new (t := 22) (n := sdN σ)).same rfl rfl rfl
def makeQ (σ : ha_St) (d w n r : Int32) (σ' : ha_St) : Prop := match sAt d with
  | none => r = -1 ∧ σ' = σ
  | some a => if (w = 3 ∨ w = 4) ∧ n ≤ 60 then (if n < 0 then r = -14 ∧ σ' = σ else r = 0 ∧ σ' = if w = 3 then lieF (sN σ 20 n.toNatClampNeg) a 1 (gn σ) else lieF (sN σ 22 n.toNatClampNeg) a 2 (gn σ)) else r = -1 ∧ σ' = σ
def copyQ (σ : ha_St) (d i d2 j n r : Int32) (σ' : ha_St) : Prop := match sAt d, sAt d2 with
  | some a, some b => if bareP σ a ∨ bareP σ b then r = -11 ∧ σ' = σ else if likeP σ a b then (if plcP σ a i n ∧ plcP σ b j n then r = n ∧ σ' = passF σ a b i j n else r = -13 ∧ σ' = σ) else r = -12 ∧ σ' = σ
  | _, _ => r = -1 ∧ σ' = σ
def weightV (σ : ha_St) (d : Int32) : Int32 := match sAt d with
  | none => -1
  | some a => if bareP σ a then -11 else match gR σ a 0 with
    | none => -12
    | some c => weighsOf σ c (gT σ c).1
set_option maxRecDepth 100000 in
set_option maxHeartbeats 4000000 in
theorem m_X10_keep {G : ha_G} {l : Launch} {σ : ha_St} {d w k : Int32} (hY : LY σ) (hP : PN σ) (hSH : SH σ) (hf : ∀ a t, gT σ a = (t, 0) → pT t → a < gn σ) (hd : ∀ i b, cAt σ i = some b → 0 ≤ gI σ b 0 ∧ gI σ b 0 < 8) (hs0 : 0 ≤ gI σ 26 2) (hs1 : gI σ 26 2 ≤ 12) : hM G l yX10_keep cX10_keep 6 (some .int) { frames := 6, cells := 1, slots := 30, locals := 141 } [.ref (ad G 0), .int d, .int w, .int k] σ (fun v σ' => ∃ r, v = some (.int r) ∧ keepQ σ d w k r σ') := by
  refine hM_ofF [(0, .ref (ad G 0)), (1, .int d), (2, .int w), (3, .int k)] (by decide +kernel) (Nat.le_of_ble_eq_true rfl) rfl ?_
  intro p e s m args below meth c0 C hin
  refine h_aload_n C 0 dX10_keep_0 rfl rfl ?_
  refine h_iload_n C 1 dX10_keep_1 rfl rfl ?_
  refine h_callV C (m_X10_shelfAt hY) caX10_270 kX10 (ty_0 hY) ⟨by decide, by decide, by decide, by decide⟩ rfl rfl (Nat.le_of_ble_eq_true rfl) dX10_keep_2 ?_
  rintro v σ' ⟨rfl, h2⟩; rw [h2]; clear h2
  show hW _ _ _ _ _ _ _ _ _ _ _ _ _ 5 [(0, .ref (ad G 0)), (1, .int d), (2, .int w), (3, .int k)] [rf G (sAt d)] σ 0 0
  refine h_topt (fun o_1 => ?_) (fun b_2 o_1 => ?_)
  · refine h_astoreN C [(4, .null), (0, .ref (ad G 0)), (1, .int d), (2, .int w), (3, .int k)] dX10_keep_5 (by decide) rfl ?_
    refine h_aloadN C 0 dX10_keep_7 rfl ?_
    refine h_ifnonnullN C dX10_keep_9 ?_
    refine h_iconst C (-1) dX10_keep_12 (by decide) ?_
    refine h_iret C rfl (Nat.zero_le _) (Nat.zero_le _) dX10_keep_13 ?_
    refine ⟨_, rfl, ?_⟩
    unfold keepQ
    simp only [o_1]
    first | exact ⟨rfl, rfl⟩ | exact ⟨trivial, rfl⟩ | exact ⟨trivial, trivial⟩ | trivial
  · obtain ⟨hS_b_2, hO_b_2, hl_b_2, hu_b_2⟩ := sh_at hSH o_1
    have hTs_b_2 : gT σ b_2 = (10, 0) := hS_b_2.1
    refine h_astore C [(4, .ref (ad G b_2)), (0, .ref (ad G 0)), (1, .int d), (2, .int w), (3, .int k)] dX10_keep_5 (by decide) rfl ?_
    refine h_aload C 0 dX10_keep_7 rfl ?_
    refine h_ifnonnull C 14 dX10_keep_9 (by decide) ?_
    refine h_iload_n C 3 dX10_keep_14 rfl rfl ?_
    by_cases q_15_0 : w = 0
    · refine h_tableIn C 48 dX10_keep_15 (by rw [q_15_0]; decide) (by rw [q_15_0]; decide) (by rw [q_15_0]; rfl) (by decide) ?_
      refine h_aload C 0 dX10_keep_48 rfl ?_
      refine h_callV C (m_X9_clear hTs_b_2) caX10_274 kX9 hTs_b_2 ⟨by decide, by decide, by decide, by decide⟩ rfl rfl (Nat.le_of_ble_eq_true rfl) dX10_keep_50 ?_
      rintro v σ' ⟨rfl, h2⟩; rw [h2]; clear h2
      show hW _ _ _ _ _ _ _ _ _ _ _ _ _ 53 [(4, .ref (ad G b_2)), (0, .ref (ad G 0)), (1, .int d), (2, .int w), (3, .int k)] [] (shX σ b_2) 0 0
      refine h_iconst C 0 dX10_keep_53 (by decide) ?_
      refine h_iret C rfl (Nat.zero_le _) (Nat.zero_le _) dX10_keep_54 ?_
      refine ⟨_, rfl, ?_⟩
      unfold keepQ
      simp only [o_1]
      rw [if_pos q_15_0]
      first | exact ⟨rfl, rfl⟩ | exact ⟨trivial, rfl⟩ | exact ⟨trivial, trivial⟩ | trivial
    by_cases q_15_1 : w = 1
    · refine h_tableIn C 55 dX10_keep_15 (by rw [q_15_1]; decide) (by rw [q_15_1]; decide) (by rw [q_15_1]; rfl) (by decide) ?_
      refine h_aload_n C 1 dX10_keep_55 rfl rfl ?_
      refine h_iload_n C 4 dX10_keep_56 rfl rfl ?_
      refine h_callV C (m_X10_contactAt hY hP) caX10_90 kX10 (ty_0 hY) ⟨by decide, by decide, by decide, by decide⟩ rfl rfl (Nat.le_of_ble_eq_true rfl) dX10_keep_57 ?_
      rintro v σ' ⟨rfl, h2⟩; rw [h2]; clear h2
      show hW _ _ _ _ _ _ _ _ _ _ _ _ _ 60 [(4, .ref (ad G b_2)), (0, .ref (ad G 0)), (1, .int d), (2, .int w), (3, .int k)] [rf G (cAt σ k)] σ 0 0
      refine h_topt (fun o_3 => ?_) (fun b_4 o_3 => ?_)
      · refine h_astoreN C [(5, .null), (4, .ref (ad G b_2)), (0, .ref (ad G 0)), (1, .int d), (2, .int w), (3, .int k)] dX10_keep_60 (by decide) rfl ?_
        refine h_aloadN C 0 dX10_keep_62 rfl ?_
        refine h_ifnonnullN C dX10_keep_64 ?_
        refine h_iconst C (-1) dX10_keep_67 (by decide) ?_
        refine h_iret C rfl (Nat.zero_le _) (Nat.zero_le _) dX10_keep_68 ?_
        refine ⟨_, rfl, ?_⟩
        unfold keepQ
        simp only [o_1]
        rw [if_neg q_15_0, if_pos q_15_1]
        simp only [o_3]
        first | exact ⟨rfl, rfl⟩ | exact ⟨trivial, rfl⟩ | exact ⟨trivial, trivial⟩ | trivial
      · obtain ⟨t_4, hT_4, ht_4, hb_4, hi_4, hj_4, hr_4⟩ := cAt_some hP o_3
        refine h_astore C [(5, .ref (ad G b_4)), (4, .ref (ad G b_2)), (0, .ref (ad G 0)), (1, .int d), (2, .int w), (3, .int k)] dX10_keep_60 (by decide) rfl ?_
        refine h_aload C 0 dX10_keep_62 rfl ?_
        refine h_ifnonnull C 69 dX10_keep_64 (by decide) ?_
        refine h_aload C 1 dX10_keep_69 rfl ?_
        refine h_aload C 0 dX10_keep_71 rfl ?_
        refine h_callS C (m_X10_twinOf hT_4 ht_4 (by have := hf _ _ hT_4 ht_4; omega) (hd _ _ o_3)) caX10_277 ⟨by decide, by decide, by decide, by decide⟩ rfl rfl (Nat.le_of_ble_eq_true rfl) dX10_keep_73 ?_
        rintro v σ' ⟨rfl, h2⟩; rw [h2]; clear h2
        show hW _ _ _ _ _ _ _ _ _ _ _ _ _ 76 [(5, .ref (ad G b_4)), (4, .ref (ad G b_2)), (0, .ref (ad G 0)), (1, .int d), (2, .int w), (3, .int k)] [.ref (ad G (gn σ)), .ref (ad G b_2)] (twinF σ b_4 t_4) 1 9
        have hY : LY (twinF σ b_4 t_4) := twinF_LY hY
        have hTs_b_2 : gT (twinF σ b_4 t_4) b_2 = (10, 0) := ty_at hY o_1
        refine h_callV C (m_X9_take hTs_b_2) caX10_281 kX9 hTs_b_2 ⟨by decide, by decide, by decide, by decide⟩ rfl rfl (Nat.le_of_ble_eq_true rfl) dX10_keep_76 ?_
        rintro v σ' ⟨rfl, h2⟩; rw [h2]; clear h2
        show hW _ _ _ _ _ _ _ _ _ _ _ _ _ 79 [(5, .ref (ad G b_4)), (4, .ref (ad G b_2)), (0, .ref (ad G 0)), (1, .int d), (2, .int w), (3, .int k)] [] (lieF (twinF σ b_4 t_4) b_2 0 (gn σ)) 1 9
        refine h_iconst C 0 dX10_keep_79 (by decide) ?_
        refine h_iret C rfl (by decide) (by decide) dX10_keep_80 ?_
        refine ⟨_, rfl, ?_⟩
        unfold keepQ
        simp only [o_1]
        rw [if_neg q_15_0, if_pos q_15_1]
        simp only [o_3]
        rw [hT_4]
        first | exact ⟨rfl, rfl⟩ | exact ⟨trivial, rfl⟩ | exact ⟨trivial, trivial⟩ | trivial
    by_cases q_15_2 : w = 2
    · refine h_tableIn C 113 dX10_keep_15 (by rw [q_15_2]; decide) (by rw [q_15_2]; decide) (by rw [q_15_2]; rfl) (by decide) ?_
      refine h_iconst C (-1) dX10_keep_113 (by decide) ?_
      refine h_iret C rfl (Nat.zero_le _) (Nat.zero_le _) dX10_keep_114 ?_
      refine ⟨_, rfl, ?_⟩
      unfold keepQ
      simp only [o_1]
      rw [if_neg q_15_0, if_neg q_15_1, if_neg (by rw [q_15_2]; decide), if_neg (by rw [q_15_2]; decide)]
      first | exact ⟨rfl, rfl⟩ | exact ⟨trivial, rfl⟩ | exact ⟨trivial, trivial⟩ | trivial
    by_cases q_15_3 : w = 3
    · refine h_tableIn C 81 dX10_keep_15 (by rw [q_15_3]; decide) (by rw [q_15_3]; decide) (by rw [q_15_3]; rfl) (by decide) ?_
      refine h_aload C 0 dX10_keep_81 rfl ?_
      refine h_aload_n C 1 dX10_keep_83 rfl rfl ?_
      refine h_callV C (m_X10_wrenchRow hY hP hf) caX10_285 kX10 (ty_0 hY) ⟨by decide, by decide, by decide, by decide⟩ rfl rfl (Nat.le_of_ble_eq_true rfl) dX10_keep_84 ?_
      rintro v σ' ⟨rfl, h2⟩; rw [h2]; clear h2
      show hW _ _ _ _ _ _ _ _ _ _ _ _ _ 87 [(4, .ref (ad G b_2)), (0, .ref (ad G 0)), (1, .int d), (2, .int w), (3, .int k)] [.ref (ad G (gn σ)), .ref (ad G b_2)] (wrowF σ) 1 30
      have hY : LY (wrowF σ) := wrowF_LY hY
      have hTs_b_2 : gT (wrowF σ) b_2 = (10, 0) := ty_at hY o_1
      refine h_callV C (m_X9_takeInts hTs_b_2) caX10_289 kX9 hTs_b_2 ⟨by decide, by decide, by decide, by decide⟩ rfl rfl (Nat.le_of_ble_eq_true rfl) dX10_keep_87 ?_
      rintro v σ' ⟨rfl, h2⟩; rw [h2]; clear h2
      show hW _ _ _ _ _ _ _ _ _ _ _ _ _ 90 [(4, .ref (ad G b_2)), (0, .ref (ad G 0)), (1, .int d), (2, .int w), (3, .int k)] [] (lieF (wrowF σ) b_2 1 (gn σ)) 1 30
      refine h_iconst C 0 dX10_keep_90 (by decide) ?_
      refine h_iret C rfl (by decide) (by decide) dX10_keep_91 ?_
      refine ⟨_, rfl, ?_⟩
      unfold keepQ
      simp only [o_1]
      rw [if_neg q_15_0, if_neg q_15_1, if_pos q_15_3]
      first | exact ⟨rfl, rfl⟩ | exact ⟨trivial, rfl⟩ | exact ⟨trivial, trivial⟩ | trivial
    by_cases q_15_4 : w = 4
    · refine h_tableIn C 92 dX10_keep_15 (by rw [q_15_4]; decide) (by rw [q_15_4]; decide) (by rw [q_15_4]; rfl) (by decide) ?_
      refine h_aload_n C 1 dX10_keep_92 rfl rfl ?_
      refine gfX10_54 C (ty_0 hY) dX10_keep_93 ?_
      refine h_tref (b := 26) (rf_0_8 hY) ?_
      refine h_callV C (m_X8_findFewest hY hs0 hs1) caX10_242 kX8 (ty_26 hY) ⟨by decide, by decide, by decide, by decide⟩ rfl rfl (Nat.le_of_ble_eq_true rfl) dX10_keep_96 ?_
      rintro v σ1 ⟨rfl, hfw⟩
      have hY : LY σ1 := fewQ_LY hfw hY
      show hW _ _ _ _ _ _ _ _ _ _ _ _ _ 99 [(4, .ref (ad G b_2)), (0, .ref (ad G 0)), (1, .int d), (2, .int w), (3, .int k)] [] σ1 0 0
      refine h_aload C 0 dX10_keep_99 rfl ?_
      refine h_aload_n C 1 dX10_keep_101 rfl rfl ?_
      refine gfX10_54 C (ty_0 hY) dX10_keep_102 ?_
      refine h_tref (b := 26) (rf_0_8 hY) ?_
      refine h_callV C (m_X8_sideRow hY) caX10_293 kX8 (ty_26 hY) ⟨by decide, by decide, by decide, by decide⟩ rfl rfl (Nat.le_of_ble_eq_true rfl) dX10_keep_105 ?_
      rintro v σ' ⟨rfl, h2⟩; rw [h2]; clear h2
      show hW _ _ _ _ _ _ _ _ _ _ _ _ _ 108 [(4, .ref (ad G b_2)), (0, .ref (ad G 0)), (1, .int d), (2, .int w), (3, .int k)] [.ref (ad G (gn σ1)), .ref (ad G b_2)] (sideF σ1) 1 12
      have hY : LY (sideF σ1) := sideF_LY hY
      have hTs_b_2 : gT (sideF σ1) b_2 = (10, 0) := ty_at hY o_1
      refine h_callV C (m_X9_takeBytes hTs_b_2) caX10_297 kX9 hTs_b_2 ⟨by decide, by decide, by decide, by decide⟩ rfl rfl (Nat.le_of_ble_eq_true rfl) dX10_keep_108 ?_
      rintro v σ' ⟨rfl, h2⟩; rw [h2]; clear h2
      show hW _ _ _ _ _ _ _ _ _ _ _ _ _ 111 [(4, .ref (ad G b_2)), (0, .ref (ad G 0)), (1, .int d), (2, .int w), (3, .int k)] [] (lieF (sideF σ1) b_2 2 (gn σ1)) 1 12
      refine h_iconst C 0 dX10_keep_111 (by decide) ?_
      refine h_iret C rfl (by decide) (by decide) dX10_keep_112 ?_
      refine ⟨_, rfl, ?_⟩
      unfold keepQ
      simp only [o_1]
      rw [if_neg q_15_0, if_neg q_15_1, if_neg q_15_3, if_pos q_15_4]
      first | exact ⟨rfl, σ1, hfw, rfl⟩ | exact ⟨trivial, σ1, hfw, rfl⟩
    refine h_tableOut C 113 dX10_keep_15 (by have e_0 := lv_neT q_15_0 (a := 0) (by decide); have e_1 := lv_neT q_15_1 (a := 1) (by decide); have e_2 := lv_neT q_15_2 (a := 2) (by decide); have e_3 := lv_neT q_15_3 (a := 3) (by decide); have e_4 := lv_neT q_15_4 (a := 4) (by decide); omega) (by decide) ?_
    refine h_iconst C (-1) dX10_keep_113 (by decide) ?_
    refine h_iret C rfl (Nat.zero_le _) (Nat.zero_le _) dX10_keep_114 ?_
    refine ⟨_, rfl, ?_⟩
    unfold keepQ
    simp only [o_1]
    rw [if_neg q_15_0, if_neg q_15_1, if_neg q_15_3, if_neg q_15_4]
    first | exact ⟨rfl, rfl⟩ | exact ⟨trivial, rfl⟩ | exact ⟨trivial, trivial⟩ | trivial
set_option maxRecDepth 100000 in
set_option maxHeartbeats 4000000 in
theorem m_X10_make {G : ha_G} {l : Launch} {σ : ha_St} {d w nn : Int32} (hY : LY σ) (hP : PN σ) (hSH : SH σ) : hM G l yX10_make cX10_make 5 (some .int) { frames := 2, cells := 1, slots := 60, locals := 41 } [.ref (ad G 0), .int d, .int w, .int nn] σ (fun v σ' => ∃ r, v = some (.int r) ∧ makeQ σ d w nn r σ') := by
  refine hM_ofF [(0, .ref (ad G 0)), (1, .int d), (2, .int w), (3, .int nn)] (by decide +kernel) (Nat.le_of_ble_eq_true rfl) rfl ?_
  intro p e s m args below meth c0 C hin
  refine h_aload_n C 0 dX10_make_0 rfl rfl ?_
  refine h_iload_n C 1 dX10_make_1 rfl rfl ?_
  refine h_callV C (m_X10_shelfAt hY) caX10_270 kX10 (ty_0 hY) ⟨by decide, by decide, by decide, by decide⟩ rfl rfl (Nat.le_of_ble_eq_true rfl) dX10_make_2 ?_
  rintro v σ' ⟨rfl, h2⟩; rw [h2]; clear h2
  show hW _ _ _ _ _ _ _ _ _ _ _ _ _ 5 [(0, .ref (ad G 0)), (1, .int d), (2, .int w), (3, .int nn)] [rf G (sAt d)] σ 0 0
  refine h_topt (fun o_1 => ?_) (fun b_2 o_1 => ?_)
  · refine h_astoreN C [(4, .null), (0, .ref (ad G 0)), (1, .int d), (2, .int w), (3, .int nn)] dX10_make_5 (by decide) rfl ?_
    refine h_aloadN C 0 dX10_make_7 rfl ?_
    refine h_ifnullN C 28 dX10_make_9 (by decide) ?_
    refine h_iconst C (-1) dX10_make_28 (by decide) ?_
    refine h_iret C rfl (Nat.zero_le _) (Nat.zero_le _) dX10_make_29 ?_
    refine ⟨_, rfl, ?_⟩
    unfold makeQ
    simp only [o_1]
    first | exact ⟨rfl, rfl⟩ | exact ⟨trivial, rfl⟩ | exact ⟨trivial, trivial⟩ | trivial
  · obtain ⟨hS_b_2, hO_b_2, hl_b_2, hu_b_2⟩ := sh_at hSH o_1
    have hTs_b_2 : gT σ b_2 = (10, 0) := hS_b_2.1
    refine h_astore C [(4, .ref (ad G b_2)), (0, .ref (ad G 0)), (1, .int d), (2, .int w), (3, .int nn)] dX10_make_5 (by decide) rfl ?_
    refine h_aload C 0 dX10_make_7 rfl ?_
    refine h_ifnull C dX10_make_9 ?_
    refine h_iload_n C 3 dX10_make_12 rfl rfl ?_
    refine h_iconst C 3 dX10_make_13 (by decide) ?_
    refine h_icmp_eq C 22 dX10_make_14 (by decide) (fun c_14 => ?_) (fun c_14 => ?_)
    · refine h_iload_n C 4 dX10_make_22 rfl rfl ?_
      refine h_bipush C 60 dX10_make_23 (by decide) ?_
      refine h_icmp_le C 30 dX10_make_25 (by decide) (fun c_25 => ?_) (fun c_25 => ?_)
      · refine h_iload_n C 4 dX10_make_30 rfl rfl ?_
        refine h_if_ge C 37 dX10_make_31 (by decide) (fun c_31 => ?_) (fun c_31 => ?_)
        · have n60 : nn.toNatClampNeg ≤ 60 := by have := tn_le c_31 c_25; rw [show (60 : Int32).toNatClampNeg = 60 by decide] at this; exact this
          refine h_iload_n C 3 dX10_make_37 rfl rfl ?_
          refine h_iconst C 3 dX10_make_38 (by decide) ?_
          refine h_icmp_ne C 53 dX10_make_39 (by decide) (fun c_39 => ?_) (fun c_39 => ?_)
          · refine h_aload C 0 dX10_make_53 rfl ?_
            refine h_iload_n C 4 dX10_make_55 rfl rfl ?_
            refine h_newaB C acB (Int32.not_lt.mpr c_31) rfl (by have := n60; omega) (by decide) (by have := n60; show 0 + nn.toNatClampNeg ≤ 60; omega) dX10_make_56 ?_
            refine h_widen (Nat.le_refl _) (show 0 + nn.toNatClampNeg ≤ 60 by have := n60; omega) ?_
            have hY : LY (sN σ 22 nn.toNatClampNeg) := hY.new
            have hTs_b_2 : gT (sN σ 22 nn.toNatClampNeg) b_2 = (10, 0) := ty_at hY o_1
            refine h_callV C (m_X9_takeBytes hTs_b_2) caX10_297 kX9 hTs_b_2 ⟨by decide, by decide, by decide, by decide⟩ rfl rfl (Nat.le_of_ble_eq_true rfl) dX10_make_58 ?_
            rintro v σ' ⟨rfl, h2⟩; rw [h2]; clear h2
            show hW _ _ _ _ _ _ _ _ _ _ _ _ _ 61 [(4, .ref (ad G b_2)), (0, .ref (ad G 0)), (1, .int d), (2, .int w), (3, .int nn)] [] (lieF (sN σ 22 nn.toNatClampNeg) b_2 2 (gn σ)) 1 60
            refine h_iconst C 0 dX10_make_61 (by decide) ?_
            refine h_iret C rfl (by decide) (by decide) dX10_make_62 ?_
            refine ⟨_, rfl, ?_⟩
            unfold makeQ
            simp only [o_1]
            rw [if_pos ⟨(Or.inl c_14), c_25⟩]
            rw [if_neg (Int32.not_lt.mpr c_31), if_neg c_39]
            first | exact ⟨rfl, rfl⟩ | exact ⟨trivial, rfl⟩ | exact ⟨trivial, trivial⟩ | trivial
          · refine h_aload C 0 dX10_make_42 rfl ?_
            refine h_iload_n C 4 dX10_make_44 rfl rfl ?_
            refine h_newaI C acI (Int32.not_lt.mpr c_31) rfl (by have := n60; omega) (by decide) (by have := n60; show 0 + nn.toNatClampNeg ≤ 60; omega) dX10_make_45 ?_
            refine h_widen (Nat.le_refl _) (show 0 + nn.toNatClampNeg ≤ 60 by have := n60; omega) ?_
            have hY : LY (sN σ 20 nn.toNatClampNeg) := hY.new
            have hTs_b_2 : gT (sN σ 20 nn.toNatClampNeg) b_2 = (10, 0) := ty_at hY o_1
            refine h_callV C (m_X9_takeInts hTs_b_2) caX10_289 kX9 hTs_b_2 ⟨by decide, by decide, by decide, by decide⟩ rfl rfl (Nat.le_of_ble_eq_true rfl) dX10_make_47 ?_
            rintro v σ' ⟨rfl, h2⟩; rw [h2]; clear h2
            show hW _ _ _ _ _ _ _ _ _ _ _ _ _ 50 [(4, .ref (ad G b_2)), (0, .ref (ad G 0)), (1, .int d), (2, .int w), (3, .int nn)] [] (lieF (sN σ 20 nn.toNatClampNeg) b_2 1 (gn σ)) 1 60
            refine h_goto C 61 dX10_make_50 (by decide) ?_
            refine h_iconst C 0 dX10_make_61 (by decide) ?_
            refine h_iret C rfl (by decide) (by decide) dX10_make_62 ?_
            refine ⟨_, rfl, ?_⟩
            unfold makeQ
            simp only [o_1]
            rw [if_pos ⟨(Or.inl c_14), c_25⟩]
            rw [if_neg (Int32.not_lt.mpr c_31), if_pos c_39]
            first | exact ⟨rfl, rfl⟩ | exact ⟨trivial, rfl⟩ | exact ⟨trivial, trivial⟩ | trivial
        · refine h_bipush C (-14) dX10_make_34 (by decide) ?_
          refine h_iret C rfl (Nat.zero_le _) (Nat.zero_le _) dX10_make_36 ?_
          refine ⟨_, rfl, ?_⟩
          unfold makeQ
          simp only [o_1]
          rw [if_pos ⟨(Or.inl c_14), c_25⟩]
          rw [if_pos (Int32.not_le.mp c_31)]
          first | exact ⟨rfl, rfl⟩ | exact ⟨trivial, rfl⟩ | exact ⟨trivial, trivial⟩ | trivial
      · refine h_iconst C (-1) dX10_make_28 (by decide) ?_
        refine h_iret C rfl (Nat.zero_le _) (Nat.zero_le _) dX10_make_29 ?_
        refine ⟨_, rfl, ?_⟩
        unfold makeQ
        simp only [o_1]
        rw [if_neg (fun q => c_25 q.2)]
        first | exact ⟨rfl, rfl⟩ | exact ⟨trivial, rfl⟩ | exact ⟨trivial, trivial⟩ | trivial
    · refine h_iload_n C 3 dX10_make_17 rfl rfl ?_
      refine h_iconst C 4 dX10_make_18 (by decide) ?_
      refine h_icmp_ne C 28 dX10_make_19 (by decide) (fun c_19 => ?_) (fun c_19 => ?_)
      · refine h_iconst C (-1) dX10_make_28 (by decide) ?_
        refine h_iret C rfl (Nat.zero_le _) (Nat.zero_le _) dX10_make_29 ?_
        refine ⟨_, rfl, ?_⟩
        unfold makeQ
        simp only [o_1]
        rw [if_neg (fun q => q.1.elim c_14 c_19)]
        first | exact ⟨rfl, rfl⟩ | exact ⟨trivial, rfl⟩ | exact ⟨trivial, trivial⟩ | trivial
      · refine h_iload_n C 4 dX10_make_22 rfl rfl ?_
        refine h_bipush C 60 dX10_make_23 (by decide) ?_
        refine h_icmp_le C 30 dX10_make_25 (by decide) (fun c_25 => ?_) (fun c_25 => ?_)
        · refine h_iload_n C 4 dX10_make_30 rfl rfl ?_
          refine h_if_ge C 37 dX10_make_31 (by decide) (fun c_31 => ?_) (fun c_31 => ?_)
          · have n60 : nn.toNatClampNeg ≤ 60 := by have := tn_le c_31 c_25; rw [show (60 : Int32).toNatClampNeg = 60 by decide] at this; exact this
            refine h_iload_n C 3 dX10_make_37 rfl rfl ?_
            refine h_iconst C 3 dX10_make_38 (by decide) ?_
            refine h_icmp_ne C 53 dX10_make_39 (by decide) (fun c_39 => ?_) (fun c_39 => ?_)
            · refine h_aload C 0 dX10_make_53 rfl ?_
              refine h_iload_n C 4 dX10_make_55 rfl rfl ?_
              refine h_newaB C acB (Int32.not_lt.mpr c_31) rfl (by have := n60; omega) (by decide) (by have := n60; show 0 + nn.toNatClampNeg ≤ 60; omega) dX10_make_56 ?_
              refine h_widen (Nat.le_refl _) (show 0 + nn.toNatClampNeg ≤ 60 by have := n60; omega) ?_
              have hY : LY (sN σ 22 nn.toNatClampNeg) := hY.new
              have hTs_b_2 : gT (sN σ 22 nn.toNatClampNeg) b_2 = (10, 0) := ty_at hY o_1
              refine h_callV C (m_X9_takeBytes hTs_b_2) caX10_297 kX9 hTs_b_2 ⟨by decide, by decide, by decide, by decide⟩ rfl rfl (Nat.le_of_ble_eq_true rfl) dX10_make_58 ?_
              rintro v σ' ⟨rfl, h2⟩; rw [h2]; clear h2
              show hW _ _ _ _ _ _ _ _ _ _ _ _ _ 61 [(4, .ref (ad G b_2)), (0, .ref (ad G 0)), (1, .int d), (2, .int w), (3, .int nn)] [] (lieF (sN σ 22 nn.toNatClampNeg) b_2 2 (gn σ)) 1 60
              refine h_iconst C 0 dX10_make_61 (by decide) ?_
              refine h_iret C rfl (by decide) (by decide) dX10_make_62 ?_
              refine ⟨_, rfl, ?_⟩
              unfold makeQ
              simp only [o_1]
              rw [if_pos ⟨(Or.inr c_19), c_25⟩]
              rw [if_neg (Int32.not_lt.mpr c_31), if_neg c_39]
              first | exact ⟨rfl, rfl⟩ | exact ⟨trivial, rfl⟩ | exact ⟨trivial, trivial⟩ | trivial
            · refine h_aload C 0 dX10_make_42 rfl ?_
              refine h_iload_n C 4 dX10_make_44 rfl rfl ?_
              refine h_newaI C acI (Int32.not_lt.mpr c_31) rfl (by have := n60; omega) (by decide) (by have := n60; show 0 + nn.toNatClampNeg ≤ 60; omega) dX10_make_45 ?_
              refine h_widen (Nat.le_refl _) (show 0 + nn.toNatClampNeg ≤ 60 by have := n60; omega) ?_
              have hY : LY (sN σ 20 nn.toNatClampNeg) := hY.new
              have hTs_b_2 : gT (sN σ 20 nn.toNatClampNeg) b_2 = (10, 0) := ty_at hY o_1
              refine h_callV C (m_X9_takeInts hTs_b_2) caX10_289 kX9 hTs_b_2 ⟨by decide, by decide, by decide, by decide⟩ rfl rfl (Nat.le_of_ble_eq_true rfl) dX10_make_47 ?_
              rintro v σ' ⟨rfl, h2⟩; rw [h2]; clear h2
              show hW _ _ _ _ _ _ _ _ _ _ _ _ _ 50 [(4, .ref (ad G b_2)), (0, .ref (ad G 0)), (1, .int d), (2, .int w), (3, .int nn)] [] (lieF (sN σ 20 nn.toNatClampNeg) b_2 1 (gn σ)) 1 60
              refine h_goto C 61 dX10_make_50 (by decide) ?_
              refine h_iconst C 0 dX10_make_61 (by decide) ?_
              refine h_iret C rfl (by decide) (by decide) dX10_make_62 ?_
              refine ⟨_, rfl, ?_⟩
              unfold makeQ
              simp only [o_1]
              rw [if_pos ⟨(Or.inr c_19), c_25⟩]
              rw [if_neg (Int32.not_lt.mpr c_31), if_pos c_39]
              first | exact ⟨rfl, rfl⟩ | exact ⟨trivial, rfl⟩ | exact ⟨trivial, trivial⟩ | trivial
          · refine h_bipush C (-14) dX10_make_34 (by decide) ?_
            refine h_iret C rfl (Nat.zero_le _) (Nat.zero_le _) dX10_make_36 ?_
            refine ⟨_, rfl, ?_⟩
            unfold makeQ
            simp only [o_1]
            rw [if_pos ⟨(Or.inr c_19), c_25⟩]
            rw [if_pos (Int32.not_le.mp c_31)]
            first | exact ⟨rfl, rfl⟩ | exact ⟨trivial, rfl⟩ | exact ⟨trivial, trivial⟩ | trivial
        · refine h_iconst C (-1) dX10_make_28 (by decide) ?_
          refine h_iret C rfl (Nat.zero_le _) (Nat.zero_le _) dX10_make_29 ?_
          refine ⟨_, rfl, ?_⟩
          unfold makeQ
          simp only [o_1]
          rw [if_neg (fun q => c_25 q.2)]
          first | exact ⟨rfl, rfl⟩ | exact ⟨trivial, rfl⟩ | exact ⟨trivial, trivial⟩ | trivial
set_option maxRecDepth 100000 in
set_option maxHeartbeats 4000000 in
theorem m_X10_copy {G : ha_G} {l : Launch} {σ : ha_St} {d i d2 j n : Int32} (hY : LY σ) (hP : PN σ) (hSH : SH σ) : hM G l yX10_copy cX10_copy 8 (some .int) { frames := 2, cells := 0, slots := 0, locals := 62 } [.ref (ad G 0), .int d, .int i, .int d2, .int j, .int n] σ (fun v σ' => ∃ r, v = some (.int r) ∧ copyQ σ d i d2 j n r σ') := by
  refine hM_ofF [(0, .ref (ad G 0)), (1, .int d), (2, .int i), (3, .int d2), (4, .int j), (5, .int n)] (by decide +kernel) (Nat.le_of_ble_eq_true rfl) rfl ?_
  intro p e s m args below meth c0 C hin
  refine h_aload_n C 0 dX10_copy_0 rfl rfl ?_
  refine h_iload_n C 1 dX10_copy_1 rfl rfl ?_
  refine h_callV C (m_X10_shelfAt hY) caX10_270 kX10 (ty_0 hY) ⟨by decide, by decide, by decide, by decide⟩ rfl rfl (Nat.le_of_ble_eq_true rfl) dX10_copy_2 ?_
  rintro v σ' ⟨rfl, h2⟩; rw [h2]; clear h2
  show hW _ _ _ _ _ _ _ _ _ _ _ _ _ 5 [(0, .ref (ad G 0)), (1, .int d), (2, .int i), (3, .int d2), (4, .int j), (5, .int n)] [rf G (sAt d)] σ 0 0
  refine h_topt (fun o_1 => ?_) (fun b_2 o_1 => ?_)
  · refine h_astoreN C [(6, .null), (0, .ref (ad G 0)), (1, .int d), (2, .int i), (3, .int d2), (4, .int j), (5, .int n)] dX10_copy_5 (by decide) rfl ?_
    refine h_aload_n C 1 dX10_copy_7 rfl rfl ?_
    refine h_iload_n C 4 dX10_copy_8 rfl rfl ?_
    refine h_callV C (m_X10_shelfAt hY) caX10_270 kX10 (ty_0 hY) ⟨by decide, by decide, by decide, by decide⟩ rfl rfl (Nat.le_of_ble_eq_true rfl) dX10_copy_9 ?_
    rintro v σ' ⟨rfl, h2⟩; rw [h2]; clear h2
    show hW _ _ _ _ _ _ _ _ _ _ _ _ _ 12 [(6, .null), (0, .ref (ad G 0)), (1, .int d), (2, .int i), (3, .int d2), (4, .int j), (5, .int n)] [rf G (sAt d2)] σ 0 0
    refine h_topt (fun o_3 => ?_) (fun b_4 o_3 => ?_)
    · refine h_astoreN C [(7, .null), (6, .null), (0, .ref (ad G 0)), (1, .int d), (2, .int i), (3, .int d2), (4, .int j), (5, .int n)] dX10_copy_12 (by decide) rfl ?_
      refine h_aloadN C 1 dX10_copy_14 rfl ?_
      refine h_ifnullN C 24 dX10_copy_16 (by decide) ?_
      refine h_iconst C (-1) dX10_copy_24 (by decide) ?_
      refine h_iret C rfl (Nat.zero_le _) (Nat.zero_le _) dX10_copy_25 ?_
      refine ⟨_, rfl, ?_⟩
      unfold copyQ
      simp only [o_1, o_3]
      first | exact ⟨rfl, rfl⟩ | exact ⟨trivial, rfl⟩ | exact ⟨trivial, trivial⟩ | trivial
    · obtain ⟨hS_b_4, hO_b_4, hl_b_4, hu_b_4⟩ := sh_at hSH o_3
      have hTs_b_4 : gT σ b_4 = (10, 0) := hS_b_4.1
      refine h_astore C [(7, .ref (ad G b_4)), (6, .null), (0, .ref (ad G 0)), (1, .int d), (2, .int i), (3, .int d2), (4, .int j), (5, .int n)] dX10_copy_12 (by decide) rfl ?_
      refine h_aloadN C 1 dX10_copy_14 rfl ?_
      refine h_ifnullN C 24 dX10_copy_16 (by decide) ?_
      refine h_iconst C (-1) dX10_copy_24 (by decide) ?_
      refine h_iret C rfl (Nat.zero_le _) (Nat.zero_le _) dX10_copy_25 ?_
      refine ⟨_, rfl, ?_⟩
      unfold copyQ
      simp only [o_1, o_3]
      first | exact ⟨rfl, rfl⟩ | exact ⟨trivial, rfl⟩ | exact ⟨trivial, trivial⟩ | trivial
  · obtain ⟨hS_b_2, hO_b_2, hl_b_2, hu_b_2⟩ := sh_at hSH o_1
    have hTs_b_2 : gT σ b_2 = (10, 0) := hS_b_2.1
    refine h_astore C [(6, .ref (ad G b_2)), (0, .ref (ad G 0)), (1, .int d), (2, .int i), (3, .int d2), (4, .int j), (5, .int n)] dX10_copy_5 (by decide) rfl ?_
    refine h_aload_n C 1 dX10_copy_7 rfl rfl ?_
    refine h_iload_n C 4 dX10_copy_8 rfl rfl ?_
    refine h_callV C (m_X10_shelfAt hY) caX10_270 kX10 (ty_0 hY) ⟨by decide, by decide, by decide, by decide⟩ rfl rfl (Nat.le_of_ble_eq_true rfl) dX10_copy_9 ?_
    rintro v σ' ⟨rfl, h2⟩; rw [h2]; clear h2
    show hW _ _ _ _ _ _ _ _ _ _ _ _ _ 12 [(6, .ref (ad G b_2)), (0, .ref (ad G 0)), (1, .int d), (2, .int i), (3, .int d2), (4, .int j), (5, .int n)] [rf G (sAt d2)] σ 0 0
    refine h_topt (fun o_5 => ?_) (fun b_6 o_5 => ?_)
    · refine h_astoreN C [(7, .null), (6, .ref (ad G b_2)), (0, .ref (ad G 0)), (1, .int d), (2, .int i), (3, .int d2), (4, .int j), (5, .int n)] dX10_copy_12 (by decide) rfl ?_
      refine h_aload C 1 dX10_copy_14 rfl ?_
      refine h_ifnull C dX10_copy_16 ?_
      refine h_aloadN C 0 dX10_copy_19 rfl ?_
      refine h_ifnonnullN C dX10_copy_21 ?_
      refine h_iconst C (-1) dX10_copy_24 (by decide) ?_
      refine h_iret C rfl (Nat.zero_le _) (Nat.zero_le _) dX10_copy_25 ?_
      refine ⟨_, rfl, ?_⟩
      unfold copyQ
      simp only [o_1, o_5]
      first | exact ⟨rfl, rfl⟩ | exact ⟨trivial, rfl⟩ | exact ⟨trivial, trivial⟩ | trivial
    · obtain ⟨hS_b_6, hO_b_6, hl_b_6, hu_b_6⟩ := sh_at hSH o_5
      have hTs_b_6 : gT σ b_6 = (10, 0) := hS_b_6.1
      refine h_astore C [(7, .ref (ad G b_6)), (6, .ref (ad G b_2)), (0, .ref (ad G 0)), (1, .int d), (2, .int i), (3, .int d2), (4, .int j), (5, .int n)] dX10_copy_12 (by decide) rfl ?_
      refine h_aload C 1 dX10_copy_14 rfl ?_
      refine h_ifnull C dX10_copy_16 ?_
      refine h_aload C 0 dX10_copy_19 rfl ?_
      refine h_ifnonnull C 26 dX10_copy_21 (by decide) ?_
      refine h_aload C 1 dX10_copy_26 rfl ?_
      refine h_callV C (m_X9_isBare hS_b_2) caX10_312 kX9 hTs_b_2 ⟨by decide, by decide, by decide, by decide⟩ rfl rfl (Nat.le_of_ble_eq_true rfl) dX10_copy_28 ?_
      rintro v σ' ⟨⟨r_28, rfl, hb_28⟩, h2⟩; rw [h2]; clear h2
      show hW _ _ _ _ _ _ _ _ _ _ _ _ _ 31 [(7, .ref (ad G b_6)), (6, .ref (ad G b_2)), (0, .ref (ad G 0)), (1, .int d), (2, .int i), (3, .int d2), (4, .int j), (5, .int n)] [.int r_28] σ 0 0
      refine h_if_ne C 42 dX10_copy_31 (by decide) (fun c_31 => ?_) (fun c_31 => ?_)
      · refine h_bipush C (-11) dX10_copy_42 (by decide) ?_
        refine h_iret C rfl (Nat.zero_le _) (Nat.zero_le _) dX10_copy_44 ?_
        refine ⟨_, rfl, ?_⟩
        unfold copyQ
        simp only [o_1, o_5]
        rw [if_pos (Or.inl (isB_1 hb_28 c_31))]
        first | exact ⟨rfl, rfl⟩ | exact ⟨trivial, rfl⟩ | exact ⟨trivial, trivial⟩ | trivial
      · refine h_aload C 0 dX10_copy_34 rfl ?_
        refine h_callV C (m_X9_isBare hS_b_6) caX10_312 kX9 hTs_b_6 ⟨by decide, by decide, by decide, by decide⟩ rfl rfl (Nat.le_of_ble_eq_true rfl) dX10_copy_36 ?_
        rintro v σ' ⟨⟨r_36, rfl, hb_36⟩, h2⟩; rw [h2]; clear h2
        show hW _ _ _ _ _ _ _ _ _ _ _ _ _ 39 [(7, .ref (ad G b_6)), (6, .ref (ad G b_2)), (0, .ref (ad G 0)), (1, .int d), (2, .int i), (3, .int d2), (4, .int j), (5, .int n)] [.int r_36] σ 0 0
        refine h_if_eq C 45 dX10_copy_39 (by decide) (fun c_39 => ?_) (fun c_39 => ?_)
        · refine h_aload C 1 dX10_copy_45 rfl ?_
          refine h_aload C 0 dX10_copy_47 rfl ?_
          refine h_callV C (m_X9_isRowLike hS_b_2 hS_b_6) caX10_315 kX9 hTs_b_2 ⟨by decide, by decide, by decide, by decide⟩ rfl rfl (Nat.le_of_ble_eq_true rfl) dX10_copy_49 ?_
          rintro v σ' ⟨⟨r_49, rfl, hb_49⟩, h2⟩; rw [h2]; clear h2
          show hW _ _ _ _ _ _ _ _ _ _ _ _ _ 52 [(7, .ref (ad G b_6)), (6, .ref (ad G b_2)), (0, .ref (ad G 0)), (1, .int d), (2, .int i), (3, .int d2), (4, .int j), (5, .int n)] [.int r_49] σ 0 0
          refine h_if_ne C 58 dX10_copy_52 (by decide) (fun c_52 => ?_) (fun c_52 => ?_)
          · refine h_aload C 1 dX10_copy_58 rfl ?_
            refine h_iload_n C 4 dX10_copy_60 rfl rfl ?_
            refine h_iload C 7 dX10_copy_61 rfl ?_
            refine h_callV C (m_X9_hasPlaces hS_b_2) caX10_303 kX9 hTs_b_2 ⟨by decide, by decide, by decide, by decide⟩ rfl rfl (Nat.le_of_ble_eq_true rfl) dX10_copy_63 ?_
            rintro v σ' ⟨⟨r_63, rfl, hb_63⟩, h2⟩; rw [h2]; clear h2
            show hW _ _ _ _ _ _ _ _ _ _ _ _ _ 66 [(7, .ref (ad G b_6)), (6, .ref (ad G b_2)), (0, .ref (ad G 0)), (1, .int d), (2, .int i), (3, .int d2), (4, .int j), (5, .int n)] [.int r_63] σ 0 0
            refine h_if_eq C 81 dX10_copy_66 (by decide) (fun c_66 => ?_) (fun c_66 => ?_)
            · refine h_bipush C (-13) dX10_copy_81 (by decide) ?_
              refine h_iret C rfl (Nat.zero_le _) (Nat.zero_le _) dX10_copy_83 ?_
              refine ⟨_, rfl, ?_⟩
              unfold copyQ
              simp only [o_1, o_5]
              rw [if_neg (fun q => q.elim (isB_0 hb_28 c_31) (isB_0 hb_36 c_39))]
              rw [if_pos (isB_1 hb_49 c_52)]
              rw [if_neg (fun q => isB_0 hb_63 c_66 q.1)]
              first | exact ⟨rfl, rfl⟩ | exact ⟨trivial, rfl⟩ | exact ⟨trivial, trivial⟩ | trivial
            · refine h_aload C 0 dX10_copy_69 rfl ?_
              refine h_iload C 6 dX10_copy_71 rfl ?_
              refine h_iload C 7 dX10_copy_73 rfl ?_
              refine h_callV C (m_X9_hasPlaces hS_b_6) caX10_303 kX9 hTs_b_6 ⟨by decide, by decide, by decide, by decide⟩ rfl rfl (Nat.le_of_ble_eq_true rfl) dX10_copy_75 ?_
              rintro v σ' ⟨⟨r_75, rfl, hb_75⟩, h2⟩; rw [h2]; clear h2
              show hW _ _ _ _ _ _ _ _ _ _ _ _ _ 78 [(7, .ref (ad G b_6)), (6, .ref (ad G b_2)), (0, .ref (ad G 0)), (1, .int d), (2, .int i), (3, .int d2), (4, .int j), (5, .int n)] [.int r_75] σ 0 0
              refine h_if_ne C 84 dX10_copy_78 (by decide) (fun c_78 => ?_) (fun c_78 => ?_)
              · refine h_aload C 1 dX10_copy_84 rfl ?_
                refine h_iload_n C 4 dX10_copy_86 rfl rfl ?_
                refine h_aload C 0 dX10_copy_87 rfl ?_
                refine h_iload C 6 dX10_copy_89 rfl ?_
                refine h_iload C 7 dX10_copy_91 rfl ?_
                refine h_callV C (m_X9_passOn hS_b_2 hS_b_6 hO_b_2 hO_b_6) caX10_319 kX9 hTs_b_2 ⟨by decide, by decide, by decide, by decide⟩ rfl rfl (Nat.le_of_ble_eq_true rfl) dX10_copy_93 ?_
                rintro v σ' ⟨rfl, h2⟩; rw [if_pos ⟨isB_1 hb_63 c_66, isB_1 hb_75 c_78⟩] at h2; rw [h2]; clear h2
                show hW _ _ _ _ _ _ _ _ _ _ _ _ _ 96 [(7, .ref (ad G b_6)), (6, .ref (ad G b_2)), (0, .ref (ad G 0)), (1, .int d), (2, .int i), (3, .int d2), (4, .int j), (5, .int n)] [] (passF σ b_2 b_6 i j n) 0 0
                refine h_iload C 7 dX10_copy_96 rfl ?_
                refine h_iret C rfl (Nat.zero_le _) (Nat.zero_le _) dX10_copy_98 ?_
                refine ⟨_, rfl, ?_⟩
                unfold copyQ
                simp only [o_1, o_5]
                rw [if_neg (fun q => q.elim (isB_0 hb_28 c_31) (isB_0 hb_36 c_39))]
                rw [if_pos (isB_1 hb_49 c_52)]
                rw [if_pos ⟨isB_1 hb_63 c_66, isB_1 hb_75 c_78⟩]
                first | exact ⟨rfl, rfl⟩ | exact ⟨trivial, rfl⟩ | exact ⟨trivial, trivial⟩ | trivial
              · refine h_bipush C (-13) dX10_copy_81 (by decide) ?_
                refine h_iret C rfl (Nat.zero_le _) (Nat.zero_le _) dX10_copy_83 ?_
                refine ⟨_, rfl, ?_⟩
                unfold copyQ
                simp only [o_1, o_5]
                rw [if_neg (fun q => q.elim (isB_0 hb_28 c_31) (isB_0 hb_36 c_39))]
                rw [if_pos (isB_1 hb_49 c_52)]
                rw [if_neg (fun q => isB_0 hb_75 c_78 q.2)]
                first | exact ⟨rfl, rfl⟩ | exact ⟨trivial, rfl⟩ | exact ⟨trivial, trivial⟩ | trivial
          · refine h_bipush C (-12) dX10_copy_55 (by decide) ?_
            refine h_iret C rfl (Nat.zero_le _) (Nat.zero_le _) dX10_copy_57 ?_
            refine ⟨_, rfl, ?_⟩
            unfold copyQ
            simp only [o_1, o_5]
            rw [if_neg (fun q => q.elim (isB_0 hb_28 c_31) (isB_0 hb_36 c_39))]
            rw [if_neg (isB_0 hb_49 c_52)]
            first | exact ⟨rfl, rfl⟩ | exact ⟨trivial, rfl⟩ | exact ⟨trivial, trivial⟩ | trivial
        · refine h_bipush C (-11) dX10_copy_42 (by decide) ?_
          refine h_iret C rfl (Nat.zero_le _) (Nat.zero_le _) dX10_copy_44 ?_
          refine ⟨_, rfl, ?_⟩
          unfold copyQ
          simp only [o_1, o_5]
          rw [if_pos (Or.inr (isB_1 hb_36 c_39))]
          first | exact ⟨rfl, rfl⟩ | exact ⟨trivial, rfl⟩ | exact ⟨trivial, trivial⟩ | trivial
set_option maxRecDepth 100000 in
set_option maxHeartbeats 4000000 in
theorem m_X10_weight {G : ha_G} {l : Launch} {σ : ha_St} {d : Int32} (hY : LY σ) (hP : PN σ) (hSH : SH σ) : hM G l yX10_weight cX10_weight 4 (some .int) { frames := 1, cells := 0, slots := 0, locals := 21 } [.ref (ad G 0), .int d] σ (fun v σ' => v = some (.int (weightV σ d)) ∧ σ' = σ) := by
  refine hM_ofF [(0, .ref (ad G 0)), (1, .int d)] (by decide +kernel) (Nat.le_of_ble_eq_true rfl) rfl ?_
  intro p e s m args below meth c0 C hin
  refine h_aload_n C 0 dX10_weight_0 rfl rfl ?_
  refine h_iload_n C 1 dX10_weight_1 rfl rfl ?_
  refine h_callV C (m_X10_shelfAt hY) caX10_270 kX10 (ty_0 hY) ⟨by decide, by decide, by decide, by decide⟩ rfl rfl (Nat.le_of_ble_eq_true rfl) dX10_weight_2 ?_
  rintro v σ' ⟨rfl, h2⟩; rw [h2]; clear h2
  show hW _ _ _ _ _ _ _ _ _ _ _ _ _ 5 [(0, .ref (ad G 0)), (1, .int d)] [rf G (sAt d)] σ 0 0
  refine h_topt (fun o_1 => ?_) (fun b_2 o_1 => ?_)
  · refine h_astore_nN C [(2, .null), (0, .ref (ad G 0)), (1, .int d)] dX10_weight_5 rfl (by decide) rfl ?_
    refine h_aload_nN C 0 dX10_weight_6 rfl rfl ?_
    refine h_ifnonnullN C dX10_weight_7 ?_
    refine h_iconst C (-1) dX10_weight_10 (by decide) ?_
    refine h_iret C rfl (Nat.zero_le _) (Nat.zero_le _) dX10_weight_11 ?_
    refine ⟨?_, rfl⟩
    unfold weightV
    simp only [o_1]
  · obtain ⟨hS_b_2, hO_b_2, hl_b_2, hu_b_2⟩ := sh_at hSH o_1
    have hTs_b_2 : gT σ b_2 = (10, 0) := hS_b_2.1
    refine h_astore_n C [(2, .ref (ad G b_2)), (0, .ref (ad G 0)), (1, .int d)] dX10_weight_5 rfl (by decide) rfl ?_
    refine h_aload_n C 0 dX10_weight_6 rfl rfl ?_
    refine h_ifnonnull C 12 dX10_weight_7 (by decide) ?_
    refine h_aload_n C 0 dX10_weight_12 rfl rfl ?_
    refine h_callV C (m_X9_isBare hS_b_2) caX10_312 kX9 hTs_b_2 ⟨by decide, by decide, by decide, by decide⟩ rfl rfl (Nat.le_of_ble_eq_true rfl) dX10_weight_13 ?_
    rintro v σ' ⟨⟨r_13, rfl, hb_13⟩, h2⟩; rw [h2]; clear h2
    show hW _ _ _ _ _ _ _ _ _ _ _ _ _ 16 [(2, .ref (ad G b_2)), (0, .ref (ad G 0)), (1, .int d)] [.int r_13] σ 0 0
    refine h_if_eq C 22 dX10_weight_16 (by decide) (fun c_16 => ?_) (fun c_16 => ?_)
    · refine h_aload_n C 0 dX10_weight_22 rfl rfl ?_
      refine gfX10_323 C hTs_b_2 dX10_weight_23 ?_
      refine h_topt (fun o_3 => ?_) (fun b_4 o_3 => ?_)
      · refine h_astore_nN C [(3, .null), (2, .ref (ad G b_2)), (0, .ref (ad G 0)), (1, .int d)] dX10_weight_26 rfl (by decide) rfl ?_
        refine h_aload_nN C 0 dX10_weight_27 rfl rfl ?_
        refine h_ifnonnullN C dX10_weight_28 ?_
        refine h_bipush C (-12) dX10_weight_31 (by decide) ?_
        refine h_goto C 40 dX10_weight_33 (by decide) ?_
        refine h_iret C rfl (Nat.zero_le _) (Nat.zero_le _) dX10_weight_40 ?_
        refine ⟨?_, rfl⟩
        unfold weightV
        simp only [o_1]
        rw [if_neg (isB_0 hb_13 c_16)]
        simp only [o_3]
      · obtain ⟨t_4, hT_4, ht_4⟩ := hS_b_2.2.1 _ o_3
        refine h_astore_n C [(3, .ref (ad G b_4)), (2, .ref (ad G b_2)), (0, .ref (ad G 0)), (1, .int d)] dX10_weight_26 rfl (by decide) rfl ?_
        refine h_aload_n C 0 dX10_weight_27 rfl rfl ?_
        refine h_ifnonnull C 36 dX10_weight_28 (by decide) ?_
        refine h_aload_n C 0 dX10_weight_36 rfl rfl ?_
        refine cvX10_327 C hT_4 ht_4 (by decide) (by decide) (by decide) (by decide) (Nat.le_of_ble_eq_true rfl) dX10_weight_37 ?_
        refine h_iret C rfl (Nat.zero_le _) (Nat.zero_le _) dX10_weight_40 ?_
        refine ⟨?_, rfl⟩
        unfold weightV
        simp only [o_1]
        rw [if_neg (isB_0 hb_13 c_16)]
        simp only [o_3]
        rw [hT_4]
    · refine h_bipush C (-11) dX10_weight_19 (by decide) ?_
      refine h_iret C rfl (Nat.zero_le _) (Nat.zero_le _) dX10_weight_21 ?_
      refine ⟨?_, rfl⟩
      unfold weightV
      simp only [o_1]
      rw [if_pos (isB_1 hb_13 c_16)]
