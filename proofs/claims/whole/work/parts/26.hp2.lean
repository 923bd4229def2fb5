abbrev plc (x y : Int32) : Prop := -100 ≤ x ∧ x ≤ 100 ∧ -100 ≤ y ∧ y ≤ 100
theorem pinIni_T {σ : ha_St} {a : Nat} {d x y b : Int32} : gT (pinIni σ a d x y b) = gT σ := rfl
theorem pinIni_R {σ : ha_St} {a : Nat} {d x y b : Int32} : gR (pinIni σ a d x y b) = gR σ := rfl
theorem pinIni_n {σ : ha_St} {a : Nat} {d x y b : Int32} : gn (pinIni σ a d x y b) = gn σ := rfl
theorem LY.new {σ : ha_St} (h : LY σ) {t n : Nat} : LY (sN σ t n) := by
  have hg := h.2.2
  refine ⟨fun a ha => ?_, fun q hq => ?_, ?_⟩
  · rw [gT_sN, if_neg (by omega)]; exact h.1 a ha
  · have e : q.1 < 74 := by
      have : ∀ q ∈ rfA, q.1 < 74 := by decide
      exact this q hq
    rw [gR_sN, if_neg (by omega)]
    exact h.2.1 q hq
  · rw [gn_sN]; omega
theorem LY_sR {σ : ha_St} {a j : Nat} {v : Option Nat} (h : LY σ) (ha : ∀ q ∈ rfA, q.1 ≠ a) : LY (sR σ a j v) :=
  ⟨h.1, fun q hq => by rw [gR_sR, if_neg (fun z => ha q hq z.1)]; exact h.2.1 q hq, h.2.2⟩
theorem mkPin_T {σ : ha_St} {kind d x y g b : Int32} : gT (mkPin σ kind d x y g b) = gT (sN σ (mkTag kind) 0) := by unfold mkPin; split <;> rfl
theorem mkPin_R {σ : ha_St} {kind d x y g b : Int32} : gR (mkPin σ kind d x y g b) = gR (sN σ (mkTag kind) 0) := by unfold mkPin; split <;> rfl
theorem mkPin_n {σ : ha_St} {kind d x y g b : Int32} : gn (mkPin σ kind d x y g b) = gn σ + 1 := by unfold mkPin; split <;> rfl
theorem LY_mkPin {σ : ha_St} (h : LY σ) {kind d x y g b : Int32} : LY (mkPin σ kind d x y g b) := (h.new (t := mkTag kind) (n := 0)).same mkPin_T mkPin_R mkPin_n
theorem mkPin_I {σ : ha_St} {kind d x y g b : Int32} {a : Nat} (ha : a ≠ gn σ) : gI (mkPin σ kind d x y g b) a = gI σ a := by
  funext j
  unfold mkPin pinIni
  split <;> simp [gI_sI, gI_sN, ha]
theorem mkPin_L {σ : ha_St} {kind d x y g b : Int32} {a : Nat} (ha : a ≠ gn σ) : gL (mkPin σ kind d x y g b) a = gL σ a := by
  funext j
  unfold mkPin pinIni
  split <;> simp [gL_sI, gL_sN, ha]
theorem mkPin_tag {σ : ha_St} {kind d x y g b : Int32} : gT (mkPin σ kind d x y g b) (gn σ) = (mkTag kind, 0) := by rw [mkPin_T]; exact sN_T
def okC (told x y more : Int32) : Prop := 0 ≤ told ∧ 0 ≤ more ∧ plc x y ∧ told / 10 ≤ 3 ∧ (0 ≤ told - told / 10 * 10 ∧ told - told / 10 * 10 < 8) ∧ ((if told / 10 = 1 ∨ told / 10 = 3 then 1 else 0) ≤ more / 100 ∧ more / 100 ≤ 20) ∧ more - more / 100 * 100 ≤ 20
def contF (σ : ha_St) (told x y more : Int32) : ha_St := sI (sI (sR (sI (mkPin σ (told / 10) (told - told / 10 * 10) x y (more / 100) (more - more / 100 * 100)) (gn σ) 4 (gI σ 0 1)) 1 (gI σ 0 1).toNatClampNeg (some (gn σ))) 0 1 (gI σ 0 1 + 1)) 0 5 1
def contQ (σ : ha_St) (told x y more r : Int32) (σ' : ha_St) : Prop := (¬ okC told x y more ∧ r = -1 ∧ σ' = σ) ∨ (okC told x y more ∧ ¬ gI σ 0 1 < 10 ∧ r = -2 ∧ σ' = σ) ∨ (okC told x y more ∧ gI σ 0 1 < 10 ∧ r = gI σ 0 1 ∧ σ' = contF σ told x y more)
theorem if_one {P : Prop} [Decidable P] (h : ¬ (if P then (1 : Int32) else 0) = 0) : P := by by_cases q : P; exact q; rw [if_neg q] at h; exact absurd rfl h
theorem if_nil {P : Prop} [Decidable P] (h : (if P then (1 : Int32) else 0) = 0) : ¬ P := by intro q; rw [if_pos q] at h; exact absurd h (by decide)
set_option maxRecDepth 100000 in
set_option maxHeartbeats 4000000 in
theorem m_X10_contact {G : ha_G} {l : Launch} {σ : ha_St} {told x y more : Int32} (hY : LY σ) (hP : PN σ) : hM G l yX10_contact cX10_contact 10 (some .int) { frames := 5, cells := 1, slots := 9, locals := 120 } [.ref (ad G 0), .int told, .int x, .int y, .int more] σ (fun v σ' => ∃ r, v = some (.int r) ∧ contQ σ told x y more r σ') := by
  have hY0 := hY
  have hg0 := hY.2.2
  refine hM_ofF [(0, .ref (ad G 0)), (1, .int told), (2, .int x), (3, .int y), (4, .int more)] (by decide +kernel) (Nat.le_of_ble_eq_true rfl) rfl ?_
  intro p e s m args below meth c0 C hin
  refine h_iload_n C 1 dX10_contact_0 rfl rfl ?_
  refine h_if_lt C 17 dX10_contact_1 (by decide) (fun c_1 => ?_) (fun c_1 => ?_)
  · refine h_iconst C (-1) dX10_contact_17 (by decide) ?_
    refine h_iret C rfl (Nat.zero_le _) (Nat.zero_le _) dX10_contact_18 ?_
    exact ⟨_, rfl, Or.inl ⟨fun q => absurd c_1 (Int32.not_lt.mpr q.1), rfl, rfl⟩⟩
  · refine h_iload C 4 dX10_contact_4 rfl ?_
    refine h_if_lt C 17 dX10_contact_6 (by decide) (fun c_6 => ?_) (fun c_6 => ?_)
    · refine h_iconst C (-1) dX10_contact_17 (by decide) ?_
      refine h_iret C rfl (Nat.zero_le _) (Nat.zero_le _) dX10_contact_18 ?_
      exact ⟨_, rfl, Or.inl ⟨fun q => absurd c_6 (Int32.not_lt.mpr q.2.1), rfl, rfl⟩⟩
    · refine h_iload_n C 2 dX10_contact_9 rfl rfl ?_
      refine h_iload_n C 3 dX10_contact_10 rfl rfl ?_
      refine h_callS C m_X10_isPlace caX10_72 ⟨by decide, by decide, by decide, by decide⟩ rfl rfl (Nat.le_of_ble_eq_true rfl) dX10_contact_11 ?_
      rintro v σ' ⟨rfl, h2⟩; rw [h2]; clear h2
      show hW _ _ _ _ _ _ _ _ _ _ _ _ _ 14 [(0, .ref (ad G 0)), (1, .int told), (2, .int x), (3, .int y), (4, .int more)] [.int (if -100 ≤ x ∧ x ≤ 100 ∧ -100 ≤ y ∧ y ≤ 100 then 1 else 0)] σ 0 0
      refine h_if_ne C 19 dX10_contact_14 (by decide) (fun c_14 => ?_) (fun c_14 => ?_)
      · refine h_iload_n C 1 dX10_contact_19 rfl rfl ?_
        refine h_bipush C 10 dX10_contact_20 (by decide) ?_
        refine h_idiv C dX10_contact_22 (by decide) ?_
        refine h_istore C [(5, .int (told / 10)), (0, .ref (ad G 0)), (1, .int told), (2, .int x), (3, .int y), (4, .int more)] dX10_contact_23 (by decide) rfl ?_
        refine h_iload_n C 2 dX10_contact_25 rfl rfl ?_
        refine h_bipush C 10 dX10_contact_26 (by decide) ?_
        refine h_irem C dX10_contact_28 (by decide) ?_
        refine h_istore C [(6, .int (told - told / 10 * 10)), (5, .int (told / 10)), (0, .ref (ad G 0)), (1, .int told), (2, .int x), (3, .int y), (4, .int more)] dX10_contact_29 (by decide) rfl ?_
        refine h_iload C 6 dX10_contact_31 rfl ?_
        refine h_bipush C 100 dX10_contact_33 (by decide) ?_
        refine h_idiv C dX10_contact_35 (by decide) ?_
        refine h_istore C [(7, .int (more / 100)), (6, .int (told - told / 10 * 10)), (5, .int (told / 10)), (0, .ref (ad G 0)), (1, .int told), (2, .int x), (3, .int y), (4, .int more)] dX10_contact_36 (by decide) rfl ?_
        refine h_iload C 7 dX10_contact_38 rfl ?_
        refine h_bipush C 100 dX10_contact_40 (by decide) ?_
        refine h_irem C dX10_contact_42 (by decide) ?_
        refine h_istore C [(8, .int (more - more / 100 * 100)), (7, .int (more / 100)), (6, .int (told - told / 10 * 10)), (5, .int (told / 10)), (0, .ref (ad G 0)), (1, .int told), (2, .int x), (3, .int y), (4, .int more)] dX10_contact_43 (by decide) rfl ?_
        refine h_iload C 3 dX10_contact_45 rfl ?_
        refine h_iconst C 3 dX10_contact_47 (by decide) ?_
        refine h_icmp_gt C 76 dX10_contact_48 (by decide) (fun c_48 => ?_) (fun c_48 => ?_)
        · refine h_iconst C (-1) dX10_contact_76 (by decide) ?_
          refine h_iret C rfl (Nat.zero_le _) (Nat.zero_le _) dX10_contact_77 ?_
          exact ⟨_, rfl, Or.inl ⟨fun q => absurd c_48 (Int32.not_lt.mpr q.2.2.2.1), rfl, rfl⟩⟩
        · refine h_iload C 2 dX10_contact_51 rfl ?_
          refine h_callS C m_X10_isDirection caX10_76 ⟨by decide, by decide, by decide, by decide⟩ rfl rfl (Nat.le_of_ble_eq_true rfl) dX10_contact_53 ?_
          rintro v σ' ⟨rfl, h2⟩; rw [h2]; clear h2
          show hW _ _ _ _ _ _ _ _ _ _ _ _ _ 56 [(8, .int (more - more / 100 * 100)), (7, .int (more / 100)), (6, .int (told - told / 10 * 10)), (5, .int (told / 10)), (0, .ref (ad G 0)), (1, .int told), (2, .int x), (3, .int y), (4, .int more)] [.int (if 0 ≤ (told - told / 10 * 10) ∧ (told - told / 10 * 10) < 8 then 1 else 0)] σ 0 0
          refine h_if_eq C 76 dX10_contact_56 (by decide) (fun c_56 => ?_) (fun c_56 => ?_)
          · refine h_iconst C (-1) dX10_contact_76 (by decide) ?_
            refine h_iret C rfl (Nat.zero_le _) (Nat.zero_le _) dX10_contact_77 ?_
            exact ⟨_, rfl, Or.inl ⟨fun q => if_nil c_56 q.2.2.2.2.1, rfl, rfl⟩⟩
          · refine h_iload C 3 dX10_contact_59 rfl ?_
            refine h_iload C 1 dX10_contact_61 rfl ?_
            refine h_callS C m_X10_isGrip caX10_80 ⟨by decide, by decide, by decide, by decide⟩ rfl rfl (Nat.le_of_ble_eq_true rfl) dX10_contact_63 ?_
            rintro v σ' ⟨rfl, h2⟩; rw [h2]; clear h2
            show hW _ _ _ _ _ _ _ _ _ _ _ _ _ 66 [(8, .int (more - more / 100 * 100)), (7, .int (more / 100)), (6, .int (told - told / 10 * 10)), (5, .int (told / 10)), (0, .ref (ad G 0)), (1, .int told), (2, .int x), (3, .int y), (4, .int more)] [.int (if (if (told / 10) = 1 ∨ (told / 10) = 3 then 1 else 0) ≤ (more / 100) ∧ (more / 100) ≤ 20 then 1 else 0)] σ 0 0
            refine h_if_eq C 76 dX10_contact_66 (by decide) (fun c_66 => ?_) (fun c_66 => ?_)
            · refine h_iconst C (-1) dX10_contact_76 (by decide) ?_
              refine h_iret C rfl (Nat.zero_le _) (Nat.zero_le _) dX10_contact_77 ?_
              exact ⟨_, rfl, Or.inl ⟨fun q => if_nil c_66 q.2.2.2.2.2.1, rfl, rfl⟩⟩
            · refine h_iload C 0 dX10_contact_69 rfl ?_
              refine h_bipush C 20 dX10_contact_71 (by decide) ?_
              refine h_icmp_le C 78 dX10_contact_73 (by decide) (fun c_73 => ?_) (fun c_73 => ?_)
              · refine h_aload_n C 4 dX10_contact_78 rfl rfl ?_
                refine gfX10_15 C (ty_0 hY) dX10_contact_79 ?_
                refine h_bipush C 10 dX10_contact_82 (by decide) ?_
                refine h_icmp_lt C 90 dX10_contact_84 (by decide) (fun c_84 => ?_) (fun c_84 => ?_)
                · refine h_iload C 3 dX10_contact_90 rfl ?_
                  refine h_iload C 2 dX10_contact_92 rfl ?_
                  refine h_iload_n C 6 dX10_contact_94 rfl rfl ?_
                  refine h_iload_n C 7 dX10_contact_95 rfl rfl ?_
                  refine h_iload C 1 dX10_contact_96 rfl ?_
                  refine h_iload C 0 dX10_contact_98 rfl ?_
                  refine h_callS C (m_X10_made (if_one c_56)) caX10_83 ⟨by decide, by decide, by decide, by decide⟩ rfl rfl (Nat.le_of_ble_eq_true rfl) dX10_contact_100 ?_
                  rintro v σ' ⟨rfl, h2⟩; rw [h2]; clear h2
                  show hW _ _ _ _ _ _ _ _ _ _ _ _ _ 103 [(8, .int (more - more / 100 * 100)), (7, .int (more / 100)), (6, .int (told - told / 10 * 10)), (5, .int (told / 10)), (0, .ref (ad G 0)), (1, .int told), (2, .int x), (3, .int y), (4, .int more)] [.ref (ad G (gn σ))] (mkPin σ (told / 10) (told - told / 10 * 10) x y (more / 100) (more - more / 100 * 100)) 1 9
                  have hY : LY (mkPin σ (told / 10) (told - told / 10 * 10) x y (more / 100) (more - more / 100 * 100)) := LY_mkPin hY
                  have e01 : gI (mkPin σ (told / 10) (told - told / 10 * 10) x y (more / 100) (more - more / 100 * 100)) 0 1 = gI σ 0 1 := by rw [mkPin_I (by omega)]
                  refine h_astore C [(9, .ref (ad G (gn σ))), (8, .int (more - more / 100 * 100)), (7, .int (more / 100)), (6, .int (told - told / 10 * 10)), (5, .int (told / 10)), (0, .ref (ad G 0)), (1, .int told), (2, .int x), (3, .int y), (4, .int more)] dX10_contact_103 (by decide) rfl ?_
                  refine h_aload C 0 dX10_contact_105 rfl ?_
                  refine h_aload_n C 5 dX10_contact_107 rfl rfl ?_
                  refine gfX10_15 C (ty_0 hY) dX10_contact_108 ?_
                  refine ppX10_87 C mkPin_tag mkTag_pT dX10_contact_111 ?_
                  refine h_aload_n C 5 dX10_contact_114 rfl rfl ?_
                  refine gfX10_11 C (ty_0 hY) dX10_contact_115 ?_
                  refine h_tref (b := 1) (rf_0_0 hY) ?_
                  refine h_aload_n C 5 dX10_contact_118 rfl rfl ?_
                  refine gfX10_15 C (ty_0 hY) dX10_contact_119 ?_
                  refine h_aload C 0 dX10_contact_122 rfl ?_
                  refine h_pastP C (ty_1 hY) mkPin_tag mkTag_pT (vp32 (N := 10) (by simp only [gI_sI, e01]; rw [if_neg (by have := hY0.2.2; omega)]; exact hP.1) (by simp only [gI_sI, e01]; rw [if_neg (by have := hY0.2.2; omega)]; exact c_84) (by decide)) dX10_contact_124 ?_
                  have hY : LY (sR (sI (mkPin σ (told / 10) (told - told / 10 * 10) x y (more / 100) (more - more / 100 * 100)) (gn σ) 4 (gI (mkPin σ (told / 10) (told - told / 10 * 10) x y (more / 100) (more - more / 100 * 100)) 0 1)) 1 (gI (sI (mkPin σ (told / 10) (told - told / 10 * 10) x y (more / 100) (more - more / 100 * 100)) (gn σ) 4 (gI (mkPin σ (told / 10) (told - told / 10 * 10) x y (more / 100) (more - more / 100 * 100)) 0 1)) 0 1).toNatClampNeg (some (gn σ))) := LY_sR (a := 1) hY (by decide)
                  refine h_aload_n C 5 dX10_contact_125 rfl rfl ?_
                  refine h_dup C dX10_contact_126 rfl ?_
                  refine gfX10_15 C (ty_0 hY) dX10_contact_127 ?_
                  refine h_iconst C 1 dX10_contact_130 (by decide) ?_
                  refine h_iadd C dX10_contact_131 ?_
                  refine pfX10_15 C (ty_0 hY) dX10_contact_132 ?_
                  refine h_aload_n C 5 dX10_contact_135 rfl rfl ?_
                  refine h_iconst C 1 dX10_contact_136 (by decide) ?_
                  refine pfX10_33 C (Or.inr rfl) (ty_0 hY) dX10_contact_137 ?_
                  refine h_aload_n C 5 dX10_contact_140 rfl rfl ?_
                  refine gfX10_15 C (ty_0 hY) dX10_contact_141 ?_
                  refine h_iconst C 1 dX10_contact_144 (by decide) ?_
                  refine h_isub C dX10_contact_145 ?_
                  refine h_iret C rfl (by decide) (by decide) dX10_contact_146 ?_
                  have hg := hY0.2.2
                  refine ⟨_, rfl, Or.inr (Or.inr ⟨⟨Int32.not_lt.mp c_1, Int32.not_lt.mp c_6, if_one c_14, Int32.not_lt.mp c_48, if_one c_56, if_one c_66, c_73⟩, c_84, ?_, ?_⟩)⟩
                  · simp [gI_sI, gI_sR, e01, show ¬ (0 = gn σ) by omega]
                  · unfold contF
                    simp [gI_sI, gI_sR, e01, show ¬ (0 = gn σ) by omega]
                · refine h_bipush C (-2) dX10_contact_87 (by decide) ?_
                  refine h_iret C rfl (Nat.zero_le _) (Nat.zero_le _) dX10_contact_89 ?_
                  exact ⟨_, rfl, Or.inr (Or.inl ⟨⟨Int32.not_lt.mp c_1, Int32.not_lt.mp c_6, if_one c_14, Int32.not_lt.mp c_48, if_one c_56, if_one c_66, c_73⟩, c_84, rfl, rfl⟩)⟩
              · refine h_iconst C (-1) dX10_contact_76 (by decide) ?_
                refine h_iret C rfl (Nat.zero_le _) (Nat.zero_le _) dX10_contact_77 ?_
                exact ⟨_, rfl, Or.inl ⟨fun q => c_73 q.2.2.2.2.2.2, rfl, rfl⟩⟩
      · refine h_iconst C (-1) dX10_contact_17 (by decide) ?_
        refine h_iret C rfl (Nat.zero_le _) (Nat.zero_le _) dX10_contact_18 ?_
        exact ⟨_, rfl, Or.inl ⟨fun q => if_nil c_14 q.2.2.1, rfl, rfl⟩⟩
def undoF (σ : ha_St) : ha_St := sI (sR (sI σ 0 1 (gI σ 0 1 - 1)) 1 (gI σ 0 1 - 1).toNatClampNeg none) 0 5 1
set_option maxRecDepth 100000 in
set_option maxHeartbeats 4000000 in
theorem m_X10_undo {G : ha_G} {l : Launch} {σ : ha_St} (hY : LY σ) (hP : PN σ) : hM G l yX10_undo cX10_undo 1 (some .int) { frames := 0, cells := 0, slots := 0, locals := 0 } [.ref (ad G 0)] σ (fun v σ' => ∃ r, v = some (.int r) ∧ ((gI σ 0 1 ≤ 0 ∧ r = -3 ∧ σ' = σ) ∨ (0 < gI σ 0 1 ∧ r = gI σ 0 1 - 1 ∧ σ' = undoF σ))) := by
  refine hM_ofF [(0, .ref (ad G 0))] (by decide +kernel) (Nat.le_of_ble_eq_true rfl) rfl ?_
  intro p e s m args below meth c0 C hin
  refine h_aload_n C 0 dX10_undo_0 rfl rfl ?_
  refine gfX10_15 C (ty_0 hY) dX10_undo_1 ?_
  refine h_if_gt C 10 dX10_undo_4 (by decide) (fun c_4 => ?_) (fun c_4 => ?_)
  · refine h_aload_n C 0 dX10_undo_10 rfl rfl ?_
    refine h_dup C dX10_undo_11 rfl ?_
    refine gfX10_15 C (ty_0 hY) dX10_undo_12 ?_
    refine h_iconst C 1 dX10_undo_15 (by decide) ?_
    refine h_isub C dX10_undo_16 ?_
    refine pfX10_15 C (ty_0 hY) dX10_undo_17 ?_
    refine h_aload_n C 0 dX10_undo_20 rfl rfl ?_
    refine gfX10_11 C (ty_0 hY) dX10_undo_21 ?_
    refine h_tref (b := 1) (rf_0_0 hY) ?_
    refine h_aload_n C 0 dX10_undo_24 rfl rfl ?_
    refine gfX10_15 C (ty_0 hY) dX10_undo_25 ?_
    refine h_null C dX10_undo_28 ?_
    refine h_pastN C (ty_1 hY) (vp32 (N := 10) (by rw [gI_sI, if_pos ⟨rfl, rfl⟩]; have := c_4; clear C; grind) (by rw [gI_sI, if_pos ⟨rfl, rfl⟩]; have := c_4; have := hP.2.1; clear C; grind) (by decide)) dX10_undo_29 ?_
    have hY : LY (sR (sI σ 0 1 ((gI σ 0 1) - 1)) 1 (gI (sI σ 0 1 ((gI σ 0 1) - 1)) 0 1).toNatClampNeg none) := LY_sR (a := 1) hY (by decide)
    refine h_aload_n C 0 dX10_undo_30 rfl rfl ?_
    refine h_iconst C 1 dX10_undo_31 (by decide) ?_
    refine pfX10_33 C (Or.inr rfl) (ty_0 hY) dX10_undo_32 ?_
    refine h_aload_n C 0 dX10_undo_35 rfl rfl ?_
    refine gfX10_15 C (ty_0 hY) dX10_undo_36 ?_
    refine h_iret C rfl (Nat.zero_le _) (Nat.zero_le _) dX10_undo_39 ?_
    refine ⟨_, rfl, Or.inr ⟨c_4, ?_, ?_⟩⟩
    · simp [gI_sI, gI_sR]
    · unfold undoF
      simp [gI_sI]
  · refine h_bipush C (-3) dX10_undo_7 (by decide) ?_
    refine h_iret C rfl (Nat.zero_le _) (Nat.zero_le _) dX10_undo_9 ?_
    exact ⟨_, rfl, Or.inl ⟨Int32.not_lt.mp c_4, rfl, rfl⟩⟩
def moveQ (σ : ha_St) (i x y r : Int32) (σ' : ha_St) : Prop := (¬ ((0 ≤ i ∧ i < gI σ 0 1) ∧ plc x y) ∧ r = -1 ∧ σ' = σ) ∨ ∃ a, cAt σ i = some a ∧ plc x y ∧ ((gI σ a 5 = x ∧ gI σ a 6 = y ∧ r = 0 ∧ σ' = σ) ∨ (¬ (gI σ a 5 = x ∧ gI σ a 6 = y) ∧ r = 1 ∧ σ' = sI (sI (sI σ a 5 x) a 6 y) 0 5 1))
theorem hif {P : Prop} [Decidable P] {h : ¬ (if P then (1 : Int32) else 0) = 0} : P := if_one h
set_option maxRecDepth 100000 in
set_option maxHeartbeats 4000000 in
theorem m_X10_move {G : ha_G} {l : Launch} {σ : ha_St} {i x y : Int32} (hY : LY σ) (hP : PN σ) : hM G l yX10_move cX10_move 5 (some .int) { frames := 2, cells := 0, slots := 0, locals := 42 } [.ref (ad G 0), .int i, .int x, .int y] σ (fun v σ' => ∃ r, v = some (.int r) ∧ moveQ σ i x y r σ') := by
  refine hM_ofF [(0, .ref (ad G 0)), (1, .int i), (2, .int x), (3, .int y)] (by decide +kernel) (Nat.le_of_ble_eq_true rfl) rfl ?_
  intro p e s m args below meth c0 C hin
  refine h_aload_n C 0 dX10_move_0 rfl rfl ?_
  refine h_iload_n C 1 dX10_move_1 rfl rfl ?_
  refine h_callV C (m_X10_contactAt hY hP) caX10_90 kX10 (ty_0 hY) ⟨by decide, by decide, by decide, by decide⟩ rfl rfl (Nat.le_of_ble_eq_true rfl) dX10_move_2 ?_
  rintro v σ' ⟨rfl, h2⟩; rw [h2]; clear h2
  show hW _ _ _ _ _ _ _ _ _ _ _ _ _ 5 [(0, .ref (ad G 0)), (1, .int i), (2, .int x), (3, .int y)] [rf G (cAt σ i)] σ 0 0
  refine h_topt (fun o_1 => ?_) (fun b_2 o_1 => ?_)
  · refine h_astoreN C [(4, .null), (0, .ref (ad G 0)), (1, .int i), (2, .int x), (3, .int y)] dX10_move_5 (by decide) rfl ?_
    refine h_aloadN C 0 dX10_move_7 rfl ?_
    refine h_ifnullN C 20 dX10_move_9 (by decide) ?_
    refine h_iconst C (-1) dX10_move_20 (by decide) ?_
    refine h_iret C rfl (Nat.zero_le _) (Nat.zero_le _) dX10_move_21 ?_
    exact ⟨_, rfl, Or.inl ⟨fun q => cAt_none hP o_1 q.1, rfl, rfl⟩⟩
  · obtain ⟨t_2, hT_2, ht_2, hb_2, hi_2, hj_2, hr_2⟩ := cAt_some hP o_1
    refine h_astore C [(4, .ref (ad G b_2)), (0, .ref (ad G 0)), (1, .int i), (2, .int x), (3, .int y)] dX10_move_5 (by decide) rfl ?_
    refine h_aload C 0 dX10_move_7 rfl ?_
    refine h_ifnull C dX10_move_9 ?_
    refine h_iload_n C 3 dX10_move_12 rfl rfl ?_
    refine h_iload_n C 4 dX10_move_13 rfl rfl ?_
    refine h_callS C m_X10_isPlace caX10_72 ⟨by decide, by decide, by decide, by decide⟩ rfl rfl (Nat.le_of_ble_eq_true rfl) dX10_move_14 ?_
    rintro v σ' ⟨rfl, h2⟩; rw [h2]; clear h2
    show hW _ _ _ _ _ _ _ _ _ _ _ _ _ 17 [(4, .ref (ad G b_2)), (0, .ref (ad G 0)), (1, .int i), (2, .int x), (3, .int y)] [.int (if -100 ≤ x ∧ x ≤ 100 ∧ -100 ≤ y ∧ y ≤ 100 then 1 else 0)] σ 0 0
    refine h_if_ne C 22 dX10_move_17 (by decide) (fun c_17 => ?_) (fun c_17 => ?_)
    · refine h_aload C 0 dX10_move_22 rfl ?_
      refine gpX10_94 C hT_2 ht_2 dX10_move_24 ?_
      refine h_iload_n C 3 dX10_move_27 rfl rfl ?_
      refine h_icmp_ne C 42 dX10_move_28 (by decide) (fun c_28 => ?_) (fun c_28 => ?_)
      · refine h_aload C 0 dX10_move_42 rfl ?_
        refine h_iload_n C 3 dX10_move_44 rfl rfl ?_
        refine ppX10_94 C hT_2 ht_2 dX10_move_45 ?_
        refine h_aload C 0 dX10_move_48 rfl ?_
        refine h_iload_n C 4 dX10_move_50 rfl rfl ?_
        refine ppX10_97 C hT_2 ht_2 dX10_move_51 ?_
        refine h_aload_n C 1 dX10_move_54 rfl rfl ?_
        refine h_iconst C 1 dX10_move_55 (by decide) ?_
        refine pfX10_33 C (Or.inr rfl) (ty_0 hY) dX10_move_56 ?_
        refine h_iconst C 1 dX10_move_59 (by decide) ?_
        refine h_iret C rfl (Nat.zero_le _) (Nat.zero_le _) dX10_move_60 ?_
        exact ⟨_, rfl, Or.inr ⟨_, o_1, if_one c_17, Or.inr ⟨fun q => c_28 q.1, rfl, rfl⟩⟩⟩
      · refine h_aload C 0 dX10_move_31 rfl ?_
        refine gpX10_97 C hT_2 ht_2 dX10_move_33 ?_
        refine h_iload_n C 4 dX10_move_36 rfl rfl ?_
        refine h_icmp_ne C 42 dX10_move_37 (by decide) (fun c_37 => ?_) (fun c_37 => ?_)
        · refine h_aload C 0 dX10_move_42 rfl ?_
          refine h_iload_n C 3 dX10_move_44 rfl rfl ?_
          refine ppX10_94 C hT_2 ht_2 dX10_move_45 ?_
          refine h_aload C 0 dX10_move_48 rfl ?_
          refine h_iload_n C 4 dX10_move_50 rfl rfl ?_
          refine ppX10_97 C hT_2 ht_2 dX10_move_51 ?_
          refine h_aload_n C 1 dX10_move_54 rfl rfl ?_
          refine h_iconst C 1 dX10_move_55 (by decide) ?_
          refine pfX10_33 C (Or.inr rfl) (ty_0 hY) dX10_move_56 ?_
          refine h_iconst C 1 dX10_move_59 (by decide) ?_
          refine h_iret C rfl (Nat.zero_le _) (Nat.zero_le _) dX10_move_60 ?_
          exact ⟨_, rfl, Or.inr ⟨_, o_1, if_one c_17, Or.inr ⟨fun q => c_37 q.2, rfl, rfl⟩⟩⟩
        · refine h_iconst C 0 dX10_move_40 (by decide) ?_
          refine h_iret C rfl (Nat.zero_le _) (Nat.zero_le _) dX10_move_41 ?_
          exact ⟨_, rfl, Or.inr ⟨_, o_1, if_one c_17, Or.inl ⟨c_28, c_37, rfl, rfl⟩⟩⟩
    · refine h_iconst C (-1) dX10_move_20 (by decide) ?_
      refine h_iret C rfl (Nat.zero_le _) (Nat.zero_le _) dX10_move_21 ?_
      exact ⟨_, rfl, Or.inl ⟨fun q => if_nil c_17 q.2, rfl, rfl⟩⟩
def missQ (σ : ha_St) (i n r : Int32) (σ' : ha_St) : Prop := (¬ ((0 ≤ i ∧ i < gI σ 0 1) ∧ 0 ≤ n ∧ n ≤ 50) ∧ r = -1 ∧ σ' = σ) ∨ ∃ a, cAt σ i = some a ∧ 0 ≤ n ∧ n ≤ 50 ∧ (((gT σ a).1 = 2 ∧ r = -4 ∧ σ' = σ) ∨ ((gT σ a).1 ≠ 2 ∧ r = gI σ a 7 ∧ σ' = sI σ a 7 n))
theorem pl_0 {t : Nat} (h : placesOf t = 0) : t = 2 := by unfold placesOf at h; by_cases q : t = 2; exact q; rw [if_neg q] at h; exact absurd h (by decide)
theorem pl_1 {t : Nat} (h : ¬ placesOf t = 0) : t ≠ 2 := by intro q; rw [q] at h; exact h (by decide)
set_option maxRecDepth 100000 in
set_option maxHeartbeats 4000000 in
theorem m_X10_miss {G : ha_G} {l : Launch} {σ : ha_St} {i n : Int32} (hY : LY σ) (hP : PN σ) : hM G l yX10_miss cX10_miss 5 (some .int) { frames := 1, cells := 0, slots := 0, locals := 21 } [.ref (ad G 0), .int i, .int n] σ (fun v σ' => ∃ r, v = some (.int r) ∧ missQ σ i n r σ') := by
  refine hM_ofF [(0, .ref (ad G 0)), (1, .int i), (2, .int n)] (by decide +kernel) (Nat.le_of_ble_eq_true rfl) rfl ?_
  intro p e s m args below meth c0 C hin
  refine h_aload_n C 0 dX10_miss_0 rfl rfl ?_
  refine h_iload_n C 1 dX10_miss_1 rfl rfl ?_
  refine h_callV C (m_X10_contactAt hY hP) caX10_90 kX10 (ty_0 hY) ⟨by decide, by decide, by decide, by decide⟩ rfl rfl (Nat.le_of_ble_eq_true rfl) dX10_miss_2 ?_
  rintro v σ' ⟨rfl, h2⟩; rw [h2]; clear h2
  show hW _ _ _ _ _ _ _ _ _ _ _ _ _ 5 [(0, .ref (ad G 0)), (1, .int i), (2, .int n)] [rf G (cAt σ i)] σ 0 0
  refine h_topt (fun o_1 => ?_) (fun b_2 o_1 => ?_)
  · refine h_astore_nN C [(3, .null), (0, .ref (ad G 0)), (1, .int i), (2, .int n)] dX10_miss_5 rfl (by decide) rfl ?_
    refine h_aload_nN C 0 dX10_miss_6 rfl rfl ?_
    refine h_ifnullN C 20 dX10_miss_7 (by decide) ?_
    refine h_iconst C (-1) dX10_miss_20 (by decide) ?_
    refine h_iret C rfl (Nat.zero_le _) (Nat.zero_le _) dX10_miss_21 ?_
    exact ⟨_, rfl, Or.inl ⟨fun q => cAt_none hP o_1 q.1, rfl, rfl⟩⟩
  · obtain ⟨t_2, hT_2, ht_2, hb_2, hi_2, hj_2, hr_2⟩ := cAt_some hP o_1
    refine h_astore_n C [(3, .ref (ad G b_2)), (0, .ref (ad G 0)), (1, .int i), (2, .int n)] dX10_miss_5 rfl (by decide) rfl ?_
    refine h_aload_n C 0 dX10_miss_6 rfl rfl ?_
    refine h_ifnull C dX10_miss_7 ?_
    refine h_iload_n C 3 dX10_miss_10 rfl rfl ?_
    refine h_if_lt C 20 dX10_miss_11 (by decide) (fun c_11 => ?_) (fun c_11 => ?_)
    · refine h_iconst C (-1) dX10_miss_20 (by decide) ?_
      refine h_iret C rfl (Nat.zero_le _) (Nat.zero_le _) dX10_miss_21 ?_
      exact ⟨_, rfl, Or.inl ⟨fun q => absurd c_11 (Int32.not_lt.mpr q.2.1), rfl, rfl⟩⟩
    · refine h_iload_n C 3 dX10_miss_14 rfl rfl ?_
      refine h_bipush C 50 dX10_miss_15 (by decide) ?_
      refine h_icmp_le C 22 dX10_miss_17 (by decide) (fun c_17 => ?_) (fun c_17 => ?_)
      · refine h_aload_n C 0 dX10_miss_22 rfl rfl ?_
        refine cvX10_100 C hT_2 ht_2 (by decide) (by decide) (by decide) (by decide) (Nat.le_of_ble_eq_true rfl) dX10_miss_23 ?_
        refine h_if_ne C 32 dX10_miss_26 (by decide) (fun c_26 => ?_) (fun c_26 => ?_)
        · refine h_aload_n C 0 dX10_miss_32 rfl rfl ?_
          refine gpX10_104 C hT_2 ht_2 dX10_miss_33 ?_
          refine h_istore C [(4, .int (gI σ b_2 7)), (3, .ref (ad G b_2)), (0, .ref (ad G 0)), (1, .int i), (2, .int n)] dX10_miss_36 (by decide) rfl ?_
          refine h_aload_n C 1 dX10_miss_38 rfl rfl ?_
          refine h_iload_n C 4 dX10_miss_39 rfl rfl ?_
          refine ppX10_104 C hT_2 ht_2 dX10_miss_40 ?_
          refine h_iload C 0 dX10_miss_43 rfl ?_
          refine h_iret C rfl (Nat.zero_le _) (Nat.zero_le _) dX10_miss_45 ?_
          exact ⟨_, rfl, Or.inr ⟨_, o_1, Int32.not_lt.mp c_11, c_17, Or.inr ⟨by rw [hT_2]; exact pl_1 c_26, rfl, rfl⟩⟩⟩
        · refine h_bipush C (-4) dX10_miss_29 (by decide) ?_
          refine h_iret C rfl (Nat.zero_le _) (Nat.zero_le _) dX10_miss_31 ?_
          exact ⟨_, rfl, Or.inr ⟨_, o_1, Int32.not_lt.mp c_11, c_17, Or.inl ⟨by rw [hT_2]; exact pl_0 c_26, rfl, rfl⟩⟩⟩
      · refine h_iconst C (-1) dX10_miss_20 (by decide) ?_
        refine h_iret C rfl (Nat.zero_le _) (Nat.zero_le _) dX10_miss_21 ?_
        exact ⟨_, rfl, Or.inl ⟨fun q => c_17 q.2.2, rfl, rfl⟩⟩
def lookV (σ : ha_St) (a : Nat) (w : Int32) : Int32 := if w = 0 then kindOf (gT σ a).1 else if w = 1 then gI σ a 0 else if w = 2 then gripOf σ a (gT σ a).1 else if w = 3 then gI σ a 3 else if w = 4 then (if (gT σ a).1 = 2 then -2 else gI σ a 7) else if w = 5 then countOf (gT σ a).1 else -1
def lookQ (σ : ha_St) (i w r : Int32) : Prop := (¬ (0 ≤ i ∧ i < gI σ 0 1) ∧ r = -1) ∨ ∃ a, cAt σ i = some a ∧ r = lookV σ a w
set_option maxRecDepth 100000 in
set_option maxHeartbeats 4000000 in
theorem m_X10_look {G : ha_G} {l : Launch} {σ : ha_St} {i w : Int32} (hY : LY σ) (hP : PN σ) : hM G l yX10_look cX10_look 4 (some .int) { frames := 1, cells := 0, slots := 0, locals := 21 } [.ref (ad G 0), .int i, .int w] σ (fun v σ' => (∃ r, v = some (.int r) ∧ lookQ σ i w r) ∧ σ' = σ) := by
  refine hM_ofF [(0, .ref (ad G 0)), (1, .int i), (2, .int w)] (by decide +kernel) (Nat.le_of_ble_eq_true rfl) rfl ?_
  intro p e s m args below meth c0 C hin
  refine h_aload_n C 0 dX10_look_0 rfl rfl ?_
  refine h_iload_n C 1 dX10_look_1 rfl rfl ?_
  refine h_callV C (m_X10_contactAt hY hP) caX10_90 kX10 (ty_0 hY) ⟨by decide, by decide, by decide, by decide⟩ rfl rfl (Nat.le_of_ble_eq_true rfl) dX10_look_2 ?_
  rintro v σ' ⟨rfl, h2⟩; rw [h2]; clear h2
  show hW _ _ _ _ _ _ _ _ _ _ _ _ _ 5 [(0, .ref (ad G 0)), (1, .int i), (2, .int w)] [rf G (cAt σ i)] σ 0 0
  refine h_topt (fun o_1 => ?_) (fun b_2 o_1 => ?_)
  · refine h_astore_nN C [(3, .null), (0, .ref (ad G 0)), (1, .int i), (2, .int w)] dX10_look_5 rfl (by decide) rfl ?_
    refine h_aload_nN C 0 dX10_look_6 rfl rfl ?_
    refine h_ifnonnullN C dX10_look_7 ?_
    refine h_iconst C (-1) dX10_look_10 (by decide) ?_
    refine h_iret C rfl (Nat.zero_le _) (Nat.zero_le _) dX10_look_11 ?_
    exact ⟨⟨_, rfl, Or.inl ⟨cAt_none hP o_1, rfl⟩⟩, rfl⟩
  · obtain ⟨t_2, hT_2, ht_2, hb_2, hi_2, hj_2, hr_2⟩ := cAt_some hP o_1
    refine h_astore_n C [(3, .ref (ad G b_2)), (0, .ref (ad G 0)), (1, .int i), (2, .int w)] dX10_look_5 rfl (by decide) rfl ?_
    refine h_aload_n C 0 dX10_look_6 rfl rfl ?_
    refine h_ifnonnull C 12 dX10_look_7 (by decide) ?_
    refine h_iload_n C 3 dX10_look_12 rfl rfl ?_
    by_cases q_13_0 : w = 0
    · refine h_tableIn C 52 dX10_look_13 (by rw [q_13_0]; decide) (by rw [q_13_0]; decide) (by rw [q_13_0]; rfl) (by decide) ?_
      refine h_aload_n C 0 dX10_look_52 rfl rfl ?_
      refine cvX10_107 C hT_2 ht_2 (by decide) (by decide) (by decide) (by decide) (Nat.le_of_ble_eq_true rfl) dX10_look_53 ?_
      refine h_iret C rfl (Nat.zero_le _) (Nat.zero_le _) dX10_look_56 ?_
      refine ⟨⟨_, rfl, Or.inr ⟨_, o_1, ?_⟩⟩, rfl⟩
      unfold lookV
      rw [hT_2]
      rw [if_pos q_13_0]
    by_cases q_13_1 : w = 1
    · refine h_tableIn C 57 dX10_look_13 (by rw [q_13_1]; decide) (by rw [q_13_1]; decide) (by rw [q_13_1]; rfl) (by decide) ?_
      refine h_aload_n C 0 dX10_look_57 rfl rfl ?_
      refine gpX10_111 C hT_2 ht_2 dX10_look_58 ?_
      refine h_iret C rfl (Nat.zero_le _) (Nat.zero_le _) dX10_look_61 ?_
      refine ⟨⟨_, rfl, Or.inr ⟨_, o_1, ?_⟩⟩, rfl⟩
      unfold lookV
      rw [hT_2]
      rw [if_neg q_13_0, if_pos q_13_1]
    by_cases q_13_2 : w = 2
    · refine h_tableIn C 62 dX10_look_13 (by rw [q_13_2]; decide) (by rw [q_13_2]; decide) (by rw [q_13_2]; rfl) (by decide) ?_
      refine h_aload_n C 0 dX10_look_62 rfl rfl ?_
      refine cvX10_114 C hT_2 ht_2 (by decide) (by decide) (by decide) (by decide) (Nat.le_of_ble_eq_true rfl) dX10_look_63 ?_
      refine h_iret C rfl (Nat.zero_le _) (Nat.zero_le _) dX10_look_66 ?_
      refine ⟨⟨_, rfl, Or.inr ⟨_, o_1, ?_⟩⟩, rfl⟩
      unfold lookV
      rw [hT_2]
      rw [if_neg q_13_0, if_neg q_13_1, if_pos q_13_2]
    by_cases q_13_3 : w = 3
    · refine h_tableIn C 67 dX10_look_13 (by rw [q_13_3]; decide) (by rw [q_13_3]; decide) (by rw [q_13_3]; rfl) (by decide) ?_
      refine h_aload_n C 0 dX10_look_67 rfl rfl ?_
      refine gpX10_117 C hT_2 ht_2 dX10_look_68 ?_
      refine h_iret C rfl (Nat.zero_le _) (Nat.zero_le _) dX10_look_71 ?_
      refine ⟨⟨_, rfl, Or.inr ⟨_, o_1, ?_⟩⟩, rfl⟩
      unfold lookV
      rw [hT_2]
      rw [if_neg q_13_0, if_neg q_13_1, if_neg q_13_2, if_pos q_13_3]
    by_cases q_13_4 : w = 4
    · refine h_tableIn C 72 dX10_look_13 (by rw [q_13_4]; decide) (by rw [q_13_4]; decide) (by rw [q_13_4]; rfl) (by decide) ?_
      refine h_aload_n C 0 dX10_look_72 rfl rfl ?_
      refine cvX10_100 C hT_2 ht_2 (by decide) (by decide) (by decide) (by decide) (Nat.le_of_ble_eq_true rfl) dX10_look_73 ?_
      refine h_if_eq C 86 dX10_look_76 (by decide) (fun c_76 => ?_) (fun c_76 => ?_)
      · refine h_bipush C (-2) dX10_look_86 (by decide) ?_
        refine h_iret C rfl (Nat.zero_le _) (Nat.zero_le _) dX10_look_88 ?_
        refine ⟨⟨_, rfl, Or.inr ⟨_, o_1, ?_⟩⟩, rfl⟩
        unfold lookV
        rw [hT_2]
        rw [if_neg q_13_0, if_neg q_13_1, if_neg q_13_2, if_neg q_13_3, if_pos q_13_4, if_pos (pl_0 c_76)]
      · refine h_aload_n C 0 dX10_look_79 rfl rfl ?_
        refine gpX10_104 C hT_2 ht_2 dX10_look_80 ?_
        refine h_goto C 88 dX10_look_83 (by decide) ?_
        refine h_iret C rfl (Nat.zero_le _) (Nat.zero_le _) dX10_look_88 ?_
        refine ⟨⟨_, rfl, Or.inr ⟨_, o_1, ?_⟩⟩, rfl⟩
        unfold lookV
        rw [hT_2]
        rw [if_neg q_13_0, if_neg q_13_1, if_neg q_13_2, if_neg q_13_3, if_pos q_13_4, if_neg (pl_1 c_76)]
    by_cases q_13_5 : w = 5
    · refine h_tableIn C 89 dX10_look_13 (by rw [q_13_5]; decide) (by rw [q_13_5]; decide) (by rw [q_13_5]; rfl) (by decide) ?_
      refine h_aload_n C 0 dX10_look_89 rfl rfl ?_
      refine cvX10_120 C hT_2 ht_2 (by decide) (by decide) (by decide) (by decide) (Nat.le_of_ble_eq_true rfl) dX10_look_90 ?_
      refine h_iret C rfl (Nat.zero_le _) (Nat.zero_le _) dX10_look_93 ?_
      refine ⟨⟨_, rfl, Or.inr ⟨_, o_1, ?_⟩⟩, rfl⟩
      unfold lookV
      rw [hT_2]
      rw [if_neg q_13_0, if_neg q_13_1, if_neg q_13_2, if_neg q_13_3, if_neg q_13_4, if_pos q_13_5]
    refine h_tableOut C 94 dX10_look_13 (by have e_0 := lv_neT q_13_0 (a := 0) (by decide); have e_1 := lv_neT q_13_1 (a := 1) (by decide); have e_2 := lv_neT q_13_2 (a := 2) (by decide); have e_3 := lv_neT q_13_3 (a := 3) (by decide); have e_4 := lv_neT q_13_4 (a := 4) (by decide); have e_5 := lv_neT q_13_5 (a := 5) (by decide); omega) (by decide) ?_
    refine h_iconst C (-1) dX10_look_94 (by decide) ?_
    refine h_iret C rfl (Nat.zero_le _) (Nat.zero_le _) dX10_look_95 ?_
    refine ⟨⟨_, rfl, Or.inr ⟨_, o_1, ?_⟩⟩, rfl⟩
    unfold lookV
    rw [hT_2]
    rw [if_neg q_13_0, if_neg q_13_1, if_neg q_13_2, if_neg q_13_3, if_neg q_13_4, if_neg q_13_5]
