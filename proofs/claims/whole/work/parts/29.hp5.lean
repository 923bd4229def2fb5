/-! ===== the class: pushes kept, held ===== -/
def clS (s : ha_St) (a : Nat) : ha_St := sL (sL (sL s 16 0 (gL s 16 0 + (pxOf s a (gT s a).1 (-1)).toInt64)) 16 1 (gL s 16 1 + (pyOf s a (gT s a).1 (-1)).toInt64)) 16 2 (gL s 16 2 + (tuOf s a (gT s a).1 (-1)).toInt64)
theorem clS_fr {s : ha_St} {a : Nat} : frX 9 17 s (clS s a) := ((frX_sL (by omega) (by omega)).tr (frX_sL (by omega) (by omega))).tr (frX_sL (by omega) (by omega))
theorem pxOf_sL {σ : ha_St} {a j : Nat} {v : Int64} : pxOf (sL σ a j v) = pxOf σ := rfl
theorem pyOf_sL {σ : ha_St} {a j : Nat} {v : Int64} : pyOf (sL σ a j v) = pyOf σ := rfl
theorem tuOf_sL {σ : ha_St} {a j : Nat} {v : Int64} : tuOf (sL σ a j v) = tuOf σ := rfl
theorem cl_eq {s : ha_St} {X Y Z : Int64} : sL (sL (sL s 16 (Int32.toNatClampNeg 0) (gL s 16 (Int32.toNatClampNeg 0) + X)) 16 (Int32.toNatClampNeg 1) (gL (sL s 16 (Int32.toNatClampNeg 0) (gL s 16 (Int32.toNatClampNeg 0) + X)) 16 (Int32.toNatClampNeg 1) + Y)) 16 (Int32.toNatClampNeg 2) (gL (sL (sL s 16 (Int32.toNatClampNeg 0) (gL s 16 (Int32.toNatClampNeg 0) + X)) 16 (Int32.toNatClampNeg 1) (gL (sL s 16 (Int32.toNatClampNeg 0) (gL s 16 (Int32.toNatClampNeg 0) + X)) 16 (Int32.toNatClampNeg 1) + Y)) 16 (Int32.toNatClampNeg 2) + Z) = sL (sL (sL s 16 0 (gL s 16 0 + X)) 16 1 (gL s 16 1 + Y)) 16 2 (gL s 16 2 + Z) := by
  rw [tn_0, tn_1, tn_2]
  simp [gL_sL]
def rpS (i : Nat) (s : ha_St) : ha_St := match cAt s (Int32.ofNat i) with
  | none => s
  | some a => if (gT s a).1 = 2 then clS s a else itF (apS a) (countOf (gT s a).1).toNatClampNeg s
def rp0 (σ : ha_St) : ha_St := sL (sL (sL (clr σ 9) 16 0 0) 16 1 0) 16 2 0
theorem rp0_eq {s : ha_St} : sL (sL (sL s 16 (Int32.toNatClampNeg 0) 0) 16 (Int32.toNatClampNeg 1) 0) 16 (Int32.toNatClampNeg 2) 0 = sL (sL (sL s 16 0 0) 16 1 0) 16 2 0 := by rw [tn_0, tn_1, tn_2]
def pushF (σ : ha_St) : ha_St := itF rpS (gI σ 0 1).toNatClampNeg (rp0 σ)
def rfrQ (σ σ' : ha_St) : Prop := (gI σ 0 5 = 0 ∧ σ' = σ) ∨ (gI σ 0 5 ≠ 0 ∧ ∃ s, bndQ (pushF σ) 9 s ∧ σ' = sI s 0 5 0 ∧ frX 9 17 σ (pushF σ) ∧ 0 ≤ gI (pushF σ) 9 3 ∧ gI (pushF σ) 9 3 ≤ 30)
theorem rp0_fr {σ : ha_St} : frX 9 17 σ (rp0 σ) := (((clr_fr.up (by omega) (by omega)).tr (frX_sL (by omega) (by omega))).tr (frX_sL (by omega) (by omega))).tr (frX_sL (by omega) (by omega))
theorem rp0_3 {σ : ha_St} : gI (rp0 σ) 9 3 = 0 := by
  show gI (clr σ 9) 9 3 = 0
  exact clr_3
set_option maxRecDepth 100000 in
set_option maxHeartbeats 4000000 in
theorem m_X10_refreshPushes {G : ha_G} {l : Launch} {σ : ha_St} (hY : LY σ) (hP : PN σ) : hM G l yX10_refreshPushes cX10_refreshPushes 3 none { frames := 5, cells := 0, slots := 0, locals := 107 } [.ref (ad G 0)] σ (fun v σ' => v = none ∧ rfrQ σ σ') := by
  have hY0 := hY
  have hP0 := hP
  refine hM_ofF [(0, .ref (ad G 0))] (by decide +kernel) (Nat.le_of_ble_eq_true rfl) rfl ?_
  intro p e s m args below meth c0 C hin
  refine h_aload_n C 0 dX10_refreshPushes_0 rfl rfl ?_
  refine gfX10_33 C (ty_0 hY) dX10_refreshPushes_1 ?_
  refine h_if_ne C 8 dX10_refreshPushes_4 (by decide) (fun c_4 => ?_) (fun c_4 => ?_)
  · refine h_aload_n C 0 dX10_refreshPushes_8 rfl rfl ?_
    refine gfX10_26 C (ty_0 hY) dX10_refreshPushes_9 ?_
    refine h_tref (b := 9) (rf_0_3 hY) ?_
    refine h_callV C (m_X2_clear (ty_9 hY)) caX10_356 kX2 (ty_9 hY) ⟨by decide, by decide, by decide, by decide⟩ rfl rfl (Nat.le_of_ble_eq_true rfl) dX10_refreshPushes_12 ?_
    rintro v σ' ⟨rfl, h2⟩; rw [show sI (sI σ 9 3 0) 9 7 0 = clr σ 9 from rfl] at h2; rw [h2]; clear h2
    show hW _ _ _ _ _ _ _ _ _ _ _ _ _ 15 [(0, .ref (ad G 0))] [] (clr σ 9) 0 0
    refine h_aload_n C 0 dX10_refreshPushes_15 rfl rfl ?_
    refine gfX10_29 C (ty_0 hY) dX10_refreshPushes_16 ?_
    refine h_tref (b := 16) (rf_0_4 hY) ?_
    refine h_iconst C 0 dX10_refreshPushes_19 (by decide) ?_
    refine h_lconst C 0 dX10_refreshPushes_20 rfl ?_
    refine h_last C _ (ty_16 hY) (vp32 (N := 3) (by decide) (by decide) (by decide)) dX10_refreshPushes_21 rfl ?_
    refine h_aload_n C 0 dX10_refreshPushes_22 rfl rfl ?_
    refine gfX10_29 C (ty_0 hY) dX10_refreshPushes_23 ?_
    refine h_tref (b := 16) (rf_0_4 hY) ?_
    refine h_iconst C 1 dX10_refreshPushes_26 (by decide) ?_
    refine h_lconst C 0 dX10_refreshPushes_27 rfl ?_
    refine h_last C _ (ty_16 hY) (vp32 (N := 3) (by decide) (by decide) (by decide)) dX10_refreshPushes_28 rfl ?_
    refine h_aload_n C 0 dX10_refreshPushes_29 rfl rfl ?_
    refine gfX10_29 C (ty_0 hY) dX10_refreshPushes_30 ?_
    refine h_tref (b := 16) (rf_0_4 hY) ?_
    refine h_iconst C 2 dX10_refreshPushes_33 (by decide) ?_
    refine h_lconst C 0 dX10_refreshPushes_34 rfl ?_
    refine h_last C _ (ty_16 hY) (vp32 (N := 3) (by decide) (by decide) (by decide)) dX10_refreshPushes_35 rfl ?_
    refine h_iconst C 0 dX10_refreshPushes_36 (by decide) ?_
    refine h_istore_n C [(1, .int 0), (0, .ref (ad G 0))] dX10_refreshPushes_37 rfl (by decide) rfl ?_
    rw [rp0_eq]
    show hW _ _ _ _ _ _ _ _ _ _ _ _ _ 38 [(1, .int 0), (0, .ref (ad G 0))] [] (rp0 σ) 0 0
    refine h_sub [1, 0] rfl ?_
    refine h_loop (α := Int32 × ha_St) (fun (i, σ1) => 0 ≤ i ∧ i ≤ gI σ 0 1 ∧ σ1 = itF rpS i.toNatClampNeg (rp0 σ) ∧ frX 9 17 σ σ1 ∧ 0 ≤ gI σ1 9 3 ∧ gI σ1 9 3 ≤ 3 * i) (fun (i, σ1) => tm (gI σ 0 1) i) (fun (i, σ1) => [(0, .ref (ad G 0)), (1, .int i)]) (fun (i, σ1) => []) (fun (i, σ1) => σ1) (fun (i, σ1) => 0) (fun (i, σ1) => 0) ?_ (0, (rp0 σ)) ?_
    · rintro ⟨i, σ1⟩ hI ih
      show hW _ _ _ _ _ _ _ _ _ _ _ _ _ 38 [(0, .ref (ad G 0)), (1, .int i)] [] σ1 0 0
      have hY : LY σ1 := hI.2.2.2.1.LY hY0
      have hP : PN σ1 := frX_PN hI.2.2.2.1 (by decide) hP0
      have hz : gI σ1 0 1 = gI σ 0 1 := by rw [(hI.2.2.2.1.2.2.2 0 (by omega)).1]
      refine h_iload_n C 1 dX10_refreshPushes_38 rfl rfl ?_
      refine h_aload_n C 0 dX10_refreshPushes_39 rfl rfl ?_
      refine gfX10_15 C (ty_0 hY) dX10_refreshPushes_40 ?_
      refine h_icmp_ge C 126 dX10_refreshPushes_43 (by decide) (fun c_43 => ?_) (fun c_43 => ?_)
      · refine h_aload_n C 0 dX10_refreshPushes_126 rfl rfl ?_
        refine gfX10_26 C (ty_0 hY) dX10_refreshPushes_127 ?_
        refine h_tref (b := 9) (rf_0_3 hY) ?_
        refine h_callV C (m_X2_bound (isC_9 hY) hI.2.2.2.2.1 (by have h1 := hI.2.2.2.2.2; have h2 := hP0.2.1; have h3 := hI.2.1; have h4 := hI.1; clear C; grind)) caX10_361 kX2 (ty_9 hY) ⟨by decide, by decide, by decide, by decide⟩ rfl rfl (Nat.le_of_ble_eq_true rfl) dX10_refreshPushes_130 ?_
        rintro v σ2 ⟨rfl, hb⟩
        have hY : LY σ2 := (bndQ_fr hb).1.X.LY hY
        show hW _ _ _ _ _ _ _ _ _ _ _ _ _ 133 [(0, .ref (ad G 0)), (1, .int i)] [] σ2 0 0
        refine h_aload_n C 0 dX10_refreshPushes_133 rfl rfl ?_
        refine h_iconst C 0 dX10_refreshPushes_134 (by decide) ?_
        refine pfX10_33 C (Or.inl rfl) (ty_0 hY) dX10_refreshPushes_135 ?_
        refine h_vret C rfl (Nat.zero_le _) (Nat.zero_le _) dX10_refreshPushes_138 ?_
        have he := eq_end hI.2.1 (by rw [← hz]; exact Int32.not_lt.mpr c_43)
        have e : σ1 = pushF σ := by rw [hI.2.2.1, he]; rfl
        refine ⟨rfl, Or.inr ⟨c_4, σ2, by rw [← e]; exact hb, rfl, by rw [← e]; exact hI.2.2.2.1, by rw [← e]; exact hI.2.2.2.2.1, ?_⟩⟩
        rw [← e]; have h1 := hI.2.2.2.2.2; have h2 := hP0.2.1; have h3 := hI.2.1; have h4 := hI.1; clear C; grind
      · refine h_aload_n C 0 dX10_refreshPushes_46 rfl rfl ?_
        refine h_iload_n C 1 dX10_refreshPushes_47 rfl rfl ?_
        refine h_callV C (m_X10_contactAt hY hP) caX10_90 kX10 (ty_0 hY) ⟨by decide, by decide, by decide, by decide⟩ rfl rfl (Nat.le_of_ble_eq_true rfl) dX10_refreshPushes_48 ?_
        rintro v σ' ⟨rfl, h2⟩; rw [h2]; clear h2
        show hW _ _ _ _ _ _ _ _ _ _ _ _ _ 51 [(0, .ref (ad G 0)), (1, .int i)] [rf G (cAt σ1 i)] σ1 0 0
        refine h_topt (fun o_1 => ?_) (fun b_2 o_1 => ?_)
        · refine h_astore_nN C [(2, .null), (0, .ref (ad G 0)), (1, .int i)] dX10_refreshPushes_51 rfl (by decide) rfl ?_
          refine h_aload_nN C 0 dX10_refreshPushes_52 rfl rfl ?_
          refine h_ifnullN C 71 dX10_refreshPushes_53 (by decide) ?_
          refine h_aload_nN C 0 dX10_refreshPushes_71 rfl rfl ?_
          refine h_ifnullN C 120 dX10_refreshPushes_72 (by decide) ?_
          refine h_iinc C [(1, .int (i + 1)), (2, .null), (0, .ref (ad G 0))] 2 (i + 1) dX10_refreshPushes_120 rfl rfl (by decide) rfl ?_
          refine h_goto C 38 dX10_refreshPushes_123 (by decide) ?_
          refine h_sub [2, 0] rfl ?_
          refine ih ((i + 1), σ1) ?_ ?_
          · have hlt : i < gI σ 0 1 := by rw [← hz]; exact Int32.not_le.mp c_43
            have h5 := hI.2.2.2.2
            have h10 := hP0.2.1
            exact absurd ⟨hI.1, Int32.not_le.mp c_43⟩ (cAt_none hP o_1)
          · rw [← hz]
            exact tm_lt (Int32.not_le.mp c_43)
        · obtain ⟨t_2, hT_2, ht_2, hb_2, hi_2, hj_2, hr_2⟩ := cAt_some hP o_1
          refine h_astore_n C [(2, .ref (ad G b_2)), (0, .ref (ad G 0)), (1, .int i)] dX10_refreshPushes_51 rfl (by decide) rfl ?_
          refine h_aload_n C 0 dX10_refreshPushes_52 rfl rfl ?_
          refine h_ifnull C dX10_refreshPushes_53 ?_
          refine h_aload_n C 0 dX10_refreshPushes_56 rfl rfl ?_
          refine cvX10_100 C hT_2 ht_2 (by decide) (by decide) (by decide) (by decide) (Nat.le_of_ble_eq_true rfl) dX10_refreshPushes_57 ?_
          refine h_if_eq C 71 dX10_refreshPushes_60 (by decide) (fun c_60 => ?_) (fun c_60 => ?_)
          · refine h_aload_n C 0 dX10_refreshPushes_71 rfl rfl ?_
            refine h_ifnull C dX10_refreshPushes_72 ?_
            refine h_aload_n C 1 dX10_refreshPushes_75 rfl rfl ?_
            refine gfX10_29 C (ty_0 hY) dX10_refreshPushes_76 ?_
            refine h_tref (b := 16) (rf_0_4 hY) ?_
            refine h_iconst C 0 dX10_refreshPushes_79 (by decide) ?_
            refine h_dup2 C dX10_refreshPushes_80 rfl rfl ?_
            refine h_lald C (ty_16 hY) (vp32 (N := 3) (by decide) (by decide) (by decide)) dX10_refreshPushes_81 ?_
            refine h_aload_n C 0 dX10_refreshPushes_82 rfl rfl ?_
            refine h_iconst C (-1) dX10_refreshPushes_83 (by decide) ?_
            refine cvX10_130 C hT_2 ht_2 (by decide) (by decide) (by decide) (by decide) (Nat.le_of_ble_eq_true rfl) dX10_refreshPushes_84 ?_
            refine h_i2l C dX10_refreshPushes_87 ?_
            refine h_ladd C dX10_refreshPushes_88 ?_
            refine h_last C _ (ty_16 hY) (vp32 (N := 3) (by decide) (by decide) (by decide)) dX10_refreshPushes_89 rfl ?_
            refine h_aload_n C 1 dX10_refreshPushes_90 rfl rfl ?_
            refine gfX10_29 C (ty_0 hY) dX10_refreshPushes_91 ?_
            refine h_tref (b := 16) (rf_0_4 hY) ?_
            refine h_iconst C 1 dX10_refreshPushes_94 (by decide) ?_
            refine h_dup2 C dX10_refreshPushes_95 rfl rfl ?_
            refine h_lald C (ty_16 hY) (vp32 (N := 3) (by decide) (by decide) (by decide)) dX10_refreshPushes_96 ?_
            refine h_aload_n C 0 dX10_refreshPushes_97 rfl rfl ?_
            refine h_iconst C (-1) dX10_refreshPushes_98 (by decide) ?_
            refine cvX10_134 C hT_2 ht_2 (by decide) (by decide) (by decide) (by decide) (Nat.le_of_ble_eq_true rfl) dX10_refreshPushes_99 ?_
            refine h_i2l C dX10_refreshPushes_102 ?_
            refine h_ladd C dX10_refreshPushes_103 ?_
            refine h_last C _ (ty_16 hY) (vp32 (N := 3) (by decide) (by decide) (by decide)) dX10_refreshPushes_104 rfl ?_
            refine h_aload_n C 1 dX10_refreshPushes_105 rfl rfl ?_
            refine gfX10_29 C (ty_0 hY) dX10_refreshPushes_106 ?_
            refine h_tref (b := 16) (rf_0_4 hY) ?_
            refine h_iconst C 2 dX10_refreshPushes_109 (by decide) ?_
            refine h_dup2 C dX10_refreshPushes_110 rfl rfl ?_
            refine h_lald C (ty_16 hY) (vp32 (N := 3) (by decide) (by decide) (by decide)) dX10_refreshPushes_111 ?_
            refine h_aload_n C 0 dX10_refreshPushes_112 rfl rfl ?_
            refine h_iconst C (-1) dX10_refreshPushes_113 (by decide) ?_
            refine cvX10_137 C hT_2 ht_2 (by decide) (by decide) (by decide) (by decide) (Nat.le_of_ble_eq_true rfl) dX10_refreshPushes_114 ?_
            refine h_i2l C dX10_refreshPushes_117 ?_
            refine h_ladd C dX10_refreshPushes_118 ?_
            refine h_last C _ (ty_16 hY) (vp32 (N := 3) (by decide) (by decide) (by decide)) dX10_refreshPushes_119 rfl ?_
            refine h_iinc C [(1, .int (i + 1)), (2, .ref (ad G b_2)), (0, .ref (ad G 0))] 2 (i + 1) dX10_refreshPushes_120 rfl rfl (by decide) rfl ?_
            refine h_goto C 38 dX10_refreshPushes_123 (by decide) ?_
            have e9 : (sL (sL (sL σ1 16 (Int32.toNatClampNeg 0) ((gL σ1 16 (Int32.toNatClampNeg 0)) + (pxOf σ1 b_2 t_2 (-1)).toInt64)) 16 (Int32.toNatClampNeg 1) ((gL (sL σ1 16 (Int32.toNatClampNeg 0) ((gL σ1 16 (Int32.toNatClampNeg 0)) + (pxOf σ1 b_2 t_2 (-1)).toInt64)) 16 (Int32.toNatClampNeg 1)) + (pyOf (sL σ1 16 (Int32.toNatClampNeg 0) ((gL σ1 16 (Int32.toNatClampNeg 0)) + (pxOf σ1 b_2 t_2 (-1)).toInt64)) b_2 t_2 (-1)).toInt64)) 16 (Int32.toNatClampNeg 2) ((gL (sL (sL σ1 16 (Int32.toNatClampNeg 0) ((gL σ1 16 (Int32.toNatClampNeg 0)) + (pxOf σ1 b_2 t_2 (-1)).toInt64)) 16 (Int32.toNatClampNeg 1) ((gL (sL σ1 16 (Int32.toNatClampNeg 0) ((gL σ1 16 (Int32.toNatClampNeg 0)) + (pxOf σ1 b_2 t_2 (-1)).toInt64)) 16 (Int32.toNatClampNeg 1)) + (pyOf (sL σ1 16 (Int32.toNatClampNeg 0) ((gL σ1 16 (Int32.toNatClampNeg 0)) + (pxOf σ1 b_2 t_2 (-1)).toInt64)) b_2 t_2 (-1)).toInt64)) 16 (Int32.toNatClampNeg 2)) + (tuOf (sL (sL σ1 16 (Int32.toNatClampNeg 0) ((gL σ1 16 (Int32.toNatClampNeg 0)) + (pxOf σ1 b_2 t_2 (-1)).toInt64)) 16 (Int32.toNatClampNeg 1) ((gL (sL σ1 16 (Int32.toNatClampNeg 0) ((gL σ1 16 (Int32.toNatClampNeg 0)) + (pxOf σ1 b_2 t_2 (-1)).toInt64)) 16 (Int32.toNatClampNeg 1)) + (pyOf (sL σ1 16 (Int32.toNatClampNeg 0) ((gL σ1 16 (Int32.toNatClampNeg 0)) + (pxOf σ1 b_2 t_2 (-1)).toInt64)) b_2 t_2 (-1)).toInt64)) b_2 t_2 (-1)).toInt64)) = clS σ1 b_2 := by rw [cl_eq]; simp only [pyOf_sL, tuOf_sL]; unfold clS; rw [hT_2]
            rw [e9]
            refine h_sub [2, 0] rfl ?_
            refine ih ((i + 1), (clS σ1 b_2)) ?_ ?_
            · have hlt : i < gI σ 0 1 := by rw [← hz]; exact Int32.not_le.mp c_43
              have h5 := hI.2.2.2.2
              have h10 := hP0.2.1
              refine ⟨(le_succ hI.1 hlt).1, (le_succ hI.1 hlt).2, ?_, hI.2.2.2.1.tr clS_fr, h5.1, by show gI σ1 9 3 ≤ _; clear C; grind⟩
              rw [tn_succ hI.1 hlt]
              show _ = rpS i.toNatClampNeg (itF rpS i.toNatClampNeg (rp0 σ))
              rw [← hI.2.2.1]
              unfold rpS
              rw [nI_tn hI.1, o_1]
              simp only [hT_2]
              rw [if_pos (pl_0 c_60)]
            · rw [← hz]
              exact tm_lt (Int32.not_le.mp c_43)
          · refine h_aload_n C 1 dX10_refreshPushes_63 rfl rfl ?_
            refine h_aload_n C 0 dX10_refreshPushes_64 rfl rfl ?_
            refine h_callV C (m_X10_addPushes hY hI.2.2.2.2.1 (by have h1 := hI.2.2.2.2.2; have h2 := hP0.2.1; have h3 := c_43; have h4 := hI.1; have h5 := hz; clear C; grind) hT_2 ht_2) caX10_367 kX10 (ty_0 hY) ⟨by decide, by decide, by decide, by decide⟩ rfl rfl (Nat.le_of_ble_eq_true rfl) dX10_refreshPushes_65 ?_
            rintro v σ3 ⟨rfl, h3, f3, z3⟩
            show hW _ _ _ _ _ _ _ _ _ _ _ _ _ 68 [(2, .ref (ad G b_2)), (0, .ref (ad G 0)), (1, .int i)] [] σ3 0 0
            refine h_goto C 120 dX10_refreshPushes_68 (by decide) ?_
            refine h_iinc C [(1, .int (i + 1)), (2, .ref (ad G b_2)), (0, .ref (ad G 0))] 2 (i + 1) dX10_refreshPushes_120 rfl rfl (by decide) rfl ?_
            refine h_goto C 38 dX10_refreshPushes_123 (by decide) ?_
            refine h_sub [2, 0] rfl ?_
            refine ih ((i + 1), σ3) ?_ ?_
            · have hlt : i < gI σ 0 1 := by rw [← hz]; exact Int32.not_le.mp c_43
              have h5 := hI.2.2.2.2
              have h10 := hP0.2.1
              refine ⟨(le_succ hI.1 hlt).1, (le_succ hI.1 hlt).2, ?_, hI.2.2.2.1.tr (f3.up (by omega) (by omega)), by rw [z3]; have := countOf_ok (t := t_2); clear C; grind, by rw [z3]; have := countOf_ok (t := t_2); clear C; grind⟩
              rw [tn_succ hI.1 hlt]
              show _ = rpS i.toNatClampNeg (itF rpS i.toNatClampNeg (rp0 σ))
              rw [← hI.2.2.1]
              unfold rpS
              rw [nI_tn hI.1, o_1]
              simp only [hT_2]
              rw [if_neg (pl_1 c_60)]
              exact h3
            · rw [← hz]
              exact tm_lt (Int32.not_le.mp c_43)
    · exact ⟨by decide, hP0.1, by rw [tn_0]; rfl, rp0_fr, by rw [rp0_3]; decide, by rw [rp0_3]; decide⟩
  · refine h_vret C rfl (Nat.zero_le _) (Nat.zero_le _) dX10_refreshPushes_7 ?_
    exact ⟨rfl, Or.inl ⟨c_4, rfl⟩⟩
