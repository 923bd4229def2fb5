def pullK (i k : Nat) (s : ha_St) : ha_St := narF s (dotB s 9 k (gI s 18 i).toInt64 (gI s 19 i).toInt64 (gI s 20 i).toInt64) (dotB s 9 k (gL s 16 0) (gL s 16 1) (gL s 16 2))
def pullI (n : Nat) (i : Nat) (s : ha_St) : ha_St := itF (pullK i) n s
def pullS (σ : ha_St) : ha_St := itF (pullI (gI σ 9 7).toNatClampNeg) (gI σ 17 3).toNatClampNeg (sL (sL σ 17 4 0) 17 5 200)
/-- all but the two long numbers of the cut -/
def frU (σ σ' : ha_St) : Prop := gT σ' = gT σ ∧ gR σ' = gR σ ∧ gn σ' = gn σ ∧ gI σ' = gI σ ∧ ∀ a, a ≠ 17 → gL σ' a = gL σ a
theorem frU.rf {σ : ha_St} : frU σ σ := ⟨rfl, rfl, rfl, rfl, fun _ _ => rfl⟩
theorem frU.tr {σ σ1 σ2 : ha_St} (h : frU σ σ1) (g : frU σ1 σ2) : frU σ σ2 := ⟨g.1.trans h.1, g.2.1.trans h.2.1, g.2.2.1.trans h.2.2.1, g.2.2.2.1.trans h.2.2.2.1, fun a ha => (g.2.2.2.2 a ha).trans (h.2.2.2.2 a ha)⟩
theorem frU_sL {σ : ha_St} {j : Nat} {v : Int64} : frU σ (sL σ 17 j v) := ⟨rfl, rfl, rfl, rfl, fun a ha => funext fun x => by rw [gL_sL, if_neg (fun q => ha q.1)]⟩
theorem frU_nar {σ : ha_St} {x y : Int64} : frU σ (narF σ x y) := by
  unfold narF
  split
  · exact frU_sL
  · split
    · exact frU_sL
    · split
      · exact frU_sL
      · exact frU.rf
theorem frU.LY {σ σ' : ha_St} (h : frU σ σ') (hY : LY σ) : LY σ' := hY.same h.1 h.2.1 h.2.2.1
set_option maxRecDepth 100000 in
set_option maxHeartbeats 4000000 in
theorem m_X3_leastPull {G : ha_G} {l : Launch} {σ : ha_St} (hY : LY σ) (hn : nOK σ 9) (hs0 : 0 ≤ gI σ 17 3) (hs1 : gI σ 17 3 ≤ 16) : hM G l yX3_leastPull cX3_leastPull 5 (some .int) { frames := 2, cells := 0, slots := 0, locals := 49 } [.ref (ad G 17), .ref (ad G 9), .ref (ad G 16)] σ (fun v σ' => v = some (.int (if gL (pullS σ) 17 4 ≤ gL (pullS σ) 17 5 then (gL (pullS σ) 17 4).toInt32 else -1)) ∧ σ' = pullS σ) := by
  have hY0 := hY
  refine hM_ofF [(0, .ref (ad G 17)), (1, .ref (ad G 9)), (2, .ref (ad G 16))] (by decide +kernel) (Nat.le_of_ble_eq_true rfl) rfl ?_
  intro p e s m args below meth c0 C hin
  refine h_aload_n C 1 dX3_leastPull_0 rfl rfl ?_
  refine h_ifnull C dX3_leastPull_1 ?_
  refine h_aload_n C 2 dX3_leastPull_4 rfl rfl ?_
  refine h_ifnull C dX3_leastPull_5 ?_
  refine h_aload_n C 2 dX3_leastPull_8 rfl rfl ?_
  refine h_alen C (ty_16 hY) (by decide) dX3_leastPull_9 ?_
  refine h_iconst C 3 dX3_leastPull_10 (by decide) ?_
  refine h_icmp_ge C 16 dX3_leastPull_11 (by decide) (fun c_11 => ?_) (fun c_11 => ?_)
  · refine h_aload_n C 0 dX3_leastPull_16 rfl rfl ?_
    refine h_lconst C 0 dX3_leastPull_17 rfl ?_
    refine pfX3_25 C (ty_17 hY) dX3_leastPull_18 ?_
    refine h_aload_n C 0 dX3_leastPull_21 rfl rfl ?_
    refine h_ldc2 C 200 dX3_leastPull_22 cl_X3_32 ?_
    refine pfX3_29 C (ty_17 hY) dX3_leastPull_25 ?_
    refine h_iconst C 0 dX3_leastPull_28 (by decide) ?_
    refine h_istore_n C [(3, .int 0), (0, .ref (ad G 17)), (1, .ref (ad G 9)), (2, .ref (ad G 16))] dX3_leastPull_29 rfl (by decide) rfl ?_
    refine h_sub [1, 2, 3, 0] rfl ?_
    refine h_loop (α := Int32 × ha_St) (fun (i, σ1) => 0 ≤ i ∧ i ≤ gI σ 17 3 ∧ σ1 = itF (pullI (gI σ 9 7).toNatClampNeg) i.toNatClampNeg (sL (sL σ 17 4 0) 17 5 200) ∧ frU σ σ1) (fun (i, σ1) => tm (gI σ 17 3) i) (fun (i, σ1) => [(0, .ref (ad G 17)), (1, .ref (ad G 9)), (2, .ref (ad G 16)), (3, .int i)]) (fun (i, σ1) => []) (fun (i, σ1) => σ1) (fun (i, σ1) => 0) (fun (i, σ1) => 0) ?_ (0, (sL (sL σ 17 4 0) 17 5 200)) ?_
    · rintro ⟨i, σ1⟩ hI ih
      show hW _ _ _ _ _ _ _ _ _ _ _ _ _ 30 [(0, .ref (ad G 17)), (1, .ref (ad G 9)), (2, .ref (ad G 16)), (3, .int i)] [] σ1 0 0
      have hO := hI
      have hY : LY σ1 := hI.2.2.2.LY hY0
      have hz : gI σ1 17 3 = gI σ 17 3 := by rw [hI.2.2.2.2.2.2.1]
      refine h_iload_n C 3 dX3_leastPull_30 rfl rfl ?_
      refine h_aload_n C 0 dX3_leastPull_31 rfl rfl ?_
      refine gfX3_21 C (ty_17 hY) dX3_leastPull_32 ?_
      refine h_icmp_ge C 114 dX3_leastPull_35 (by decide) (fun c_35 => ?_) (fun c_35 => ?_)
      · refine h_aload_n C 0 dX3_leastPull_114 rfl rfl ?_
        refine gfX3_25 C (ty_17 hY) dX3_leastPull_115 ?_
        refine h_aload_n C 0 dX3_leastPull_118 rfl rfl ?_
        refine gfX3_29 C (ty_17 hY) dX3_leastPull_119 ?_
        refine h_lcmp C dX3_leastPull_122 ?_
        refine h_if_gt C 134 dX3_leastPull_123 (by decide) (fun c_123 => ?_) (fun c_123 => ?_)
        · refine h_iconst C (-1) dX3_leastPull_134 (by decide) ?_
          refine h_iret C rfl (Nat.zero_le _) (Nat.zero_le _) dX3_leastPull_135 ?_
          have he := eq_end hI.2.1 (by rw [← hz]; exact Int32.not_lt.mpr c_35)
          have e : σ1 = pullS σ := by rw [hI.2.2.1, he]; rfl
          rw [← e]
          refine ⟨?_, rfl⟩
          have hl := lg_cases (gL σ1 17 4) (gL σ1 17 5)
          first
            | rw [if_pos (by grind)]
            | rw [if_neg (by grind)]
        · refine h_aload_n C 0 dX3_leastPull_126 rfl rfl ?_
          refine gfX3_25 C (ty_17 hY) dX3_leastPull_127 ?_
          refine h_l2i C dX3_leastPull_130 ?_
          refine h_goto C 135 dX3_leastPull_131 (by decide) ?_
          refine h_iret C rfl (Nat.zero_le _) (Nat.zero_le _) dX3_leastPull_135 ?_
          have he := eq_end hI.2.1 (by rw [← hz]; exact Int32.not_lt.mpr c_35)
          have e : σ1 = pullS σ := by rw [hI.2.2.1, he]; rfl
          rw [← e]
          refine ⟨?_, rfl⟩
          have hl := lg_cases (gL σ1 17 4) (gL σ1 17 5)
          first
            | rw [if_pos (by grind)]
            | rw [if_neg (by grind)]
      · refine h_iload_n C 3 dX3_leastPull_38 rfl rfl ?_
        refine h_bipush C 16 dX3_leastPull_39 (by decide) ?_
        refine h_icmp_ge C 114 dX3_leastPull_41 (by decide) (fun c_41 => ?_) (fun c_41 => ?_)
        · exact absurd (Int32.lt_of_lt_of_le (Int32.not_le.mp c_35) (by rw [hz]; exact hs1)) (Int32.not_lt.mpr c_41)
        · have hlt : i < gI σ 17 3 := by rw [← hz]; exact Int32.not_le.mp c_35
          have ihO := ih
          refine h_iconst C 0 dX3_leastPull_44 (by decide) ?_
          refine h_istore C [(4, .int 0), (0, .ref (ad G 17)), (1, .ref (ad G 9)), (2, .ref (ad G 16)), (3, .int i)] dX3_leastPull_45 (by decide) rfl ?_
          refine h_sub [1, 2, 3, 4, 0] rfl ?_
          refine h_loop (α := Int32 × ha_St) (fun (k, σ2) => 0 ≤ k ∧ k ≤ gI σ 9 7 ∧ σ2 = itF (pullK i.toNatClampNeg) k.toNatClampNeg σ1 ∧ frU σ σ2) (fun (k, σ2) => tm (gI σ 9 7) k) (fun (k, σ2) => [(0, .ref (ad G 17)), (1, .ref (ad G 9)), (2, .ref (ad G 16)), (3, .int i), (4, .int k)]) (fun (k, σ2) => []) (fun (k, σ2) => σ2) (fun (k, σ2) => 0) (fun (k, σ2) => 0) ?_ (0, σ1) ?_
          · rintro ⟨k, σ2⟩ hI ih
            show hW _ _ _ _ _ _ _ _ _ _ _ _ _ 47 [(0, .ref (ad G 17)), (1, .ref (ad G 9)), (2, .ref (ad G 16)), (3, .int i), (4, .int k)] [] σ2 0 0
            have hY : LY σ2 := hI.2.2.2.LY hY0
            have hq : gI σ2 9 7 = gI σ 9 7 := by rw [hI.2.2.2.2.2.2.1]
            have hcn := isC_9 hY
            refine h_iload C 4 dX3_leastPull_47 rfl ?_
            refine h_aload_n C 1 dX3_leastPull_49 rfl rfl ?_
            refine gfX3_34 C (ty_9 hY) dX3_leastPull_50 ?_
            refine h_icmp_ge C 108 dX3_leastPull_53 (by decide) (fun c_53 => ?_) (fun c_53 => ?_)
            · refine h_iinc C [(3, .int (i + 1)), (0, .ref (ad G 17)), (1, .ref (ad G 9)), (2, .ref (ad G 16)), (4, .int k)] 3 (i + 1) dX3_leastPull_108 rfl rfl (by decide) rfl ?_
              refine h_goto C 30 dX3_leastPull_111 (by decide) ?_
              refine h_sub [1, 2, 3, 0] rfl ?_
              refine ihO ((i + 1), σ2) ?_ ?_
              · have hke := eq_end hI.2.1 (by rw [← hq]; exact Int32.not_lt.mpr c_53)
                refine ⟨(le_succ hO.1 hlt).1, (le_succ hO.1 hlt).2, ?_, hI.2.2.2⟩
                rw [tn_succ hO.1 hlt]
                show _ = pullI _ i.toNatClampNeg (itF (pullI _) i.toNatClampNeg _)
                rw [← hO.2.2.1, hI.2.2.1, hke]
                rfl
              · exact tm_lt hlt
            · refine h_aload_n C 0 dX3_leastPull_56 rfl rfl ?_
              refine h_aload_n C 1 dX3_leastPull_57 rfl rfl ?_
              refine h_iload C 4 dX3_leastPull_58 rfl ?_
              refine h_aload_n C 0 dX3_leastPull_60 rfl rfl ?_
              refine gfX3_9 C (ty_17 hY) dX3_leastPull_61 ?_
              refine h_tref (b := 18) (rf_17_0 hY) ?_
              refine h_iload_n C 3 dX3_leastPull_64 rfl rfl ?_
              refine h_iald C (ty_18 hY) (vp32 (N := 16) hO.1 (Int32.not_le.mp c_41) (by decide)) dX3_leastPull_65 ?_
              refine h_i2l C dX3_leastPull_66 ?_
              refine h_aload_n C 0 dX3_leastPull_67 rfl rfl ?_
              refine gfX3_15 C (ty_17 hY) dX3_leastPull_68 ?_
              refine h_tref (b := 19) (rf_17_1 hY) ?_
              refine h_iload_n C 3 dX3_leastPull_71 rfl rfl ?_
              refine h_iald C (ty_19 hY) (vp32 (N := 16) hO.1 (Int32.not_le.mp c_41) (by decide)) dX3_leastPull_72 ?_
              refine h_i2l C dX3_leastPull_73 ?_
              refine h_aload_n C 0 dX3_leastPull_74 rfl rfl ?_
              refine gfX3_18 C (ty_17 hY) dX3_leastPull_75 ?_
              refine h_tref (b := 20) (rf_17_2 hY) ?_
              refine h_iload_n C 3 dX3_leastPull_78 rfl rfl ?_
              refine h_iald C (ty_20 hY) (vp32 (N := 16) hO.1 (Int32.not_le.mp c_41) (by decide)) dX3_leastPull_79 ?_
              refine h_i2l C dX3_leastPull_80 ?_
              refine h_callV C (m_X2_along hcn hI.1 (Int32.not_le.mp c_53) (Int32.lt_of_lt_of_le (Int32.not_le.mp c_53) (by rw [hq]; exact hn.2))) caX3_39 kX2 (ty_9 hY) ⟨by decide, by decide, by decide, by decide⟩ rfl rfl (Nat.le_of_ble_eq_true rfl) dX3_leastPull_81 ?_
              rintro v σ' ⟨rfl, h2⟩; rw [h2]; clear h2
              show hW _ _ _ _ _ _ _ _ _ _ _ _ _ 84 [(0, .ref (ad G 17)), (1, .ref (ad G 9)), (2, .ref (ad G 16)), (3, .int i), (4, .int k)] [.long (dotB σ2 9 k.toNatClampNeg ((gI σ2 18 i.toNatClampNeg).toInt64) ((gI σ2 19 i.toNatClampNeg).toInt64) ((gI σ2 20 i.toNatClampNeg).toInt64)), .ref (ad G 17)] σ2 0 0
              refine h_aload_n C 1 dX3_leastPull_84 rfl rfl ?_
              refine h_iload C 4 dX3_leastPull_85 rfl ?_
              refine h_aload_n C 2 dX3_leastPull_87 rfl rfl ?_
              refine h_iconst C 0 dX3_leastPull_88 (by decide) ?_
              refine h_lald C (ty_16 hY) (vp32 (N := 3) (by decide) (by decide) (by decide)) dX3_leastPull_89 ?_
              refine h_aload_n C 2 dX3_leastPull_90 rfl rfl ?_
              refine h_iconst C 1 dX3_leastPull_91 (by decide) ?_
              refine h_lald C (ty_16 hY) (vp32 (N := 3) (by decide) (by decide) (by decide)) dX3_leastPull_92 ?_
              refine h_aload_n C 2 dX3_leastPull_93 rfl rfl ?_
              refine h_iconst C 2 dX3_leastPull_94 (by decide) ?_
              refine h_lald C (ty_16 hY) (vp32 (N := 3) (by decide) (by decide) (by decide)) dX3_leastPull_95 ?_
              refine h_callV C (m_X2_along hcn hI.1 (Int32.not_le.mp c_53) (Int32.lt_of_lt_of_le (Int32.not_le.mp c_53) (by rw [hq]; exact hn.2))) caX3_39 kX2 (ty_9 hY) ⟨by decide, by decide, by decide, by decide⟩ rfl rfl (Nat.le_of_ble_eq_true rfl) dX3_leastPull_96 ?_
              rintro v σ' ⟨rfl, h2⟩; rw [h2]; clear h2
              show hW _ _ _ _ _ _ _ _ _ _ _ _ _ 99 [(0, .ref (ad G 17)), (1, .ref (ad G 9)), (2, .ref (ad G 16)), (3, .int i), (4, .int k)] [.long (dotB σ2 9 k.toNatClampNeg (gL σ2 16 (Int32.toNatClampNeg 0)) (gL σ2 16 (Int32.toNatClampNeg 1)) (gL σ2 16 (Int32.toNatClampNeg 2))), .long (dotB σ2 9 k.toNatClampNeg ((gI σ2 18 i.toNatClampNeg).toInt64) ((gI σ2 19 i.toNatClampNeg).toInt64) ((gI σ2 20 i.toNatClampNeg).toInt64)), .ref (ad G 17)] σ2 0 0
              refine h_callV C (m_X3_narrow hY) caX3_43 kX3 (ty_17 hY) ⟨by decide, by decide, by decide, by decide⟩ rfl rfl (Nat.le_of_ble_eq_true rfl) dX3_leastPull_99 ?_
              rintro v σ' ⟨rfl, h2⟩; rw [h2]; clear h2
              show hW _ _ _ _ _ _ _ _ _ _ _ _ _ 102 [(0, .ref (ad G 17)), (1, .ref (ad G 9)), (2, .ref (ad G 16)), (3, .int i), (4, .int k)] [] (narF σ2 (dotB σ2 9 k.toNatClampNeg ((gI σ2 18 i.toNatClampNeg).toInt64) ((gI σ2 19 i.toNatClampNeg).toInt64) ((gI σ2 20 i.toNatClampNeg).toInt64)) (dotB σ2 9 k.toNatClampNeg (gL σ2 16 (Int32.toNatClampNeg 0)) (gL σ2 16 (Int32.toNatClampNeg 1)) (gL σ2 16 (Int32.toNatClampNeg 2)))) 0 0
              refine h_iinc C [(4, .int (k + 1)), (0, .ref (ad G 17)), (1, .ref (ad G 9)), (2, .ref (ad G 16)), (3, .int i)] 4 (k + 1) dX3_leastPull_102 rfl rfl (by decide) rfl ?_
              refine h_goto C 47 dX3_leastPull_105 (by decide) ?_
              refine h_sub [1, 2, 3, 4, 0] rfl ?_
              refine ih ((k + 1), (narF σ2 (dotB σ2 9 k.toNatClampNeg ((gI σ2 18 i.toNatClampNeg).toInt64) ((gI σ2 19 i.toNatClampNeg).toInt64) ((gI σ2 20 i.toNatClampNeg).toInt64)) (dotB σ2 9 k.toNatClampNeg (gL σ2 16 (Int32.toNatClampNeg 0)) (gL σ2 16 (Int32.toNatClampNeg 1)) (gL σ2 16 (Int32.toNatClampNeg 2))))) ?_ ?_
              · have hkl : k < gI σ 9 7 := by rw [← hq]; exact Int32.not_le.mp c_53
                refine ⟨(le_succ hI.1 hkl).1, (le_succ hI.1 hkl).2, ?_, hI.2.2.2.tr frU_nar⟩
                rw [tn_succ hI.1 hkl]
                show _ = pullK i.toNatClampNeg k.toNatClampNeg (itF (pullK i.toNatClampNeg) k.toNatClampNeg σ1)
                rw [← hI.2.2.1]
                simp only [pullK, tn_0, show (1 : Int32).toNatClampNeg = 1 by decide, show (2 : Int32).toNatClampNeg = 2 by decide]
              · rw [← hq]
                exact tm_lt (Int32.not_le.mp c_53)
          · exact ⟨by decide, hn.1, by rw [tn_0]; rfl, hO.2.2.2⟩
    · exact ⟨by decide, hs0, by rw [tn_0]; rfl, frU_sL.tr frU_sL⟩
  · exact absurd c_11 (by decide)
def aimF (σ : ha_St) (x y d : Int32) : ha_St := sL (sL (sL σ 22 0 (dirX d.toNatClampNeg).toInt64) 22 1 (dirY d.toNatClampNeg).toInt64) 22 2 (x.toInt64 * (dirY d.toNatClampNeg).toInt64 - y.toInt64 * (dirX d.toNatClampNeg).toInt64)
def fillF (σ : ha_St) (r a t : Nat) : ha_St := sL (sL (sL σ r 0 (pxOf σ a t (-1)).toInt64) r 1 (pyOf σ a t (-1)).toInt64) r 2 (tuOf σ a t (-1)).toInt64
def detF (σ : ha_St) (a b c : Nat) : Int64 := gL σ a 0 * (gL σ b 1 * gL σ c 2 - gL σ b 2 * gL σ c 1) + gL σ a 1 * (gL σ b 2 * gL σ c 0 - gL σ b 0 * gL σ c 2) + gL σ a 2 * (gL σ b 0 * gL σ c 1 - gL σ b 1 * gL σ c 0)
theorem tn_1 : (1 : Int32).toNatClampNeg = 1 := by decide
theorem tn_2 : (2 : Int32).toNatClampNeg = 2 := by decide
theorem tn_3 : (3 : Int32).toNatClampNeg = 3 := by decide
theorem aim_eq {σ : ha_St} {x y : Int32} {X Y : Int64} : sL (sL (sL σ 22 (Int32.toNatClampNeg 0) X) 22 (Int32.toNatClampNeg 1) Y) 22 (Int32.toNatClampNeg 2) (x.toInt64 * gL (sL (sL σ 22 (Int32.toNatClampNeg 0) X) 22 (Int32.toNatClampNeg 1) Y) 22 (Int32.toNatClampNeg 1) - y.toInt64 * gL (sL (sL σ 22 (Int32.toNatClampNeg 0) X) 22 (Int32.toNatClampNeg 1) Y) 22 (Int32.toNatClampNeg 0)) = sL (sL (sL σ 22 0 X) 22 1 Y) 22 2 (x.toInt64 * Y - y.toInt64 * X) := by
  rw [tn_0, tn_1, tn_2]
  simp [gL_sL]
set_option maxRecDepth 100000 in
set_option maxHeartbeats 4000000 in
theorem m_X4_aim {G : ha_G} {l : Launch} {σ : ha_St} {x y d : Int32} (hY : LY σ) (hd : 0 ≤ d ∧ d < 8) : hM G l yX4_aim cX4_aim 4 none { frames := 1, cells := 0, slots := 0, locals := 20 } [.ref (ad G 21), .int x, .int y, .int d] σ (fun v σ' => v = none ∧ σ' = aimF σ x y d) := by
  refine hM_ofF [(0, .ref (ad G 21)), (1, .int x), (2, .int y), (3, .int d)] (by decide +kernel) (Nat.le_of_ble_eq_true rfl) rfl ?_
  intro p e s m args below meth c0 C hin
  refine h_iload_n C 3 dX4_aim_0 rfl rfl ?_
  refine h_callSN C (m_X10_isDirection1 hd) caX4_41 ⟨by decide, by decide, by decide, by decide⟩ rfl rfl (Nat.le_of_ble_eq_true rfl) dX4_aim_1 ?_
  rintro v σ' ⟨rfl, h2⟩; rw [h2]; clear h2
  show hW _ _ _ _ _ _ _ _ _ _ _ _ _ 4 [(0, .ref (ad G 21)), (1, .int x), (2, .int y), (3, .int d)] [.int 1] σ 0 0
  refine h_if_eq C 56 dX4_aim_4 (by decide) (fun c_4 => ?_) (fun c_4 => ?_)
  · exact absurd c_4 (by decide)
  · refine h_aload_n C 0 dX4_aim_7 rfl rfl ?_
    refine gfX4_9 C (ty_21 hY) dX4_aim_8 ?_
    refine h_tref (b := 22) (rf_21_0 hY) ?_
    refine h_iconst C 0 dX4_aim_11 (by decide) ?_
    refine h_dirXN C lkX4_45 rfl dX4_aim_12 ?_
    refine h_iload_n C 3 dX4_aim_15 rfl rfl ?_
    refine h_dirXld C (vp8 hd) dX4_aim_16 ?_
    refine h_i2l C dX4_aim_17 ?_
    refine h_last C _ (ty_22 hY) (vp32 (N := 3) (by decide) (by decide) (by decide)) dX4_aim_18 rfl ?_
    refine h_aload_n C 0 dX4_aim_19 rfl rfl ?_
    refine gfX4_9 C (ty_21 hY) dX4_aim_20 ?_
    refine h_tref (b := 22) (rf_21_0 hY) ?_
    refine h_iconst C 1 dX4_aim_23 (by decide) ?_
    refine h_dirYN C lkX4_49 rfl dX4_aim_24 ?_
    refine h_iload_n C 3 dX4_aim_27 rfl rfl ?_
    refine h_dirYld C (vp8 hd) dX4_aim_28 ?_
    refine h_i2l C dX4_aim_29 ?_
    refine h_last C _ (ty_22 hY) (vp32 (N := 3) (by decide) (by decide) (by decide)) dX4_aim_30 rfl ?_
    refine h_aload_n C 0 dX4_aim_31 rfl rfl ?_
    refine gfX4_9 C (ty_21 hY) dX4_aim_32 ?_
    refine h_tref (b := 22) (rf_21_0 hY) ?_
    refine h_iconst C 2 dX4_aim_35 (by decide) ?_
    refine h_iload_n C 1 dX4_aim_36 rfl rfl ?_
    refine h_i2l C dX4_aim_37 ?_
    refine h_aload_n C 0 dX4_aim_38 rfl rfl ?_
    refine gfX4_9 C (ty_21 hY) dX4_aim_39 ?_
    refine h_tref (b := 22) (rf_21_0 hY) ?_
    refine h_iconst C 1 dX4_aim_42 (by decide) ?_
    refine h_lald C (ty_22 hY) (vp32 (N := 3) (by decide) (by decide) (by decide)) dX4_aim_43 ?_
    refine h_lmul C dX4_aim_44 ?_
    refine h_iload_n C 2 dX4_aim_45 rfl rfl ?_
    refine h_i2l C dX4_aim_46 ?_
    refine h_aload_n C 0 dX4_aim_47 rfl rfl ?_
    refine gfX4_9 C (ty_21 hY) dX4_aim_48 ?_
    refine h_tref (b := 22) (rf_21_0 hY) ?_
    refine h_iconst C 0 dX4_aim_51 (by decide) ?_
    refine h_lald C (ty_22 hY) (vp32 (N := 3) (by decide) (by decide) (by decide)) dX4_aim_52 ?_
    refine h_lmul C dX4_aim_53 ?_
    refine h_lsub C dX4_aim_54 ?_
    refine h_last C _ (ty_22 hY) (vp32 (N := 3) (by decide) (by decide) (by decide)) dX4_aim_55 rfl ?_
    refine h_vret C rfl (Nat.zero_le _) (Nat.zero_le _) dX4_aim_56 ?_
    exact ⟨rfl, aim_eq⟩
set_option maxRecDepth 100000 in
set_option maxHeartbeats 4000000 in
theorem m_X4_forgetBest {G : ha_G} {l : Launch} {σ : ha_St} (hY : LY σ) : hM G l yX4_forgetBest cX4_forgetBest 1 none { frames := 0, cells := 0, slots := 0, locals := 0 } [.ref (ad G 21)] σ (fun v σ' => v = none ∧ σ' = sI σ 21 8 (-1)) := by
  refine hM_ofF [(0, .ref (ad G 21))] (by decide +kernel) (Nat.le_of_ble_eq_true rfl) rfl ?_
  intro p e s m args below meth c0 C hin
  refine h_aload_n C 0 dX4_forgetBest_0 rfl rfl ?_
  refine h_iconst C (-1) dX4_forgetBest_1 (by decide) ?_
  refine pfX4_37 C (ty_21 hY) dX4_forgetBest_2 ?_
  refine h_vret C rfl (Nat.zero_le _) (Nat.zero_le _) dX4_forgetBest_5 ?_
  exact ⟨rfl, rfl⟩
set_option maxRecDepth 100000 in
set_option maxHeartbeats 4000000 in
theorem m_X4_fill {G : ha_G} {l : Launch} {σ : ha_St} {r a t ln : Nat} (hr : gT σ r = (21, 3)) (hT : gT σ a = (t, ln)) (ht : pT t) : hM G l yX4_fill cX4_fill 2 none { frames := 3, cells := 0, slots := 0, locals := 63 } [.ref (ad G r), .ref (ad G a)] σ (fun v σ' => v = none ∧ σ' = fillF σ r a t) := by
  refine hM_ofF [(0, .ref (ad G r)), (1, .ref (ad G a))] (by decide +kernel) (Nat.le_of_ble_eq_true rfl) rfl ?_
  intro p e s m args below meth c0 C hin
  refine h_aload_n C 0 dX4_fill_0 rfl rfl ?_
  refine h_alen C hr (by decide) dX4_fill_1 ?_
  refine h_iconst C 2 dX4_fill_2 (by decide) ?_
  refine h_icmp_le C 33 dX4_fill_3 (by decide) (fun c_3 => ?_) (fun c_3 => ?_)
  · exact absurd c_3 (by decide)
  · refine h_aload_n C 0 dX4_fill_6 rfl rfl ?_
    refine h_iconst C 0 dX4_fill_7 (by decide) ?_
    refine h_aload_n C 1 dX4_fill_8 rfl rfl ?_
    refine h_iconst C (-1) dX4_fill_9 (by decide) ?_
    refine cvX4_71 C hT ht (by decide) (by decide) (by decide) (by decide) (Nat.le_of_ble_eq_true rfl) dX4_fill_10 ?_
    refine h_i2l C dX4_fill_13 ?_
    refine h_last C _ hr (vp32 (N := 3) (by decide) (by decide) (by decide)) dX4_fill_14 rfl ?_
    refine h_aload_n C 0 dX4_fill_15 rfl rfl ?_
    refine h_iconst C 1 dX4_fill_16 (by decide) ?_
    refine h_aload_n C 1 dX4_fill_17 rfl rfl ?_
    refine h_iconst C (-1) dX4_fill_18 (by decide) ?_
    refine cvX4_75 C hT ht (by decide) (by decide) (by decide) (by decide) (Nat.le_of_ble_eq_true rfl) dX4_fill_19 ?_
    refine h_i2l C dX4_fill_22 ?_
    refine h_last C _ hr (vp32 (N := 3) (by decide) (by decide) (by decide)) dX4_fill_23 rfl ?_
    refine h_aload_n C 0 dX4_fill_24 rfl rfl ?_
    refine h_iconst C 2 dX4_fill_25 (by decide) ?_
    refine h_aload_n C 1 dX4_fill_26 rfl rfl ?_
    refine h_iconst C (-1) dX4_fill_27 (by decide) ?_
    refine cvX4_78 C hT ht (by decide) (by decide) (by decide) (by decide) (Nat.le_of_ble_eq_true rfl) dX4_fill_28 ?_
    refine h_i2l C dX4_fill_31 ?_
    refine h_last C _ hr (vp32 (N := 3) (by decide) (by decide) (by decide)) dX4_fill_32 rfl ?_
    refine h_vret C rfl (Nat.zero_le _) (Nat.zero_le _) dX4_fill_33 ?_
    refine ⟨rfl, ?_⟩
    simp [fillF, tn_0, tn_1, tn_2]
    rfl
set_option maxRecDepth 100000 in
set_option maxHeartbeats 4000000 in
theorem m_X4_determinant {G : ha_G} {l : Launch} {σ : ha_St} {a b c : Nat} (ha : gT σ a = (21, 3)) (hb : gT σ b = (21, 3)) (hc : gT σ c = (21, 3)) : hM G l yX4_determinant cX4_determinant 3 (some .long) { frames := 0, cells := 0, slots := 0, locals := 0 } [.ref (ad G a), .ref (ad G b), .ref (ad G c)] σ (fun v σ' => v = some (.long (detF σ a b c)) ∧ σ' = σ) := by
  refine hM_ofF [(0, .ref (ad G a)), (1, .ref (ad G b)), (2, .ref (ad G c))] (by decide +kernel) (Nat.le_of_ble_eq_true rfl) rfl ?_
  intro p e s m args below meth c0 C hin
  refine h_aload_n C 0 dX4_determinant_0 rfl rfl ?_
  refine h_alen C ha (by decide) dX4_determinant_1 ?_
  refine h_iconst C 3 dX4_determinant_2 (by decide) ?_
  refine h_icmp_lt C 18 dX4_determinant_3 (by decide) (fun c_3 => ?_) (fun c_3 => ?_)
  · exact absurd c_3 (by decide)
  · refine h_aload_n C 1 dX4_determinant_6 rfl rfl ?_
    refine h_alen C hb (by decide) dX4_determinant_7 ?_
    refine h_iconst C 3 dX4_determinant_8 (by decide) ?_
    refine h_icmp_lt C 18 dX4_determinant_9 (by decide) (fun c_9 => ?_) (fun c_9 => ?_)
    · exact absurd c_9 (by decide)
    · refine h_aload_n C 2 dX4_determinant_12 rfl rfl ?_
      refine h_alen C hc (by decide) dX4_determinant_13 ?_
      refine h_iconst C 3 dX4_determinant_14 (by decide) ?_
      refine h_icmp_ge C 20 dX4_determinant_15 (by decide) (fun c_15 => ?_) (fun c_15 => ?_)
      · refine h_aload_n C 0 dX4_determinant_20 rfl rfl ?_
        refine h_iconst C 0 dX4_determinant_21 (by decide) ?_
        refine h_lald C ha (vp32 (N := 3) (by decide) (by decide) (by decide)) dX4_determinant_22 ?_
        refine h_aload_n C 1 dX4_determinant_23 rfl rfl ?_
        refine h_iconst C 1 dX4_determinant_24 (by decide) ?_
        refine h_lald C hb (vp32 (N := 3) (by decide) (by decide) (by decide)) dX4_determinant_25 ?_
        refine h_aload_n C 2 dX4_determinant_26 rfl rfl ?_
        refine h_iconst C 2 dX4_determinant_27 (by decide) ?_
        refine h_lald C hc (vp32 (N := 3) (by decide) (by decide) (by decide)) dX4_determinant_28 ?_
        refine h_lmul C dX4_determinant_29 ?_
        refine h_aload_n C 1 dX4_determinant_30 rfl rfl ?_
        refine h_iconst C 2 dX4_determinant_31 (by decide) ?_
        refine h_lald C hb (vp32 (N := 3) (by decide) (by decide) (by decide)) dX4_determinant_32 ?_
        refine h_aload_n C 2 dX4_determinant_33 rfl rfl ?_
        refine h_iconst C 1 dX4_determinant_34 (by decide) ?_
        refine h_lald C hc (vp32 (N := 3) (by decide) (by decide) (by decide)) dX4_determinant_35 ?_
        refine h_lmul C dX4_determinant_36 ?_
        refine h_lsub C dX4_determinant_37 ?_
        refine h_lmul C dX4_determinant_38 ?_
        refine h_aload_n C 0 dX4_determinant_39 rfl rfl ?_
        refine h_iconst C 1 dX4_determinant_40 (by decide) ?_
        refine h_lald C ha (vp32 (N := 3) (by decide) (by decide) (by decide)) dX4_determinant_41 ?_
        refine h_aload_n C 1 dX4_determinant_42 rfl rfl ?_
        refine h_iconst C 2 dX4_determinant_43 (by decide) ?_
        refine h_lald C hb (vp32 (N := 3) (by decide) (by decide) (by decide)) dX4_determinant_44 ?_
        refine h_aload_n C 2 dX4_determinant_45 rfl rfl ?_
        refine h_iconst C 0 dX4_determinant_46 (by decide) ?_
        refine h_lald C hc (vp32 (N := 3) (by decide) (by decide) (by decide)) dX4_determinant_47 ?_
        refine h_lmul C dX4_determinant_48 ?_
        refine h_aload_n C 1 dX4_determinant_49 rfl rfl ?_
        refine h_iconst C 0 dX4_determinant_50 (by decide) ?_
        refine h_lald C hb (vp32 (N := 3) (by decide) (by decide) (by decide)) dX4_determinant_51 ?_
        refine h_aload_n C 2 dX4_determinant_52 rfl rfl ?_
        refine h_iconst C 2 dX4_determinant_53 (by decide) ?_
        refine h_lald C hc (vp32 (N := 3) (by decide) (by decide) (by decide)) dX4_determinant_54 ?_
        refine h_lmul C dX4_determinant_55 ?_
        refine h_lsub C dX4_determinant_56 ?_
        refine h_lmul C dX4_determinant_57 ?_
        refine h_ladd C dX4_determinant_58 ?_
        refine h_aload_n C 0 dX4_determinant_59 rfl rfl ?_
        refine h_iconst C 2 dX4_determinant_60 (by decide) ?_
        refine h_lald C ha (vp32 (N := 3) (by decide) (by decide) (by decide)) dX4_determinant_61 ?_
        refine h_aload_n C 1 dX4_determinant_62 rfl rfl ?_
        refine h_iconst C 0 dX4_determinant_63 (by decide) ?_
        refine h_lald C hb (vp32 (N := 3) (by decide) (by decide) (by decide)) dX4_determinant_64 ?_
        refine h_aload_n C 2 dX4_determinant_65 rfl rfl ?_
        refine h_iconst C 1 dX4_determinant_66 (by decide) ?_
        refine h_lald C hc (vp32 (N := 3) (by decide) (by decide) (by decide)) dX4_determinant_67 ?_
        refine h_lmul C dX4_determinant_68 ?_
        refine h_aload_n C 1 dX4_determinant_69 rfl rfl ?_
        refine h_iconst C 1 dX4_determinant_70 (by decide) ?_
        refine h_lald C hb (vp32 (N := 3) (by decide) (by decide) (by decide)) dX4_determinant_71 ?_
        refine h_aload_n C 2 dX4_determinant_72 rfl rfl ?_
        refine h_iconst C 0 dX4_determinant_73 (by decide) ?_
        refine h_lald C hc (vp32 (N := 3) (by decide) (by decide) (by decide)) dX4_determinant_74 ?_
        refine h_lmul C dX4_determinant_75 ?_
        refine h_lsub C dX4_determinant_76 ?_
        refine h_lmul C dX4_determinant_77 ?_
        refine h_ladd C dX4_determinant_78 ?_
        refine h_lret C rfl (Nat.zero_le _) (Nat.zero_le _) dX4_determinant_79 ?_
        refine ⟨?_, rfl⟩
        simp [detF, tn_0, tn_1, tn_2]
      · exact absurd c_15 (by decide)
def weigh1 (σ : ha_St) (a b c ta tb tc : Nat) : ha_St := fillF (fillF (fillF σ 23 a ta) 24 b tb) 25 c tc
def weigh2 (s : ha_St) (a b c : Nat) : ha_St := sL (sL s 21 5 (lAbs (detF s 23 24 25))) 21 4 (lAbs (detF s 22 24 25) * (gI s a 7).toInt64 + lAbs (detF s 23 22 25) * (gI s b 7).toInt64 + lAbs (detF s 23 24 22) * (gI s c 7).toInt64)
def weighF (σ : ha_St) (a b c ta tb tc : Nat) : ha_St := weigh2 (weigh1 σ a b c ta tb tc) a b c
theorem detF_sL {σ : ha_St} {a b c j : Nat} {v : Int64} (ha : a ≠ 21) (hb : b ≠ 21) (hc : c ≠ 21) : detF (sL σ 21 j v) a b c = detF σ a b c := by
  simp [detF, gL_sL, ha, hb, hc]
set_option maxRecDepth 100000 in
set_option maxHeartbeats 4000000 in
theorem m_X4_isWeighed {G : ha_G} {l : Launch} {σ : ha_St} {a b c ta tb tc la lb lc : Nat} (hY : LY σ) (hTa : gT σ a = (ta, la)) (hta : pT ta) (hTb : gT σ b = (tb, lb)) (htb : pT tb) (hTc : gT σ c = (tc, lc)) (htc : pT tc) : hM G l yX4_isWeighed cX4_isWeighed 4 (some .boolean) { frames := 4, cells := 0, slots := 0, locals := 84 } [.ref (ad G 21), .ref (ad G a), .ref (ad G b), .ref (ad G c)] σ (fun v σ' => (∃ r, v = some (.int r) ∧ isB r (gL (weighF σ a b c ta tb tc) 21 5 ≠ 0)) ∧ σ' = weighF σ a b c ta tb tc) := by
  refine hM_ofF [(0, .ref (ad G 21)), (1, .ref (ad G a)), (2, .ref (ad G b)), (3, .ref (ad G c))] (by decide +kernel) (Nat.le_of_ble_eq_true rfl) rfl ?_
  intro p e s m args below meth c0 C hin
  refine h_aload_n C 0 dX4_isWeighed_0 rfl rfl ?_
  refine gfX4_15 C (ty_21 hY) dX4_isWeighed_1 ?_
  refine h_tref (b := 23) (rf_21_1 hY) ?_
  refine h_aload_n C 1 dX4_isWeighed_4 rfl rfl ?_
  refine h_callS C (m_X4_fill (ty_23 hY) hTa hta) caX4_52 ⟨by decide, by decide, by decide, by decide⟩ rfl rfl (Nat.le_of_ble_eq_true rfl) dX4_isWeighed_5 ?_
  rintro v σ' ⟨rfl, h2⟩; rw [h2]; clear h2
  show hW _ _ _ _ _ _ _ _ _ _ _ _ _ 8 [(0, .ref (ad G 21)), (1, .ref (ad G a)), (2, .ref (ad G b)), (3, .ref (ad G c))] [] (fillF σ 23 a ta) 0 0
  refine h_aload_n C 0 dX4_isWeighed_8 rfl rfl ?_
  refine gfX4_18 C (ty_21 hY) dX4_isWeighed_9 ?_
  refine h_tref (b := 24) (rf_21_2 hY) ?_
  refine h_aload_n C 2 dX4_isWeighed_12 rfl rfl ?_
  refine h_callS C (m_X4_fill (ty_24 hY) hTb htb) caX4_52 ⟨by decide, by decide, by decide, by decide⟩ rfl rfl (Nat.le_of_ble_eq_true rfl) dX4_isWeighed_13 ?_
  rintro v σ' ⟨rfl, h2⟩; rw [h2]; clear h2
  show hW _ _ _ _ _ _ _ _ _ _ _ _ _ 16 [(0, .ref (ad G 21)), (1, .ref (ad G a)), (2, .ref (ad G b)), (3, .ref (ad G c))] [] (fillF (fillF σ 23 a ta) 24 b tb) 0 0
  refine h_aload_n C 0 dX4_isWeighed_16 rfl rfl ?_
  refine gfX4_21 C (ty_21 hY) dX4_isWeighed_17 ?_
  refine h_tref (b := 25) (rf_21_3 hY) ?_
  refine h_aload_n C 3 dX4_isWeighed_20 rfl rfl ?_
  refine h_callS C (m_X4_fill (ty_25 hY) hTc htc) caX4_52 ⟨by decide, by decide, by decide, by decide⟩ rfl rfl (Nat.le_of_ble_eq_true rfl) dX4_isWeighed_21 ?_
  rintro v σ' ⟨rfl, h2⟩; rw [h2]; clear h2
  show hW _ _ _ _ _ _ _ _ _ _ _ _ _ 24 [(0, .ref (ad G 21)), (1, .ref (ad G a)), (2, .ref (ad G b)), (3, .ref (ad G c))] [] (fillF (fillF (fillF σ 23 a ta) 24 b tb) 25 c tc) 0 0
  refine h_aload_n C 0 dX4_isWeighed_24 rfl rfl ?_
  refine h_aload_n C 0 dX4_isWeighed_25 rfl rfl ?_
  refine gfX4_15 C (ty_21 hY) dX4_isWeighed_26 ?_
  refine h_tref (b := 23) (rf_21_1 hY) ?_
  refine h_aload_n C 0 dX4_isWeighed_29 rfl rfl ?_
  refine gfX4_18 C (ty_21 hY) dX4_isWeighed_30 ?_
  refine h_tref (b := 24) (rf_21_2 hY) ?_
  refine h_aload_n C 0 dX4_isWeighed_33 rfl rfl ?_
  refine gfX4_21 C (ty_21 hY) dX4_isWeighed_34 ?_
  refine h_tref (b := 25) (rf_21_3 hY) ?_
  refine h_callS C (m_X4_determinant (ty_23 hY) (ty_24 hY) (ty_25 hY)) caX4_56 ⟨by decide, by decide, by decide, by decide⟩ rfl rfl (Nat.le_of_ble_eq_true rfl) dX4_isWeighed_37 ?_
  rintro v σ' ⟨rfl, h2⟩; rw [h2]; clear h2
  show hW _ _ _ _ _ _ _ _ _ _ _ _ _ 40 [(0, .ref (ad G 21)), (1, .ref (ad G a)), (2, .ref (ad G b)), (3, .ref (ad G c))] [.long (detF (fillF (fillF (fillF σ 23 a ta) 24 b tb) 25 c tc) 23 24 25), .ref (ad G 21)] (fillF (fillF (fillF σ 23 a ta) 24 b tb) 25 c tc) 0 0
  refine h_callS C m_J9_abs_067f4 caX4_60 ⟨by decide, by decide, by decide, by decide⟩ rfl rfl (Nat.le_of_ble_eq_true rfl) dX4_isWeighed_40 ?_
  rintro v σ' ⟨rfl, h2⟩; rw [h2]; clear h2
  show hW _ _ _ _ _ _ _ _ _ _ _ _ _ 43 [(0, .ref (ad G 21)), (1, .ref (ad G a)), (2, .ref (ad G b)), (3, .ref (ad G c))] [.long (lAbs (detF (fillF (fillF (fillF σ 23 a ta) 24 b tb) 25 c tc) 23 24 25)), .ref (ad G 21)] (fillF (fillF (fillF σ 23 a ta) 24 b tb) 25 c tc) 0 0
  refine pfX4_28 C (ty_21 hY) dX4_isWeighed_43 ?_
  refine h_aload_n C 0 dX4_isWeighed_46 rfl rfl ?_
  refine h_aload_n C 0 dX4_isWeighed_47 rfl rfl ?_
  refine gfX4_9 C (ty_21 hY) dX4_isWeighed_48 ?_
  refine h_tref (b := 22) (rf_21_0 hY) ?_
  refine h_aload_n C 0 dX4_isWeighed_51 rfl rfl ?_
  refine gfX4_18 C (ty_21 hY) dX4_isWeighed_52 ?_
  refine h_tref (b := 24) (rf_21_2 hY) ?_
  refine h_aload_n C 0 dX4_isWeighed_55 rfl rfl ?_
  refine gfX4_21 C (ty_21 hY) dX4_isWeighed_56 ?_
  refine h_tref (b := 25) (rf_21_3 hY) ?_
  refine h_callS C (m_X4_determinant (ty_22 hY) (ty_24 hY) (ty_25 hY)) caX4_56 ⟨by decide, by decide, by decide, by decide⟩ rfl rfl (Nat.le_of_ble_eq_true rfl) dX4_isWeighed_59 ?_
  rintro v σ' ⟨rfl, h2⟩; rw [h2]; clear h2
  show hW _ _ _ _ _ _ _ _ _ _ _ _ _ 62 [(0, .ref (ad G 21)), (1, .ref (ad G a)), (2, .ref (ad G b)), (3, .ref (ad G c))] [.long (detF (sL (fillF (fillF (fillF σ 23 a ta) 24 b tb) 25 c tc) 21 5 (lAbs (detF (fillF (fillF (fillF σ 23 a ta) 24 b tb) 25 c tc) 23 24 25))) 22 24 25), .ref (ad G 21)] (sL (fillF (fillF (fillF σ 23 a ta) 24 b tb) 25 c tc) 21 5 (lAbs (detF (fillF (fillF (fillF σ 23 a ta) 24 b tb) 25 c tc) 23 24 25))) 0 0
  refine h_callS C m_J9_abs_067f4 caX4_60 ⟨by decide, by decide, by decide, by decide⟩ rfl rfl (Nat.le_of_ble_eq_true rfl) dX4_isWeighed_62 ?_
  rintro v σ' ⟨rfl, h2⟩; rw [h2]; clear h2
  show hW _ _ _ _ _ _ _ _ _ _ _ _ _ 65 [(0, .ref (ad G 21)), (1, .ref (ad G a)), (2, .ref (ad G b)), (3, .ref (ad G c))] [.long (lAbs (detF (sL (fillF (fillF (fillF σ 23 a ta) 24 b tb) 25 c tc) 21 5 (lAbs (detF (fillF (fillF (fillF σ 23 a ta) 24 b tb) 25 c tc) 23 24 25))) 22 24 25)), .ref (ad G 21)] (sL (fillF (fillF (fillF σ 23 a ta) 24 b tb) 25 c tc) 21 5 (lAbs (detF (fillF (fillF (fillF σ 23 a ta) 24 b tb) 25 c tc) 23 24 25))) 0 0
  refine h_aload_n C 1 dX4_isWeighed_65 rfl rfl ?_
  refine gpX4_66 C hTa hta dX4_isWeighed_66 ?_
  refine h_i2l C dX4_isWeighed_69 ?_
  refine h_lmul C dX4_isWeighed_70 ?_
  refine h_aload_n C 0 dX4_isWeighed_71 rfl rfl ?_
  refine gfX4_15 C (ty_21 hY) dX4_isWeighed_72 ?_
  refine h_tref (b := 23) (rf_21_1 hY) ?_
  refine h_aload_n C 0 dX4_isWeighed_75 rfl rfl ?_
  refine gfX4_9 C (ty_21 hY) dX4_isWeighed_76 ?_
  refine h_tref (b := 22) (rf_21_0 hY) ?_
  refine h_aload_n C 0 dX4_isWeighed_79 rfl rfl ?_
  refine gfX4_21 C (ty_21 hY) dX4_isWeighed_80 ?_
  refine h_tref (b := 25) (rf_21_3 hY) ?_
  refine h_callS C (m_X4_determinant (ty_23 hY) (ty_22 hY) (ty_25 hY)) caX4_56 ⟨by decide, by decide, by decide, by decide⟩ rfl rfl (Nat.le_of_ble_eq_true rfl) dX4_isWeighed_83 ?_
  rintro v σ' ⟨rfl, h2⟩; rw [h2]; clear h2
  show hW _ _ _ _ _ _ _ _ _ _ _ _ _ 86 [(0, .ref (ad G 21)), (1, .ref (ad G a)), (2, .ref (ad G b)), (3, .ref (ad G c))] [.long (detF (sL (fillF (fillF (fillF σ 23 a ta) 24 b tb) 25 c tc) 21 5 (lAbs (detF (fillF (fillF (fillF σ 23 a ta) 24 b tb) 25 c tc) 23 24 25))) 23 22 25), .long ((lAbs (detF (sL (fillF (fillF (fillF σ 23 a ta) 24 b tb) 25 c tc) 21 5 (lAbs (detF (fillF (fillF (fillF σ 23 a ta) 24 b tb) 25 c tc) 23 24 25))) 22 24 25)) * (gI (sL (fillF (fillF (fillF σ 23 a ta) 24 b tb) 25 c tc) 21 5 (lAbs (detF (fillF (fillF (fillF σ 23 a ta) 24 b tb) 25 c tc) 23 24 25))) a 7).toInt64), .ref (ad G 21)] (sL (fillF (fillF (fillF σ 23 a ta) 24 b tb) 25 c tc) 21 5 (lAbs (detF (fillF (fillF (fillF σ 23 a ta) 24 b tb) 25 c tc) 23 24 25))) 0 0
  refine h_callS C m_J9_abs_067f4 caX4_60 ⟨by decide, by decide, by decide, by decide⟩ rfl rfl (Nat.le_of_ble_eq_true rfl) dX4_isWeighed_86 ?_
  rintro v σ' ⟨rfl, h2⟩; rw [h2]; clear h2
  show hW _ _ _ _ _ _ _ _ _ _ _ _ _ 89 [(0, .ref (ad G 21)), (1, .ref (ad G a)), (2, .ref (ad G b)), (3, .ref (ad G c))] [.long (lAbs (detF (sL (fillF (fillF (fillF σ 23 a ta) 24 b tb) 25 c tc) 21 5 (lAbs (detF (fillF (fillF (fillF σ 23 a ta) 24 b tb) 25 c tc) 23 24 25))) 23 22 25)), .long ((lAbs (detF (sL (fillF (fillF (fillF σ 23 a ta) 24 b tb) 25 c tc) 21 5 (lAbs (detF (fillF (fillF (fillF σ 23 a ta) 24 b tb) 25 c tc) 23 24 25))) 22 24 25)) * (gI (sL (fillF (fillF (fillF σ 23 a ta) 24 b tb) 25 c tc) 21 5 (lAbs (detF (fillF (fillF (fillF σ 23 a ta) 24 b tb) 25 c tc) 23 24 25))) a 7).toInt64), .ref (ad G 21)] (sL (fillF (fillF (fillF σ 23 a ta) 24 b tb) 25 c tc) 21 5 (lAbs (detF (fillF (fillF (fillF σ 23 a ta) 24 b tb) 25 c tc) 23 24 25))) 0 0
  refine h_aload_n C 2 dX4_isWeighed_89 rfl rfl ?_
  refine gpX4_66 C hTb htb dX4_isWeighed_90 ?_
  refine h_i2l C dX4_isWeighed_93 ?_
  refine h_lmul C dX4_isWeighed_94 ?_
  refine h_ladd C dX4_isWeighed_95 ?_
  refine h_aload_n C 0 dX4_isWeighed_96 rfl rfl ?_
  refine gfX4_15 C (ty_21 hY) dX4_isWeighed_97 ?_
  refine h_tref (b := 23) (rf_21_1 hY) ?_
  refine h_aload_n C 0 dX4_isWeighed_100 rfl rfl ?_
  refine gfX4_18 C (ty_21 hY) dX4_isWeighed_101 ?_
  refine h_tref (b := 24) (rf_21_2 hY) ?_
  refine h_aload_n C 0 dX4_isWeighed_104 rfl rfl ?_
  refine gfX4_9 C (ty_21 hY) dX4_isWeighed_105 ?_
  refine h_tref (b := 22) (rf_21_0 hY) ?_
  refine h_callS C (m_X4_determinant (ty_23 hY) (ty_24 hY) (ty_22 hY)) caX4_56 ⟨by decide, by decide, by decide, by decide⟩ rfl rfl (Nat.le_of_ble_eq_true rfl) dX4_isWeighed_108 ?_
  rintro v σ' ⟨rfl, h2⟩; rw [h2]; clear h2
  show hW _ _ _ _ _ _ _ _ _ _ _ _ _ 111 [(0, .ref (ad G 21)), (1, .ref (ad G a)), (2, .ref (ad G b)), (3, .ref (ad G c))] [.long (detF (sL (fillF (fillF (fillF σ 23 a ta) 24 b tb) 25 c tc) 21 5 (lAbs (detF (fillF (fillF (fillF σ 23 a ta) 24 b tb) 25 c tc) 23 24 25))) 23 24 22), .long (((lAbs (detF (sL (fillF (fillF (fillF σ 23 a ta) 24 b tb) 25 c tc) 21 5 (lAbs (detF (fillF (fillF (fillF σ 23 a ta) 24 b tb) 25 c tc) 23 24 25))) 22 24 25)) * (gI (sL (fillF (fillF (fillF σ 23 a ta) 24 b tb) 25 c tc) 21 5 (lAbs (detF (fillF (fillF (fillF σ 23 a ta) 24 b tb) 25 c tc) 23 24 25))) a 7).toInt64) + ((lAbs (detF (sL (fillF (fillF (fillF σ 23 a ta) 24 b tb) 25 c tc) 21 5 (lAbs (detF (fillF (fillF (fillF σ 23 a ta) 24 b tb) 25 c tc) 23 24 25))) 23 22 25)) * (gI (sL (fillF (fillF (fillF σ 23 a ta) 24 b tb) 25 c tc) 21 5 (lAbs (detF (fillF (fillF (fillF σ 23 a ta) 24 b tb) 25 c tc) 23 24 25))) b 7).toInt64)), .ref (ad G 21)] (sL (fillF (fillF (fillF σ 23 a ta) 24 b tb) 25 c tc) 21 5 (lAbs (detF (fillF (fillF (fillF σ 23 a ta) 24 b tb) 25 c tc) 23 24 25))) 0 0
  refine h_callS C m_J9_abs_067f4 caX4_60 ⟨by decide, by decide, by decide, by decide⟩ rfl rfl (Nat.le_of_ble_eq_true rfl) dX4_isWeighed_111 ?_
  rintro v σ' ⟨rfl, h2⟩; rw [h2]; clear h2
  show hW _ _ _ _ _ _ _ _ _ _ _ _ _ 114 [(0, .ref (ad G 21)), (1, .ref (ad G a)), (2, .ref (ad G b)), (3, .ref (ad G c))] [.long (lAbs (detF (sL (fillF (fillF (fillF σ 23 a ta) 24 b tb) 25 c tc) 21 5 (lAbs (detF (fillF (fillF (fillF σ 23 a ta) 24 b tb) 25 c tc) 23 24 25))) 23 24 22)), .long (((lAbs (detF (sL (fillF (fillF (fillF σ 23 a ta) 24 b tb) 25 c tc) 21 5 (lAbs (detF (fillF (fillF (fillF σ 23 a ta) 24 b tb) 25 c tc) 23 24 25))) 22 24 25)) * (gI (sL (fillF (fillF (fillF σ 23 a ta) 24 b tb) 25 c tc) 21 5 (lAbs (detF (fillF (fillF (fillF σ 23 a ta) 24 b tb) 25 c tc) 23 24 25))) a 7).toInt64) + ((lAbs (detF (sL (fillF (fillF (fillF σ 23 a ta) 24 b tb) 25 c tc) 21 5 (lAbs (detF (fillF (fillF (fillF σ 23 a ta) 24 b tb) 25 c tc) 23 24 25))) 23 22 25)) * (gI (sL (fillF (fillF (fillF σ 23 a ta) 24 b tb) 25 c tc) 21 5 (lAbs (detF (fillF (fillF (fillF σ 23 a ta) 24 b tb) 25 c tc) 23 24 25))) b 7).toInt64)), .ref (ad G 21)] (sL (fillF (fillF (fillF σ 23 a ta) 24 b tb) 25 c tc) 21 5 (lAbs (detF (fillF (fillF (fillF σ 23 a ta) 24 b tb) 25 c tc) 23 24 25))) 0 0
  refine h_aload_n C 3 dX4_isWeighed_114 rfl rfl ?_
  refine gpX4_66 C hTc htc dX4_isWeighed_115 ?_
  refine h_i2l C dX4_isWeighed_118 ?_
  refine h_lmul C dX4_isWeighed_119 ?_
  refine h_ladd C dX4_isWeighed_120 ?_
  refine pfX4_24 C (ty_21 hY) dX4_isWeighed_121 ?_
  refine h_aload_n C 0 dX4_isWeighed_124 rfl rfl ?_
  refine gfX4_28 C (ty_21 hY) dX4_isWeighed_125 ?_
  refine h_lconst C 0 dX4_isWeighed_128 rfl ?_
  refine h_lcmp C dX4_isWeighed_129 ?_
  refine h_if_eq C 137 dX4_isWeighed_130 (by decide) (fun c_130 => ?_) (fun c_130 => ?_)
  · refine h_iconst C 0 dX4_isWeighed_137 (by decide) ?_
    refine h_zret C rfl (by decide) (Nat.zero_le _) (Nat.zero_le _) dX4_isWeighed_138 ?_
    have e : weighF σ a b c ta tb tc = sL (sL (weigh1 σ a b c ta tb tc) 21 5 (lAbs (detF (weigh1 σ a b c ta tb tc) 23 24 25))) 21 4 _ := rfl
    have e5 : gL (weighF σ a b c ta tb tc) 21 5 = lAbs (detF (weigh1 σ a b c ta tb tc) 23 24 25) := by
      rw [e, gL_sL, if_neg (by omega), gL_sL, if_pos ⟨rfl, rfl⟩]
    rw [gL_sL, if_neg (by omega), gL_sL, if_pos ⟨rfl, rfl⟩] at c_130
    refine ⟨⟨_, rfl, ?_⟩, ?_⟩
    · rw [e5]
      first
        | exact Or.inl ⟨rfl, fun q => c_130 (lg_eq0.mpr q)⟩
        | exact Or.inr ⟨rfl, fun q => q (lg_eq0.mp c_130)⟩
    · rw [e, detF_sL (by decide) (by decide) (by decide), detF_sL (by decide) (by decide) (by decide), detF_sL (by decide) (by decide) (by decide)]
      rfl
  · refine h_iconst C 1 dX4_isWeighed_133 (by decide) ?_
    refine h_goto C 138 dX4_isWeighed_134 (by decide) ?_
    refine h_zret C rfl (by decide) (Nat.zero_le _) (Nat.zero_le _) dX4_isWeighed_138 ?_
    have e : weighF σ a b c ta tb tc = sL (sL (weigh1 σ a b c ta tb tc) 21 5 (lAbs (detF (weigh1 σ a b c ta tb tc) 23 24 25))) 21 4 _ := rfl
    have e5 : gL (weighF σ a b c ta tb tc) 21 5 = lAbs (detF (weigh1 σ a b c ta tb tc) 23 24 25) := by
      rw [e, gL_sL, if_neg (by omega), gL_sL, if_pos ⟨rfl, rfl⟩]
    rw [gL_sL, if_neg (by omega), gL_sL, if_pos ⟨rfl, rfl⟩] at c_130
    refine ⟨⟨_, rfl, ?_⟩, ?_⟩
    · rw [e5]
      first
        | exact Or.inl ⟨rfl, fun q => c_130 (lg_eq0.mpr q)⟩
        | exact Or.inr ⟨rfl, fun q => q (lg_eq0.mp c_130)⟩
    · rw [e, detF_sL (by decide) (by decide) (by decide), detF_sL (by decide) (by decide) (by decide), detF_sL (by decide) (by decide) (by decide)]
      rfl
def remF (σ : ha_St) (n : Int32) : ha_St := if gI σ 21 8 < 0 ∨ gL σ 21 4 * gL σ 21 7 < gL σ 21 6 * gL σ 21 5 then sL (sL (sI σ 21 8 n) 21 6 (gL σ 21 4)) 21 7 (gL σ 21 5) else σ
set_option maxRecDepth 100000 in
set_option maxHeartbeats 4000000 in
theorem m_X4_rememberIfBetter {G : ha_G} {l : Launch} {σ : ha_St} {n : Int32} (hY : LY σ) : hM G l yX4_rememberIfBetter cX4_rememberIfBetter 2 none { frames := 0, cells := 0, slots := 0, locals := 0 } [.ref (ad G 21), .int n] σ (fun v σ' => v = none ∧ σ' = remF σ n) := by
  refine hM_ofF [(0, .ref (ad G 21)), (1, .int n)] (by decide +kernel) (Nat.le_of_ble_eq_true rfl) rfl ?_
  intro p e s m args below meth c0 C hin
  refine h_aload_n C 0 dX4_rememberIfBetter_0 rfl rfl ?_
  refine gfX4_37 C (ty_21 hY) dX4_rememberIfBetter_1 ?_
  refine h_if_lt C 29 dX4_rememberIfBetter_4 (by decide) (fun c_4 => ?_) (fun c_4 => ?_)
  · refine h_aload_n C 0 dX4_rememberIfBetter_29 rfl rfl ?_
    refine h_iload_n C 1 dX4_rememberIfBetter_30 rfl rfl ?_
    refine pfX4_37 C (ty_21 hY) dX4_rememberIfBetter_31 ?_
    refine h_aload_n C 0 dX4_rememberIfBetter_34 rfl rfl ?_
    refine h_aload_n C 0 dX4_rememberIfBetter_35 rfl rfl ?_
    refine gfX4_24 C (ty_21 hY) dX4_rememberIfBetter_36 ?_
    refine pfX4_31 C (ty_21 hY) dX4_rememberIfBetter_39 ?_
    refine h_aload_n C 0 dX4_rememberIfBetter_42 rfl rfl ?_
    refine h_aload_n C 0 dX4_rememberIfBetter_43 rfl rfl ?_
    refine gfX4_28 C (ty_21 hY) dX4_rememberIfBetter_44 ?_
    refine pfX4_34 C (ty_21 hY) dX4_rememberIfBetter_47 ?_
    refine h_vret C rfl (Nat.zero_le _) (Nat.zero_le _) dX4_rememberIfBetter_50 ?_
    refine ⟨rfl, ?_⟩
    unfold remF
    have hl := lg_cases (gL σ 21 4 * gL σ 21 7) (gL σ 21 6 * gL σ 21 5)
    first
      | (rw [if_pos (by grind)]; simp [gL_sL, gL_sI])
      | rw [if_neg (by grind)]
  · refine h_aload_n C 0 dX4_rememberIfBetter_7 rfl rfl ?_
    refine gfX4_24 C (ty_21 hY) dX4_rememberIfBetter_8 ?_
    refine h_aload_n C 0 dX4_rememberIfBetter_11 rfl rfl ?_
    refine gfX4_34 C (ty_21 hY) dX4_rememberIfBetter_12 ?_
    refine h_lmul C dX4_rememberIfBetter_15 ?_
    refine h_aload_n C 0 dX4_rememberIfBetter_16 rfl rfl ?_
    refine gfX4_31 C (ty_21 hY) dX4_rememberIfBetter_17 ?_
    refine h_aload_n C 0 dX4_rememberIfBetter_20 rfl rfl ?_
    refine gfX4_28 C (ty_21 hY) dX4_rememberIfBetter_21 ?_
    refine h_lmul C dX4_rememberIfBetter_24 ?_
    refine h_lcmp C dX4_rememberIfBetter_25 ?_
    refine h_if_ge C 50 dX4_rememberIfBetter_26 (by decide) (fun c_26 => ?_) (fun c_26 => ?_)
    · refine h_vret C rfl (Nat.zero_le _) (Nat.zero_le _) dX4_rememberIfBetter_50 ?_
      refine ⟨rfl, ?_⟩
      unfold remF
      have hl := lg_cases (gL σ 21 4 * gL σ 21 7) (gL σ 21 6 * gL σ 21 5)
      first
        | (rw [if_pos (by grind)]; simp [gL_sL, gL_sI])
        | rw [if_neg (by grind)]
    · refine h_aload_n C 0 dX4_rememberIfBetter_29 rfl rfl ?_
      refine h_iload_n C 1 dX4_rememberIfBetter_30 rfl rfl ?_
      refine pfX4_37 C (ty_21 hY) dX4_rememberIfBetter_31 ?_
      refine h_aload_n C 0 dX4_rememberIfBetter_34 rfl rfl ?_
      refine h_aload_n C 0 dX4_rememberIfBetter_35 rfl rfl ?_
      refine gfX4_24 C (ty_21 hY) dX4_rememberIfBetter_36 ?_
      refine pfX4_31 C (ty_21 hY) dX4_rememberIfBetter_39 ?_
      refine h_aload_n C 0 dX4_rememberIfBetter_42 rfl rfl ?_
      refine h_aload_n C 0 dX4_rememberIfBetter_43 rfl rfl ?_
      refine gfX4_28 C (ty_21 hY) dX4_rememberIfBetter_44 ?_
      refine pfX4_34 C (ty_21 hY) dX4_rememberIfBetter_47 ?_
      refine h_vret C rfl (Nat.zero_le _) (Nat.zero_le _) dX4_rememberIfBetter_50 ?_
      refine ⟨rfl, ?_⟩
      unfold remF
      have hl := lg_cases (gL σ 21 4 * gL σ 21 7) (gL σ 21 6 * gL σ 21 5)
      first
        | (rw [if_pos (by grind)]; simp [gL_sL, gL_sI])
        | rw [if_neg (by grind)]
def pathAdd (σ : ha_St) (x y : Int32) : ha_St := sI (sI (sI σ 33 (gI σ 32 2).toNatClampNeg x) 34 (gI σ 32 2).toNatClampNeg y) 32 2 (gI σ 32 2 + 1)
def nearP (dx dy ex ey r : Int64) : Prop := if ex * dx + ey * dy ≤ 0 then ex * ex + ey * ey < r * r else if dx * dx + dy * dy ≤ ex * dx + ey * dy then (ex - dx) * (ex - dx) + (ey - dy) * (ey - dy) < r * r else (ex * dy - ey * dx) * (ex * dy - ey * dx) < r * r * (dx * dx + dy * dy)
def nearA (σ : ha_St) (i j a : Nat) : Prop := nearP (gI σ 33 j - gI σ 33 i).toInt64 (gI σ 34 j - gI σ 34 i).toInt64 (gI σ a 5 - gI σ 33 i).toInt64 (gI σ a 6 - gI σ 34 i).toInt64 (gI σ 32 3 + gI σ a 3).toInt64
set_option maxRecDepth 100000 in
set_option maxHeartbeats 4000000 in
theorem m_X6_taken {G : ha_G} {l : Launch} {σ : ha_St} {x y : Int32} (hY : LY σ) (h0 : 0 ≤ gI σ 32 2) : hM G l yX6_taken cX6_taken 3 (some .boolean) { frames := 0, cells := 0, slots := 0, locals := 0 } [.ref (ad G 32), .int x, .int y] σ (fun v σ' => (gI σ 32 2 < 40 ∧ v = some (.int 1) ∧ σ' = pathAdd σ x y) ∨ (¬ gI σ 32 2 < 40 ∧ v = some (.int 0) ∧ σ' = σ)) := by
  refine hM_ofF [(0, .ref (ad G 32)), (1, .int x), (2, .int y)] (by decide +kernel) (Nat.le_of_ble_eq_true rfl) rfl ?_
  intro p e s m args below meth c0 C hin
  refine h_aload_n C 0 dX6_taken_0 rfl rfl ?_
  refine gfX6_18 C (ty_32 hY) dX6_taken_1 ?_
  refine h_bipush C 40 dX6_taken_4 (by decide) ?_
  refine h_icmp_lt C 11 dX6_taken_6 (by decide) (fun c_6 => ?_) (fun c_6 => ?_)
  · refine h_aload_n C 0 dX6_taken_11 rfl rfl ?_
    refine gfX6_9 C (ty_32 hY) dX6_taken_12 ?_
    refine h_tref (b := 33) (rf_32_0 hY) ?_
    refine h_aload_n C 0 dX6_taken_15 rfl rfl ?_
    refine gfX6_18 C (ty_32 hY) dX6_taken_16 ?_
    refine h_iload_n C 1 dX6_taken_19 rfl rfl ?_
    refine h_iast C _ (ty_33 hY) (vp32 (N := 40) h0 c_6 (by decide)) dX6_taken_20 rfl ?_
    refine h_aload_n C 0 dX6_taken_21 rfl rfl ?_
    refine gfX6_15 C (ty_32 hY) dX6_taken_22 ?_
    refine h_tref (b := 34) (rf_32_1 hY) ?_
    refine h_aload_n C 0 dX6_taken_25 rfl rfl ?_
    refine gfX6_18 C (ty_32 hY) dX6_taken_26 ?_
    refine h_iload_n C 2 dX6_taken_29 rfl rfl ?_
    refine h_iast C _ (ty_34 hY) (vp32 (N := 40) h0 c_6 (by decide)) dX6_taken_30 rfl ?_
    refine h_aload_n C 0 dX6_taken_31 rfl rfl ?_
    refine h_dup C dX6_taken_32 rfl ?_
    refine gfX6_18 C (ty_32 hY) dX6_taken_33 ?_
    refine h_iconst C 1 dX6_taken_36 (by decide) ?_
    refine h_iadd C dX6_taken_37 ?_
    refine pfX6_18 C (ty_32 hY) dX6_taken_38 ?_
    refine h_iconst C 1 dX6_taken_41 (by decide) ?_
    refine h_zret C rfl (by decide) (Nat.zero_le _) (Nat.zero_le _) dX6_taken_42 ?_
    first | exact Or.inr ⟨c_6, rfl, rfl⟩ | (refine Or.inl ⟨c_6, rfl, ?_⟩; simp [pathAdd, gI_sI])
  · refine h_iconst C 0 dX6_taken_9 (by decide) ?_
    refine h_zret C rfl (by decide) (Nat.zero_le _) (Nat.zero_le _) dX6_taken_10 ?_
    first | exact Or.inr ⟨c_6, rfl, rfl⟩ | (refine Or.inl ⟨c_6, rfl, ?_⟩; simp [pathAdd, gI_sI])
set_option maxRecDepth 100000 in
set_option maxHeartbeats 4000000 in
theorem m_X6_isNear {G : ha_G} {l : Launch} {σ : ha_St} {i j : Int32} {a t ln : Nat} (hY : LY σ) (hi0 : 0 ≤ i) (hi1 : i < 40) (hj0 : 0 ≤ j) (hj1 : j < 40) (hT : gT σ a = (t, ln)) (ht : pT t) : hM G l yX6_isNear cX6_isNear 20 (some .boolean) { frames := 0, cells := 0, slots := 0, locals := 0 } [.ref (ad G 32), .int i, .int j, .ref (ad G a)] σ (fun v σ' => (∃ r, v = some (.int r) ∧ isB r (nearA σ i.toNatClampNeg j.toNatClampNeg a)) ∧ σ' = σ) := by
  refine hM_ofF [(0, .ref (ad G 32)), (1, .int i), (2, .int j), (3, .ref (ad G a))] (by decide +kernel) (Nat.le_of_ble_eq_true rfl) rfl ?_
  intro p e s m args below meth c0 C hin
  refine h_iload_n C 1 dX6_isNear_0 rfl rfl ?_
  refine h_if_lt C 20 dX6_isNear_1 (by decide) (fun c_1 => ?_) (fun c_1 => ?_)
  · exact absurd c_1 (Int32.not_lt.mpr hi0)
  · refine h_iload_n C 2 dX6_isNear_4 rfl rfl ?_
    refine h_if_lt C 20 dX6_isNear_5 (by decide) (fun c_5 => ?_) (fun c_5 => ?_)
    · exact absurd c_5 (Int32.not_lt.mpr hj0)
    · refine h_iload_n C 1 dX6_isNear_8 rfl rfl ?_
      refine h_bipush C 40 dX6_isNear_9 (by decide) ?_
      refine h_icmp_ge C 20 dX6_isNear_11 (by decide) (fun c_11 => ?_) (fun c_11 => ?_)
      · exact absurd hi1 (Int32.not_lt.mpr c_11)
      · refine h_iload_n C 2 dX6_isNear_14 rfl rfl ?_
        refine h_bipush C 40 dX6_isNear_15 (by decide) ?_
        refine h_icmp_lt C 22 dX6_isNear_17 (by decide) (fun c_17 => ?_) (fun c_17 => ?_)
        · refine h_aload_n C 0 dX6_isNear_22 rfl rfl ?_
          refine gfX6_9 C (ty_32 hY) dX6_isNear_23 ?_
          refine h_tref (b := 33) (rf_32_0 hY) ?_
          refine h_iload_n C 2 dX6_isNear_26 rfl rfl ?_
          refine h_iald C (ty_33 hY) (vp32 (N := 40) hj0 hj1 (by decide)) dX6_isNear_27 ?_
          refine h_aload_n C 0 dX6_isNear_28 rfl rfl ?_
          refine gfX6_9 C (ty_32 hY) dX6_isNear_29 ?_
          refine h_tref (b := 33) (rf_32_0 hY) ?_
          refine h_iload_n C 1 dX6_isNear_32 rfl rfl ?_
          refine h_iald C (ty_33 hY) (vp32 (N := 40) hi0 hi1 (by decide)) dX6_isNear_33 ?_
          refine h_isub C dX6_isNear_34 ?_
          refine h_i2l C dX6_isNear_35 ?_
          refine h_lstore C [(4, .long ((gI σ 33 j.toNatClampNeg) - (gI σ 33 i.toNatClampNeg)).toInt64), (0, .ref (ad G 32)), (1, .int i), (2, .int j), (3, .ref (ad G a))] dX6_isNear_36 (by decide) rfl ?_
          refine h_aload_n C 1 dX6_isNear_38 rfl rfl ?_
          refine gfX6_15 C (ty_32 hY) dX6_isNear_39 ?_
          refine h_tref (b := 34) (rf_32_1 hY) ?_
          refine h_iload_n C 3 dX6_isNear_42 rfl rfl ?_
          refine h_iald C (ty_34 hY) (vp32 (N := 40) hj0 hj1 (by decide)) dX6_isNear_43 ?_
          refine h_aload_n C 1 dX6_isNear_44 rfl rfl ?_
          refine gfX6_15 C (ty_32 hY) dX6_isNear_45 ?_
          refine h_tref (b := 34) (rf_32_1 hY) ?_
          refine h_iload_n C 2 dX6_isNear_48 rfl rfl ?_
          refine h_iald C (ty_34 hY) (vp32 (N := 40) hi0 hi1 (by decide)) dX6_isNear_49 ?_
          refine h_isub C dX6_isNear_50 ?_
          refine h_i2l C dX6_isNear_51 ?_
          refine h_lstore C [(6, .long ((gI σ 34 j.toNatClampNeg) - (gI σ 34 i.toNatClampNeg)).toInt64), (4, .long ((gI σ 33 j.toNatClampNeg) - (gI σ 33 i.toNatClampNeg)).toInt64), (0, .ref (ad G 32)), (1, .int i), (2, .int j), (3, .ref (ad G a))] dX6_isNear_52 (by decide) rfl ?_
          refine h_aload_n C 5 dX6_isNear_54 rfl rfl ?_
          refine gpX6_29 C hT ht dX6_isNear_55 ?_
          refine h_aload_n C 2 dX6_isNear_58 rfl rfl ?_
          refine gfX6_9 C (ty_32 hY) dX6_isNear_59 ?_
          refine h_tref (b := 33) (rf_32_0 hY) ?_
          refine h_iload_n C 3 dX6_isNear_62 rfl rfl ?_
          refine h_iald C (ty_33 hY) (vp32 (N := 40) hi0 hi1 (by decide)) dX6_isNear_63 ?_
          refine h_isub C dX6_isNear_64 ?_
          refine h_i2l C dX6_isNear_65 ?_
          refine h_lstore C [(8, .long ((gI σ a 5) - (gI σ 33 i.toNatClampNeg)).toInt64), (6, .long ((gI σ 34 j.toNatClampNeg) - (gI σ 34 i.toNatClampNeg)).toInt64), (4, .long ((gI σ 33 j.toNatClampNeg) - (gI σ 33 i.toNatClampNeg)).toInt64), (0, .ref (ad G 32)), (1, .int i), (2, .int j), (3, .ref (ad G a))] dX6_isNear_66 (by decide) rfl ?_
          refine h_aload_n C 6 dX6_isNear_68 rfl rfl ?_
          refine gpX6_33 C hT ht dX6_isNear_69 ?_
          refine h_aload_n C 3 dX6_isNear_72 rfl rfl ?_
          refine gfX6_15 C (ty_32 hY) dX6_isNear_73 ?_
          refine h_tref (b := 34) (rf_32_1 hY) ?_
          refine h_iload_n C 4 dX6_isNear_76 rfl rfl ?_
          refine h_iald C (ty_34 hY) (vp32 (N := 40) hi0 hi1 (by decide)) dX6_isNear_77 ?_
          refine h_isub C dX6_isNear_78 ?_
          refine h_i2l C dX6_isNear_79 ?_
          refine h_lstore C [(10, .long ((gI σ a 6) - (gI σ 34 i.toNatClampNeg)).toInt64), (8, .long ((gI σ a 5) - (gI σ 33 i.toNatClampNeg)).toInt64), (6, .long ((gI σ 34 j.toNatClampNeg) - (gI σ 34 i.toNatClampNeg)).toInt64), (4, .long ((gI σ 33 j.toNatClampNeg) - (gI σ 33 i.toNatClampNeg)).toInt64), (0, .ref (ad G 32)), (1, .int i), (2, .int j), (3, .ref (ad G a))] dX6_isNear_80 (by decide) rfl ?_
          refine h_aload_n C 4 dX6_isNear_82 rfl rfl ?_
          refine gfX6_22 C (ty_32 hY) dX6_isNear_83 ?_
          refine h_aload_n C 7 dX6_isNear_86 rfl rfl ?_
          refine gpX6_35 C hT ht dX6_isNear_87 ?_
          refine h_iadd C dX6_isNear_90 ?_
          refine h_i2l C dX6_isNear_91 ?_
          refine h_lstore C [(12, .long ((gI σ 32 3) + (gI σ a 3)).toInt64), (10, .long ((gI σ a 6) - (gI σ 34 i.toNatClampNeg)).toInt64), (8, .long ((gI σ a 5) - (gI σ 33 i.toNatClampNeg)).toInt64), (6, .long ((gI σ 34 j.toNatClampNeg) - (gI σ 34 i.toNatClampNeg)).toInt64), (4, .long ((gI σ 33 j.toNatClampNeg) - (gI σ 33 i.toNatClampNeg)).toInt64), (0, .ref (ad G 32)), (1, .int i), (2, .int j), (3, .ref (ad G a))] dX6_isNear_92 (by decide) rfl ?_
          refine h_lload C 4 dX6_isNear_94 rfl ?_
          refine h_lload C 4 dX6_isNear_96 rfl ?_
          refine h_lmul C dX6_isNear_98 ?_
          refine h_lload C 3 dX6_isNear_99 rfl ?_
          refine h_lload C 3 dX6_isNear_101 rfl ?_
          refine h_lmul C dX6_isNear_103 ?_
          refine h_ladd C dX6_isNear_104 ?_
          refine h_lstore C [(14, .long ((((gI σ 33 j.toNatClampNeg) - (gI σ 33 i.toNatClampNeg)).toInt64 * ((gI σ 33 j.toNatClampNeg) - (gI σ 33 i.toNatClampNeg)).toInt64) + (((gI σ 34 j.toNatClampNeg) - (gI σ 34 i.toNatClampNeg)).toInt64 * ((gI σ 34 j.toNatClampNeg) - (gI σ 34 i.toNatClampNeg)).toInt64))), (12, .long ((gI σ 32 3) + (gI σ a 3)).toInt64), (10, .long ((gI σ a 6) - (gI σ 34 i.toNatClampNeg)).toInt64), (8, .long ((gI σ a 5) - (gI σ 33 i.toNatClampNeg)).toInt64), (6, .long ((gI σ 34 j.toNatClampNeg) - (gI σ 34 i.toNatClampNeg)).toInt64), (4, .long ((gI σ 33 j.toNatClampNeg) - (gI σ 33 i.toNatClampNeg)).toInt64), (0, .ref (ad G 32)), (1, .int i), (2, .int j), (3, .ref (ad G a))] dX6_isNear_105 (by decide) rfl ?_
          refine h_lload C 3 dX6_isNear_107 rfl ?_
          refine h_lload C 5 dX6_isNear_109 rfl ?_
          refine h_lmul C dX6_isNear_111 ?_
          refine h_lload C 2 dX6_isNear_112 rfl ?_
          refine h_lload C 4 dX6_isNear_114 rfl ?_
          refine h_lmul C dX6_isNear_116 ?_
          refine h_ladd C dX6_isNear_117 ?_
          refine h_lstore C [(16, .long ((((gI σ a 5) - (gI σ 33 i.toNatClampNeg)).toInt64 * ((gI σ 33 j.toNatClampNeg) - (gI σ 33 i.toNatClampNeg)).toInt64) + (((gI σ a 6) - (gI σ 34 i.toNatClampNeg)).toInt64 * ((gI σ 34 j.toNatClampNeg) - (gI σ 34 i.toNatClampNeg)).toInt64))), (14, .long ((((gI σ 33 j.toNatClampNeg) - (gI σ 33 i.toNatClampNeg)).toInt64 * ((gI σ 33 j.toNatClampNeg) - (gI σ 33 i.toNatClampNeg)).toInt64) + (((gI σ 34 j.toNatClampNeg) - (gI σ 34 i.toNatClampNeg)).toInt64 * ((gI σ 34 j.toNatClampNeg) - (gI σ 34 i.toNatClampNeg)).toInt64))), (12, .long ((gI σ 32 3) + (gI σ a 3)).toInt64), (10, .long ((gI σ a 6) - (gI σ 34 i.toNatClampNeg)).toInt64), (8, .long ((gI σ a 5) - (gI σ 33 i.toNatClampNeg)).toInt64), (6, .long ((gI σ 34 j.toNatClampNeg) - (gI σ 34 i.toNatClampNeg)).toInt64), (4, .long ((gI σ 33 j.toNatClampNeg) - (gI σ 33 i.toNatClampNeg)).toInt64), (0, .ref (ad G 32)), (1, .int i), (2, .int j), (3, .ref (ad G a))] dX6_isNear_118 (by decide) rfl ?_
          refine h_lload C 0 dX6_isNear_120 rfl ?_
          refine h_lconst C 0 dX6_isNear_122 rfl ?_
          refine h_lcmp C dX6_isNear_123 ?_
          refine h_if_gt C 153 dX6_isNear_124 (by decide) (fun c_124 => ?_) (fun c_124 => ?_)
          · refine h_lload C 0 dX6_isNear_153 rfl ?_
            refine h_lload C 1 dX6_isNear_155 rfl ?_
            refine h_lcmp C dX6_isNear_157 ?_
            refine h_if_lt C 199 dX6_isNear_158 (by decide) (fun c_158 => ?_) (fun c_158 => ?_)
            · refine h_lload C 4 dX6_isNear_199 rfl ?_
              refine h_lload C 5 dX6_isNear_201 rfl ?_
              refine h_lmul C dX6_isNear_203 ?_
              refine h_lload C 3 dX6_isNear_204 rfl ?_
              refine h_lload C 6 dX6_isNear_206 rfl ?_
              refine h_lmul C dX6_isNear_208 ?_
              refine h_lsub C dX6_isNear_209 ?_
              refine h_lstore C [(18, .long ((((gI σ a 5) - (gI σ 33 i.toNatClampNeg)).toInt64 * ((gI σ 34 j.toNatClampNeg) - (gI σ 34 i.toNatClampNeg)).toInt64) - (((gI σ a 6) - (gI σ 34 i.toNatClampNeg)).toInt64 * ((gI σ 33 j.toNatClampNeg) - (gI σ 33 i.toNatClampNeg)).toInt64))), (16, .long ((((gI σ a 5) - (gI σ 33 i.toNatClampNeg)).toInt64 * ((gI σ 33 j.toNatClampNeg) - (gI σ 33 i.toNatClampNeg)).toInt64) + (((gI σ a 6) - (gI σ 34 i.toNatClampNeg)).toInt64 * ((gI σ 34 j.toNatClampNeg) - (gI σ 34 i.toNatClampNeg)).toInt64))), (14, .long ((((gI σ 33 j.toNatClampNeg) - (gI σ 33 i.toNatClampNeg)).toInt64 * ((gI σ 33 j.toNatClampNeg) - (gI σ 33 i.toNatClampNeg)).toInt64) + (((gI σ 34 j.toNatClampNeg) - (gI σ 34 i.toNatClampNeg)).toInt64 * ((gI σ 34 j.toNatClampNeg) - (gI σ 34 i.toNatClampNeg)).toInt64))), (12, .long ((gI σ 32 3) + (gI σ a 3)).toInt64), (10, .long ((gI σ a 6) - (gI σ 34 i.toNatClampNeg)).toInt64), (8, .long ((gI σ a 5) - (gI σ 33 i.toNatClampNeg)).toInt64), (6, .long ((gI σ 34 j.toNatClampNeg) - (gI σ 34 i.toNatClampNeg)).toInt64), (4, .long ((gI σ 33 j.toNatClampNeg) - (gI σ 33 i.toNatClampNeg)).toInt64), (0, .ref (ad G 32)), (1, .int i), (2, .int j), (3, .ref (ad G a))] dX6_isNear_210 (by decide) rfl ?_
              refine h_lload C 0 dX6_isNear_212 rfl ?_
              refine h_lload C 0 dX6_isNear_214 rfl ?_
              refine h_lmul C dX6_isNear_216 ?_
              refine h_lload C 3 dX6_isNear_217 rfl ?_
              refine h_lload C 3 dX6_isNear_219 rfl ?_
              refine h_lmul C dX6_isNear_221 ?_
              refine h_lload C 2 dX6_isNear_222 rfl ?_
              refine h_lmul C dX6_isNear_224 ?_
              refine h_lcmp C dX6_isNear_225 ?_
              refine h_if_ge C 233 dX6_isNear_226 (by decide) (fun c_226 => ?_) (fun c_226 => ?_)
              · refine h_iconst C 0 dX6_isNear_233 (by decide) ?_
                refine h_zret C rfl (by decide) (Nat.zero_le _) (Nat.zero_le _) dX6_isNear_234 ?_
                refine ⟨⟨_, rfl, ?_⟩, rfl⟩
                clear C hin hY
                unfold isB nearA nearP
                unfold lg_cmp at *
                grind
              · refine h_iconst C 1 dX6_isNear_229 (by decide) ?_
                refine h_goto C 234 dX6_isNear_230 (by decide) ?_
                refine h_zret C rfl (by decide) (Nat.zero_le _) (Nat.zero_le _) dX6_isNear_234 ?_
                refine ⟨⟨_, rfl, ?_⟩, rfl⟩
                clear C hin hY
                unfold isB nearA nearP
                unfold lg_cmp at *
                grind
            · refine h_lload C 4 dX6_isNear_161 rfl ?_
              refine h_lload C 6 dX6_isNear_163 rfl ?_
              refine h_lsub C dX6_isNear_165 ?_
              refine h_lload C 4 dX6_isNear_166 rfl ?_
              refine h_lload C 6 dX6_isNear_168 rfl ?_
              refine h_lsub C dX6_isNear_170 ?_
              refine h_lmul C dX6_isNear_171 ?_
              refine h_lload C 3 dX6_isNear_172 rfl ?_
              refine h_lload C 5 dX6_isNear_174 rfl ?_
              refine h_lsub C dX6_isNear_176 ?_
              refine h_lload C 3 dX6_isNear_177 rfl ?_
              refine h_lload C 5 dX6_isNear_179 rfl ?_
              refine h_lsub C dX6_isNear_181 ?_
              refine h_lmul C dX6_isNear_182 ?_
              refine h_ladd C dX6_isNear_183 ?_
              refine h_lload C 2 dX6_isNear_184 rfl ?_
              refine h_lload C 2 dX6_isNear_186 rfl ?_
              refine h_lmul C dX6_isNear_188 ?_
              refine h_lcmp C dX6_isNear_189 ?_
              refine h_if_ge C 197 dX6_isNear_190 (by decide) (fun c_190 => ?_) (fun c_190 => ?_)
              · refine h_iconst C 0 dX6_isNear_197 (by decide) ?_
                refine h_zret C rfl (by decide) (Nat.zero_le _) (Nat.zero_le _) dX6_isNear_198 ?_
                refine ⟨⟨_, rfl, ?_⟩, rfl⟩
                clear C hin hY
                unfold isB nearA nearP
                unfold lg_cmp at *
                grind
              · refine h_iconst C 1 dX6_isNear_193 (by decide) ?_
                refine h_goto C 198 dX6_isNear_194 (by decide) ?_
                refine h_zret C rfl (by decide) (Nat.zero_le _) (Nat.zero_le _) dX6_isNear_198 ?_
                refine ⟨⟨_, rfl, ?_⟩, rfl⟩
                clear C hin hY
                unfold isB nearA nearP
                unfold lg_cmp at *
                grind
          · refine h_lload C 4 dX6_isNear_127 rfl ?_
            refine h_lload C 4 dX6_isNear_129 rfl ?_
            refine h_lmul C dX6_isNear_131 ?_
            refine h_lload C 3 dX6_isNear_132 rfl ?_
            refine h_lload C 3 dX6_isNear_134 rfl ?_
            refine h_lmul C dX6_isNear_136 ?_
            refine h_ladd C dX6_isNear_137 ?_
            refine h_lload C 2 dX6_isNear_138 rfl ?_
            refine h_lload C 2 dX6_isNear_140 rfl ?_
            refine h_lmul C dX6_isNear_142 ?_
            refine h_lcmp C dX6_isNear_143 ?_
            refine h_if_ge C 151 dX6_isNear_144 (by decide) (fun c_144 => ?_) (fun c_144 => ?_)
            · refine h_iconst C 0 dX6_isNear_151 (by decide) ?_
              refine h_zret C rfl (by decide) (Nat.zero_le _) (Nat.zero_le _) dX6_isNear_152 ?_
              refine ⟨⟨_, rfl, ?_⟩, rfl⟩
              clear C hin hY
              unfold isB nearA nearP
              unfold lg_cmp at *
              grind
            · refine h_iconst C 1 dX6_isNear_147 (by decide) ?_
              refine h_goto C 152 dX6_isNear_148 (by decide) ?_
              refine h_zret C rfl (by decide) (Nat.zero_le _) (Nat.zero_le _) dX6_isNear_152 ?_
              refine ⟨⟨_, rfl, ?_⟩, rfl⟩
              clear C hin hY
              unfold isB nearA nearP
              unfold lg_cmp at *
              grind
        · exact absurd hj1 c_17
/-- the line i of the path: its other end -/
def lineTo (σ : ha_St) (i : Int32) : Int32 := if gI σ 32 2 = 1 then i else i + 1
def lines (σ : ha_St) : Int32 := if gI σ 32 2 = 1 then 1 else gI σ 32 2 - 1
def nearI (σ : ha_St) (i : Int32) (a : Nat) : Prop := nearA σ i.toNatClampNeg (lineTo σ i).toNatClampNeg a
/-- the first line that is near -/
def firstN (σ : ha_St) (a : Nat) (r : Int32) : Prop := (0 ≤ r ∧ r < lines σ ∧ nearI σ r a ∧ ∀ i : Int32, 0 ≤ i → i < r → ¬ nearI σ i a) ∨ (r = -1 ∧ ∀ i : Int32, 0 ≤ i → i < lines σ → ¬ nearI σ i a)
set_option maxRecDepth 100000 in
set_option maxHeartbeats 4000000 in
theorem m_X6_firstLineNear {G : ha_G} {l : Launch} {σ : ha_St} {a t ln : Nat} (hY : LY σ) (hs0 : 0 < gI σ 32 2) (hs1 : gI σ 32 2 ≤ 40) (hT : gT σ a = (t, ln)) (ht : pT t) : hM G l yX6_firstLineNear cX6_firstLineNear 4 (some .int) { frames := 1, cells := 0, slots := 0, locals := 39 } [.ref (ad G 32), .ref (ad G a)] σ (fun v σ' => (∃ r, v = some (.int r) ∧ firstN σ a r) ∧ σ' = σ) := by
  refine hM_ofF [(0, .ref (ad G 32)), (1, .ref (ad G a))] (by decide +kernel) (Nat.le_of_ble_eq_true rfl) rfl ?_
  intro p e s m args below meth c0 C hin
  refine h_join (α := Int32) 18 (fun x => x = lines σ) (fun x => [(0, .ref (ad G 32)), (1, .ref (ad G a))]) (fun x => [.int x]) (fun x => σ) (fun x => 0) (fun x => 0) ?_ (fun J_1 => ?_)
  · rintro x hJ
    show hW _ _ _ _ _ _ _ _ _ _ _ _ _ 18 [(0, .ref (ad G 32)), (1, .ref (ad G a))] [.int x] σ 0 0
    refine h_istore_n C [(2, .int x), (0, .ref (ad G 32)), (1, .ref (ad G a))] dX6_firstLineNear_18 rfl (by decide) rfl ?_
    have hJ0 := hJ
    refine h_iconst C 0 dX6_firstLineNear_19 (by decide) ?_
    refine h_istore_n C [(3, .int 0), (2, .int x), (0, .ref (ad G 32)), (1, .ref (ad G a))] dX6_firstLineNear_20 rfl (by decide) rfl ?_
    refine h_sub [2, 3, 1, 0] rfl ?_
    refine h_loop (α := Int32) (fun i => 0 ≤ i ∧ ∀ y : Int32, 0 ≤ y → y < i → ¬ nearI σ y a) (fun i => tm x i) (fun i => [(0, .ref (ad G 32)), (1, .ref (ad G a)), (2, .int x), (3, .int i)]) (fun i => []) (fun i => σ) (fun i => 0) (fun i => 0) ?_ 0 ?_
    · rintro i hI ih
      show hW _ _ _ _ _ _ _ _ _ _ _ _ _ 21 [(0, .ref (ad G 32)), (1, .ref (ad G a)), (2, .int x), (3, .int i)] [] σ 0 0
      refine h_iload_n C 3 dX6_firstLineNear_21 rfl rfl ?_
      refine h_iload_n C 2 dX6_firstLineNear_22 rfl rfl ?_
      refine h_icmp_ge C 58 dX6_firstLineNear_23 (by decide) (fun c_23 => ?_) (fun c_23 => ?_)
      · refine h_iconst C (-1) dX6_firstLineNear_58 (by decide) ?_
        refine h_iret C rfl (Nat.zero_le _) (Nat.zero_le _) dX6_firstLineNear_59 ?_
        refine ⟨⟨_, rfl, Or.inr ⟨rfl, fun i h1 h2 => hI.2 i h1 ?_⟩⟩, rfl⟩
        rw [← hJ0] at h2
        exact Int32.lt_of_lt_of_le h2 c_23
      · refine h_aload_n C 0 dX6_firstLineNear_26 rfl rfl ?_
        refine h_iload_n C 3 dX6_firstLineNear_27 rfl rfl ?_
        refine h_join (α := Int32) 43 (fun y => y = lineTo σ i) (fun y => [(0, .ref (ad G 32)), (1, .ref (ad G a)), (2, .int x), (3, .int i)]) (fun y => [.int y, .int i, .ref (ad G 32)]) (fun y => σ) (fun y => 0) (fun y => 0) ?_ (fun J_2 => ?_)
        · rintro y hJ
          show hW _ _ _ _ _ _ _ _ _ _ _ _ _ 43 [(0, .ref (ad G 32)), (1, .ref (ad G a)), (2, .int x), (3, .int i)] [.int y, .int i, .ref (ad G 32)] σ 0 0
          refine h_aload_n C 1 dX6_firstLineNear_43 rfl rfl ?_
          refine h_callV C (m_X6_isNear hY hI.1 (by unfold lines at hJ0; grind) (by rw [hJ]; unfold lineTo; grind) (by rw [hJ]; unfold lineTo lines at *; grind) hT ht) caX6_25 kX6 (ty_32 hY) ⟨by decide, by decide, by decide, by decide⟩ rfl rfl (Nat.le_of_ble_eq_true rfl) dX6_firstLineNear_44 ?_
          rintro v σ' ⟨⟨rb, rfl, hb⟩, h2⟩; rw [h2]; clear h2; rw [hJ] at hb
          show hW _ _ _ _ _ _ _ _ _ _ _ _ _ 47 [(0, .ref (ad G 32)), (1, .ref (ad G a)), (2, .int x), (3, .int i)] [.int rb] σ 0 0
          refine h_if_eq C 52 dX6_firstLineNear_47 (by decide) (fun c_47 => ?_) (fun c_47 => ?_)
          · refine h_iinc C [(3, .int (i + 1)), (0, .ref (ad G 32)), (1, .ref (ad G a)), (2, .int x)] 3 (i + 1) dX6_firstLineNear_52 rfl rfl (by decide) rfl ?_
            refine h_goto C 21 dX6_firstLineNear_55 (by decide) ?_
            refine h_sub [1, 2, 3, 0] rfl ?_
            refine ih (i + 1) ?_ ?_
            · have hlt := Int32.not_le.mp c_23
              refine ⟨(le_succ hI.1 hlt).1, fun y h1 h2 => ?_⟩
              by_cases hy : y = i
              · rw [hy]
                rcases hb with ⟨e, hb⟩ | ⟨e, hb⟩
                · exact absurd (e.symm.trans c_47) (by decide)
                · exact hb
              · exact hI.2 y h1 (by grind)
            · exact tm_lt (Int32.not_le.mp c_23)
          · refine h_iload_n C 3 dX6_firstLineNear_50 rfl rfl ?_
            refine h_iret C rfl (Nat.zero_le _) (Nat.zero_le _) dX6_firstLineNear_51 ?_
            refine ⟨⟨_, rfl, Or.inl ⟨hI.1, by rw [← hJ0]; exact Int32.not_le.mp c_23, ?_, hI.2⟩⟩, rfl⟩
            rcases hb with ⟨e, hb⟩ | ⟨e, hb⟩
            · exact hb
            · exact absurd e c_47
        · refine h_aload_n C 0 dX6_firstLineNear_28 rfl rfl ?_
          refine gfX6_18 C (ty_32 hY) dX6_firstLineNear_29 ?_
          refine h_iconst C 1 dX6_firstLineNear_32 (by decide) ?_
          refine h_icmp_ne C 40 dX6_firstLineNear_33 (by decide) (fun c_33 => ?_) (fun c_33 => ?_)
          · refine h_iload_n C 3 dX6_firstLineNear_40 rfl rfl ?_
            refine h_iconst C 1 dX6_firstLineNear_41 (by decide) ?_
            refine h_iadd C dX6_firstLineNear_42 ?_
            refine J_2 (i + 1) ?_
            unfold lineTo
            first | rw [if_pos c_33] | rw [if_neg c_33]
          · refine h_iload_n C 3 dX6_firstLineNear_36 rfl rfl ?_
            refine h_goto C 43 dX6_firstLineNear_37 (by decide) ?_
            refine J_2 i ?_
            unfold lineTo
            first | rw [if_pos c_33] | rw [if_neg c_33]
    · exact ⟨by decide, fun y h1 h2 => absurd h2 (Int32.not_lt.mpr h1)⟩
  · refine h_aload_n C 0 dX6_firstLineNear_0 rfl rfl ?_
    refine gfX6_18 C (ty_32 hY) dX6_firstLineNear_1 ?_
    refine h_iconst C 1 dX6_firstLineNear_4 (by decide) ?_
    refine h_icmp_ne C 12 dX6_firstLineNear_5 (by decide) (fun c_5 => ?_) (fun c_5 => ?_)
    · refine h_aload_n C 0 dX6_firstLineNear_12 rfl rfl ?_
      refine gfX6_18 C (ty_32 hY) dX6_firstLineNear_13 ?_
      refine h_iconst C 1 dX6_firstLineNear_16 (by decide) ?_
      refine h_isub C dX6_firstLineNear_17 ?_
      refine J_1 ((gI σ 32 2) - 1) ?_
      unfold lines
      first | rw [if_pos c_5] | rw [if_neg c_5]
    · refine h_iconst C 1 dX6_firstLineNear_8 (by decide) ?_
      refine h_goto C 18 dX6_firstLineNear_9 (by decide) ?_
      refine J_1 1 ?_
      unfold lines
      first | rw [if_pos c_5] | rw [if_neg c_5]
