def addRow (σ : ha_St) (c : Nat) (x y z : Int32) : ha_St := sI (sL (sL (sL σ (c + 1) (gI σ c 3).toNatClampNeg x.toInt64) (c + 2) (gI σ c 3).toNatClampNeg y.toInt64) (c + 3) (gI σ c 3).toNatClampNeg z.toInt64) c 3 (gI σ c 3 + 1)
set_option maxRecDepth 100000 in
set_option maxHeartbeats 4000000 in
theorem m_X2_add {G : ha_G} {l : Launch} {σ : ha_St} {c a t ln : Nat} {push : Int32} (hc : isC σ c) (h0 : 0 ≤ gI σ c 3) (h1 : gI σ c 3 < 30) (hT : gT σ a = (t, ln)) (ht : pT t) : hM G l yX2_add cX2_add 3 none { frames := 3, cells := 0, slots := 0, locals := 63 } [.ref (ad G c), .ref (ad G a), .int push] σ (fun v σ' => v = none ∧ σ' = addRow σ c (pxOf σ a t push) (pyOf σ a t push) (tuOf σ a t push)) := by
  refine hM_ofF [(0, .ref (ad G c)), (1, .ref (ad G a)), (2, .int push)] (by decide +kernel) (Nat.le_of_ble_eq_true rfl) rfl ?_
  intro p e s m args below meth c0 C hin
  refine h_aload_n C 0 dX2_add_0 rfl rfl ?_
  refine gfX2_21 C hc.1 dX2_add_1 ?_
  refine h_bipush C 30 dX2_add_4 (by decide) ?_
  refine h_icmp_ge C 64 dX2_add_6 (by decide) (fun c_6 => ?_) (fun c_6 => ?_)
  · exact absurd h1 (Int32.not_lt.mpr c_6)
  · refine h_aload_n C 0 dX2_add_9 rfl rfl ?_
    refine gfX2_9 C hc.1 dX2_add_10 ?_
    refine h_tref (b := (c + 1)) hc.2.2.2.1.1 ?_
    refine h_aload_n C 0 dX2_add_13 rfl rfl ?_
    refine gfX2_21 C hc.1 dX2_add_14 ?_
    refine h_aload_n C 1 dX2_add_17 rfl rfl ?_
    refine h_iload_n C 2 dX2_add_18 rfl rfl ?_
    refine cvX2_47 C hT ht (by decide) (by decide) (by decide) (by decide) (Nat.le_of_ble_eq_true rfl) dX2_add_19 ?_
    refine h_i2l C dX2_add_22 ?_
    refine h_last C _ hc.2.1.1 (vp32 h0 h1 (by decide)) dX2_add_23 rfl ?_
    refine h_aload_n C 0 dX2_add_24 rfl rfl ?_
    refine gfX2_15 C hc.1 dX2_add_25 ?_
    refine h_tref (b := (c + 2)) hc.2.2.2.1.2.1 ?_
    refine h_aload_n C 0 dX2_add_28 rfl rfl ?_
    refine gfX2_21 C hc.1 dX2_add_29 ?_
    refine h_aload_n C 1 dX2_add_32 rfl rfl ?_
    refine h_iload_n C 2 dX2_add_33 rfl rfl ?_
    refine cvX2_53 C hT ht (by decide) (by decide) (by decide) (by decide) (Nat.le_of_ble_eq_true rfl) dX2_add_34 ?_
    refine h_i2l C dX2_add_37 ?_
    refine h_last C _ hc.2.1.2.1 (vp32 h0 h1 (by decide)) dX2_add_38 rfl ?_
    refine h_aload_n C 0 dX2_add_39 rfl rfl ?_
    refine gfX2_18 C hc.1 dX2_add_40 ?_
    refine h_tref (b := (c + 3)) hc.2.2.2.1.2.2 ?_
    refine h_aload_n C 0 dX2_add_43 rfl rfl ?_
    refine gfX2_21 C hc.1 dX2_add_44 ?_
    refine h_aload_n C 1 dX2_add_47 rfl rfl ?_
    refine h_iload_n C 2 dX2_add_48 rfl rfl ?_
    refine cvX2_56 C hT ht (by decide) (by decide) (by decide) (by decide) (Nat.le_of_ble_eq_true rfl) dX2_add_49 ?_
    refine h_i2l C dX2_add_52 ?_
    refine h_last C _ hc.2.1.2.2 (vp32 h0 h1 (by decide)) dX2_add_53 rfl ?_
    refine h_aload_n C 0 dX2_add_54 rfl rfl ?_
    refine h_dup C dX2_add_55 rfl ?_
    refine gfX2_21 C hc.1 dX2_add_56 ?_
    refine h_iconst C 1 dX2_add_59 (by decide) ?_
    refine h_iadd C dX2_add_60 ?_
    refine pfX2_21 C hc.1 dX2_add_61 ?_
    refine h_vret C rfl (Nat.zero_le _) (Nat.zero_le _) dX2_add_64 ?_
    exact ⟨rfl, rfl⟩
def isNrm (σ : ha_St) (c : Nat) (σ' : ha_St) : Prop := (∃ j, 1 ≤ j ∧ j < (gI σ c 3).toNatClampNeg ∧ nrm σ' c = crs σ c 0 j) ∧ nrm σ' c ≠ zer
def measQ (σ : ha_St) (c : Nat) (r : Int32) (σ' : ha_St) : Prop := S3 σ c σ' ∧ ((r = 0 ∧ gI σ c 3 = 0) ∨ (r = 1 ∧ 0 < gI σ c 3 ∧ ∀ j, 1 ≤ j → j < (gI σ c 3).toNatClampNeg → crs σ c 0 j = zer) ∨
  (r = 2 ∧ isNrm σ c σ' ∧ ∀ j, 1 ≤ j → j < (gI σ c 3).toNatClampNeg → dotN σ' c j = 0) ∨ (r = 3 ∧ isNrm σ c σ' ∧ ∃ j, 1 ≤ j ∧ j < (gI σ c 3).toNatClampNeg ∧ dotN σ' c j ≠ 0))
theorem one_le_tn {i : Int32} (h : 1 ≤ i) : 1 ≤ i.toNatClampNeg := by
  have h0 : (0 : Int32) ≤ i := by grind
  have h1 := tn_int h0
  have h2 := Int32.le_iff_toInt_le.mp h
  rw [show (1 : Int32).toInt = 1 by decide] at h2
  omega
set_option maxRecDepth 100000 in
set_option maxHeartbeats 4000000 in
theorem m_X2_measured {G : ha_G} {l : Launch} {σ : ha_St} {c : Nat} (hc : isC σ c) (hs0 : 0 ≤ gI σ c 3) (hs1 : gI σ c 3 ≤ 30) : hM G l yX2_measured cX2_measured 3 (some .int) { frames := 1, cells := 0, slots := 0, locals := 27 } [.ref (ad G c)] σ (fun v σ' => ∃ r, v = some (.int r) ∧ measQ σ c r σ') := by
  refine hM_ofF [(0, .ref (ad G c))] (by decide +kernel) (Nat.le_of_ble_eq_true rfl) rfl ?_
  intro p e s m args below meth c0 C hin
  refine h_join (α := Int32) 12 (fun r => (r = 0 ∧ gI σ c 3 = 0) ∨ (r = 1 ∧ 0 < gI σ c 3)) (fun r => [(0, .ref (ad G c))]) (fun r => [.int r]) (fun r => σ) (fun r => 0) (fun r => 0) ?_ (fun J_1 => ?_)
  · rintro r hJ
    show hW _ _ _ _ _ _ _ _ _ _ _ _ _ 12 [(0, .ref (ad G c))] [.int r] σ 0 0
    refine h_istore_n C [(1, .int r), (0, .ref (ad G c))] dX2_measured_12 rfl (by decide) rfl ?_
    refine h_join (α := Int32 × ha_St) 86 (fun (r, σ1) => S3 σ c σ1 ∧ ((r = 0 ∧ gI σ c 3 = 0) ∨ (r = 1 ∧ 0 < gI σ c 3 ∧ ∀ j, 1 ≤ j → j < (gI σ c 3).toNatClampNeg → crs σ c 0 j = zer) ∨ (r = 2 ∧ isNrm σ c σ1))) (fun (r, σ1) => [(0, .ref (ad G c)), (1, .int r)]) (fun (r, σ1) => []) (fun (r, σ1) => σ1) (fun (r, σ1) => 0) (fun (r, σ1) => 0) ?_ (fun J_2 => ?_)
    · rintro ⟨r, σ1⟩ hJ
      show hW _ _ _ _ _ _ _ _ _ _ _ _ _ 86 [(0, .ref (ad G c)), (1, .int r)] [] σ1 0 0
      have hc : isC σ1 c := hJ.1.fr.isC hc
      refine h_iconst C 1 dX2_measured_86 (by decide) ?_
      refine h_istore_n C [(2, .int 1), (0, .ref (ad G c)), (1, .int r)] dX2_measured_87 rfl (by decide) rfl ?_
      refine h_sub [1, 2, 0] rfl ?_
      refine h_loop (α := Int32 × Int32) (fun (i, r) => 1 ≤ i ∧ ((r = 0 ∧ gI σ c 3 = 0) ∨ (r = 1 ∧ 0 < gI σ c 3 ∧ ∀ j, 1 ≤ j → j < (gI σ c 3).toNatClampNeg → crs σ c 0 j = zer) ∨ (r = 2 ∧ isNrm σ c σ1 ∧ ∀ j, 1 ≤ j → j < i.toNatClampNeg → dotN σ1 c j = 0) ∨ (r = 3 ∧ isNrm σ c σ1 ∧ ∃ j, 1 ≤ j ∧ j < (gI σ c 3).toNatClampNeg ∧ dotN σ1 c j ≠ 0))) (fun (i, r) => tm (gI σ c 3) i) (fun (i, r) => [(0, .ref (ad G c)), (1, .int r), (2, .int i)]) (fun (i, r) => []) (fun (i, r) => σ1) (fun (i, r) => 0) (fun (i, r) => 0) ?_ (1, r) ?_
      · rintro ⟨i, r⟩ hI ih
        show hW _ _ _ _ _ _ _ _ _ _ _ _ _ 88 [(0, .ref (ad G c)), (1, .int r), (2, .int i)] [] σ1 0 0
        have hz := hJ.1.fr.2.2.2.2.2
        refine h_iload_n C 2 dX2_measured_88 rfl rfl ?_
        refine h_aload_n C 0 dX2_measured_89 rfl rfl ?_
        refine gfX2_21 C hc.1 dX2_measured_90 ?_
        refine h_icmp_ge C 119 dX2_measured_93 (by decide) (fun c_93 => ?_) (fun c_93 => ?_)
        · refine h_iload_n C 1 dX2_measured_119 rfl rfl ?_
          refine h_iret C rfl (Nat.zero_le _) (Nat.zero_le _) dX2_measured_120 ?_
          refine ⟨_, rfl, hJ.1, ?_⟩
          rcases hI.2 with h | h | ⟨q1, q2, q3⟩ | h
          · exact Or.inl h
          · exact Or.inr (Or.inl h)
          · first
              | exact absurd q1 c_98
              | exact Or.inr (Or.inr (Or.inl ⟨q1, q2, fun j g1 g2 => q3 j g1 (Nat.lt_of_lt_of_le g2 (tn_le (by grind) (by rw [← hz]; exact c_93)))⟩))
          · exact Or.inr (Or.inr (Or.inr h))
        · refine h_iload_n C 1 dX2_measured_96 rfl rfl ?_
          refine h_iconst C 2 dX2_measured_97 (by decide) ?_
          refine h_icmp_ne C 119 dX2_measured_98 (by decide) (fun c_98 => ?_) (fun c_98 => ?_)
          · refine h_iload_n C 1 dX2_measured_119 rfl rfl ?_
            refine h_iret C rfl (Nat.zero_le _) (Nat.zero_le _) dX2_measured_120 ?_
            refine ⟨_, rfl, hJ.1, ?_⟩
            rcases hI.2 with h | h | ⟨q1, q2, q3⟩ | h
            · exact Or.inl h
            · exact Or.inr (Or.inl h)
            · first
                | exact absurd q1 c_98
                | exact Or.inr (Or.inr (Or.inl ⟨q1, q2, fun j g1 g2 => q3 j g1 (Nat.lt_of_lt_of_le g2 (tn_le (by grind) (by rw [← hz]; exact c_93)))⟩))
            · exact Or.inr (Or.inr (Or.inr h))
          · refine h_aload_n C 0 dX2_measured_101 rfl rfl ?_
            refine h_iload_n C 2 dX2_measured_102 rfl rfl ?_
            refine h_callV C (m_X2_alongNormal hc (by grind) (Int32.lt_of_lt_of_le (Int32.not_le.mp c_93) (by rw [hz]; exact hs1))) caX2_63 kX2 hc.1 ⟨by decide, by decide, by decide, by decide⟩ rfl rfl (Nat.le_of_ble_eq_true rfl) dX2_measured_103 ?_
            rintro v σ' ⟨rfl, h2⟩; rw [h2]; clear h2
            show hW _ _ _ _ _ _ _ _ _ _ _ _ _ 106 [(0, .ref (ad G c)), (1, .int r), (2, .int i)] [.long (dotN σ1 c i.toNatClampNeg)] σ1 0 0
            refine h_lconst C 0 dX2_measured_106 rfl ?_
            refine h_lcmp C dX2_measured_107 ?_
            refine h_if_eq C 113 dX2_measured_108 (by decide) (fun c_108 => ?_) (fun c_108 => ?_)
            · refine h_iinc C [(2, .int (i + 1)), (0, .ref (ad G c)), (1, .int r)] 2 (i + 1) dX2_measured_113 rfl rfl (by decide) rfl ?_
              refine h_goto C 88 dX2_measured_116 (by decide) ?_
              refine h_sub [1, 2, 0] rfl ?_
              refine ih ((i + 1), r) ?_ ?_
              · have hlt : i < gI σ c 3 := by rw [← hz]; exact Int32.not_le.mp c_93
                have hr2 : r = 2 := c_98
                have hi0 : (0 : Int32) ≤ i := by grind
                refine ⟨by grind, ?_⟩
                rcases hI.2 with ⟨q, -⟩ | ⟨q, -⟩ | ⟨q1, q2, q3⟩ | ⟨q, -⟩
                · exact absurd (q.symm.trans hr2) (by decide)
                · exact absurd (q.symm.trans hr2) (by decide)
                · refine Or.inr (Or.inr (Or.inl ⟨q1, q2, fun j g1 g2 => ?_⟩))
                  rw [tn_succ hi0 hlt] at g2
                  by_cases hj : j = i.toNatClampNeg
                  · rw [hj]; exact lg_eq0.mp c_108
                  · exact q3 j g1 (by omega)
                · exact absurd (q.symm.trans hr2) (by decide)
              · rw [← hz]
                exact tm_lt (Int32.not_le.mp c_93)
            · refine h_iconst C 3 dX2_measured_111 (by decide) ?_
              refine h_istore_n C [(1, .int 3), (0, .ref (ad G c)), (2, .int i)] dX2_measured_112 rfl (by decide) rfl ?_
              refine h_iinc C [(2, .int (i + 1)), (1, .int 3), (0, .ref (ad G c))] 2 (i + 1) dX2_measured_113 rfl rfl (by decide) rfl ?_
              refine h_goto C 88 dX2_measured_116 (by decide) ?_
              refine h_sub [2, 1, 0] rfl ?_
              refine ih ((i + 1), 3) ?_ ?_
              · have hlt : i < gI σ c 3 := by rw [← hz]; exact Int32.not_le.mp c_93
                have hr2 : r = 2 := c_98
                have hi0 : (0 : Int32) ≤ i := by grind
                refine ⟨by grind, ?_⟩
                rcases hI.2 with ⟨q, -⟩ | ⟨q, -⟩ | ⟨q1, q2, q3⟩ | ⟨q, -⟩
                · exact absurd (q.symm.trans hr2) (by decide)
                · exact absurd (q.symm.trans hr2) (by decide)
                · exact Or.inr (Or.inr (Or.inr ⟨rfl, q2, _, one_le_tn hI.1, tn_lt hi0 hlt, fun q => c_108 (lg_eq0.mpr q)⟩))
                · exact absurd (q.symm.trans hr2) (by decide)
              · rw [← hz]
                exact tm_lt (Int32.not_le.mp c_93)
      · refine ⟨by decide, ?_⟩
        rcases hJ.2 with h | h | ⟨h1, h2⟩
        · exact Or.inl h
        · exact Or.inr (Or.inl h)
        · exact Or.inr (Or.inr (Or.inl ⟨h1, h2, fun j g1 g2 => absurd g2 (by rw [show (1 : Int32).toNatClampNeg = 1 by decide]; omega)⟩))
    · refine h_iconst C 1 dX2_measured_13 (by decide) ?_
      refine h_istore_n C [(2, .int 1), (1, .int r), (0, .ref (ad G c))] dX2_measured_14 rfl (by decide) rfl ?_
      refine h_sub [2, 1, 0] rfl ?_
      refine h_loop (α := Int32 × Int32 × ha_St) (fun (i, r, σ1) => 1 ≤ i ∧ S3 σ c σ1 ∧ ((r = 0 ∧ gI σ c 3 = 0) ∨ (r = 1 ∧ 0 < gI σ c 3 ∧ ∀ j, 1 ≤ j → j < i.toNatClampNeg → crs σ c 0 j = zer) ∨ (r = 2 ∧ isNrm σ c σ1))) (fun (i, r, σ1) => tm (gI σ c 3) i) (fun (i, r, σ1) => [(0, .ref (ad G c)), (1, .int r), (2, .int i)]) (fun (i, r, σ1) => []) (fun (i, r, σ1) => σ1) (fun (i, r, σ1) => 0) (fun (i, r, σ1) => 0) ?_ (1, r, σ) ?_
      · rintro ⟨i, r, σ1⟩ hI ih
        show hW _ _ _ _ _ _ _ _ _ _ _ _ _ 15 [(0, .ref (ad G c)), (1, .int r), (2, .int i)] [] σ1 0 0
        have hc : isC σ1 c := hI.2.1.fr.isC hc
        have hz := hI.2.1.fr.2.2.2.2.2
        refine h_iload_n C 2 dX2_measured_15 rfl rfl ?_
        refine h_aload_n C 0 dX2_measured_16 rfl rfl ?_
        refine gfX2_21 C hc.1 dX2_measured_17 ?_
        refine h_icmp_ge C 86 dX2_measured_20 (by decide) (fun c_20 => ?_) (fun c_20 => ?_)
        · refine h_sub [0, 1] rfl ?_
          refine J_2 (r, σ1) ?_
          refine ⟨hI.2.1, ?_⟩
          have hz := hI.2.1.fr.2.2.2.2.2
          rcases hI.2.2 with h | ⟨q1, q2, q3⟩ | h
          · exact Or.inl h
          · first
              | exact absurd q1 c_25
              | exact Or.inr (Or.inl ⟨q1, q2, fun j g1 g2 => q3 j g1 (Nat.lt_of_lt_of_le g2 (tn_le (by grind) (by rw [← hz]; exact c_20)))⟩)
          · exact Or.inr (Or.inr h)
        · refine h_iload_n C 1 dX2_measured_23 rfl rfl ?_
          refine h_iconst C 1 dX2_measured_24 (by decide) ?_
          refine h_icmp_ne C 86 dX2_measured_25 (by decide) (fun c_25 => ?_) (fun c_25 => ?_)
          · refine h_sub [0, 1] rfl ?_
            refine J_2 (r, σ1) ?_
            refine ⟨hI.2.1, ?_⟩
            have hz := hI.2.1.fr.2.2.2.2.2
            rcases hI.2.2 with h | ⟨q1, q2, q3⟩ | h
            · exact Or.inl h
            · first
                | exact absurd q1 c_25
                | exact Or.inr (Or.inl ⟨q1, q2, fun j g1 g2 => q3 j g1 (Nat.lt_of_lt_of_le g2 (tn_le (by grind) (by rw [← hz]; exact c_20)))⟩)
            · exact Or.inr (Or.inr h)
          · refine h_aload_n C 0 dX2_measured_28 rfl rfl ?_
            refine h_aload_n C 0 dX2_measured_29 rfl rfl ?_
            refine gfX2_9 C hc.1 dX2_measured_30 ?_
            refine h_tref (b := (c + 1)) hc.2.2.2.1.1 ?_
            refine h_iconst C 0 dX2_measured_33 (by decide) ?_
            refine h_lald C hc.2.1.1 (vp32 (N := 30) (by decide) (by decide) (by decide)) dX2_measured_34 ?_
            refine h_aload_n C 0 dX2_measured_35 rfl rfl ?_
            refine gfX2_15 C hc.1 dX2_measured_36 ?_
            refine h_tref (b := (c + 2)) hc.2.2.2.1.2.1 ?_
            refine h_iconst C 0 dX2_measured_39 (by decide) ?_
            refine h_lald C hc.2.1.2.1 (vp32 (N := 30) (by decide) (by decide) (by decide)) dX2_measured_40 ?_
            refine h_aload_n C 0 dX2_measured_41 rfl rfl ?_
            refine gfX2_18 C hc.1 dX2_measured_42 ?_
            refine h_tref (b := (c + 3)) hc.2.2.2.1.2.2 ?_
            refine h_iconst C 0 dX2_measured_45 (by decide) ?_
            refine h_lald C hc.2.1.2.2 (vp32 (N := 30) (by decide) (by decide) (by decide)) dX2_measured_46 ?_
            refine h_iload_n C 2 dX2_measured_47 rfl rfl ?_
            refine h_callV C (m_X2_takeCross hc (by grind) (Int32.lt_of_lt_of_le (Int32.not_le.mp c_20) (by rw [hz]; exact hs1))) caX2_59 kX2 hc.1 ⟨by decide, by decide, by decide, by decide⟩ rfl rfl (Nat.le_of_ble_eq_true rfl) dX2_measured_48 ?_
            rintro v σ' ⟨rfl, h2⟩; rw [h2]; clear h2
            show hW _ _ _ _ _ _ _ _ _ _ _ _ _ 51 [(0, .ref (ad G c)), (1, .int r), (2, .int i)] [] (tcr σ1 c (cP σ1 c 0) (cQ σ1 c 0) (cM σ1 c 0) i.toNatClampNeg) 0 0
            refine h_aload_n C 0 dX2_measured_51 rfl rfl ?_
            refine gfX2_37 C hc.1 dX2_measured_52 ?_
            refine h_lconst C 0 dX2_measured_55 rfl ?_
            refine h_lcmp C dX2_measured_56 ?_
            refine h_if_ne C 78 dX2_measured_57 (by decide) (fun c_57 => ?_) (fun c_57 => ?_)
            · refine h_iconst C 2 dX2_measured_78 (by decide) ?_
              refine h_istore_n C [(1, .int 2), (0, .ref (ad G c)), (2, .int i)] dX2_measured_79 rfl (by decide) rfl ?_
              refine h_iinc C [(2, .int (i + 1)), (1, .int 2), (0, .ref (ad G c))] 2 (i + 1) dX2_measured_80 rfl rfl (by decide) rfl ?_
              refine h_goto C 15 dX2_measured_83 (by decide) ?_
              refine h_sub [2, 1, 0] rfl ?_
              refine ih ((i + 1), 2, (tcr σ1 c (cP σ1 c 0) (cQ σ1 c 0) (cM σ1 c 0) i.toNatClampNeg)) ?_ ?_
              · have hlt : i < gI σ c 3 := by rw [← hz]; exact Int32.not_le.mp c_20
                have hr1 : r = 1 := c_25
                have hi0 : (0 : Int32) ≤ i := by grind
                have hcr := nrm_tcr (σ := σ1) (c := c) (i := 0) (j := i.toNatClampNeg)
                rw [frC_crs hI.2.1.fr] at hcr
                refine ⟨by grind, S3_tcr hI.2.1, ?_⟩
                refine Or.inr (Or.inr ⟨rfl, ⟨i.toNatClampNeg, one_le_tn hI.1, tn_lt hi0 hlt, hcr⟩, fun q => ?_⟩)
                have q3 := nrm_zer.mp q
                first | exact c_57 (lg_eq0.mpr q3.1) | exact c_66 (lg_eq0.mpr q3.2.1) | exact c_75 (lg_eq0.mpr q3.2.2)
              · rw [← hz]
                exact tm_lt (Int32.not_le.mp c_20)
            · refine h_aload_n C 0 dX2_measured_60 rfl rfl ?_
              refine gfX2_41 C hc.1 dX2_measured_61 ?_
              refine h_lconst C 0 dX2_measured_64 rfl ?_
              refine h_lcmp C dX2_measured_65 ?_
              refine h_if_ne C 78 dX2_measured_66 (by decide) (fun c_66 => ?_) (fun c_66 => ?_)
              · refine h_iconst C 2 dX2_measured_78 (by decide) ?_
                refine h_istore_n C [(1, .int 2), (0, .ref (ad G c)), (2, .int i)] dX2_measured_79 rfl (by decide) rfl ?_
                refine h_iinc C [(2, .int (i + 1)), (1, .int 2), (0, .ref (ad G c))] 2 (i + 1) dX2_measured_80 rfl rfl (by decide) rfl ?_
                refine h_goto C 15 dX2_measured_83 (by decide) ?_
                refine h_sub [2, 1, 0] rfl ?_
                refine ih ((i + 1), 2, (tcr σ1 c (cP σ1 c 0) (cQ σ1 c 0) (cM σ1 c 0) i.toNatClampNeg)) ?_ ?_
                · have hlt : i < gI σ c 3 := by rw [← hz]; exact Int32.not_le.mp c_20
                  have hr1 : r = 1 := c_25
                  have hi0 : (0 : Int32) ≤ i := by grind
                  have hcr := nrm_tcr (σ := σ1) (c := c) (i := 0) (j := i.toNatClampNeg)
                  rw [frC_crs hI.2.1.fr] at hcr
                  refine ⟨by grind, S3_tcr hI.2.1, ?_⟩
                  refine Or.inr (Or.inr ⟨rfl, ⟨i.toNatClampNeg, one_le_tn hI.1, tn_lt hi0 hlt, hcr⟩, fun q => ?_⟩)
                  have q3 := nrm_zer.mp q
                  first | exact c_57 (lg_eq0.mpr q3.1) | exact c_66 (lg_eq0.mpr q3.2.1) | exact c_75 (lg_eq0.mpr q3.2.2)
                · rw [← hz]
                  exact tm_lt (Int32.not_le.mp c_20)
              · refine h_aload_n C 0 dX2_measured_69 rfl rfl ?_
                refine gfX2_44 C hc.1 dX2_measured_70 ?_
                refine h_lconst C 0 dX2_measured_73 rfl ?_
                refine h_lcmp C dX2_measured_74 ?_
                refine h_if_eq C 80 dX2_measured_75 (by decide) (fun c_75 => ?_) (fun c_75 => ?_)
                · refine h_iinc C [(2, .int (i + 1)), (0, .ref (ad G c)), (1, .int r)] 2 (i + 1) dX2_measured_80 rfl rfl (by decide) rfl ?_
                  refine h_goto C 15 dX2_measured_83 (by decide) ?_
                  refine h_sub [1, 2, 0] rfl ?_
                  refine ih ((i + 1), r, (tcr σ1 c (cP σ1 c 0) (cQ σ1 c 0) (cM σ1 c 0) i.toNatClampNeg)) ?_ ?_
                  · have hlt : i < gI σ c 3 := by rw [← hz]; exact Int32.not_le.mp c_20
                    have hr1 : r = 1 := c_25
                    have hi0 : (0 : Int32) ≤ i := by grind
                    have hcr := nrm_tcr (σ := σ1) (c := c) (i := 0) (j := i.toNatClampNeg)
                    rw [frC_crs hI.2.1.fr] at hcr
                    refine ⟨by grind, S3_tcr hI.2.1, ?_⟩
                    rcases hI.2.2 with ⟨q, -⟩ | ⟨q1, q2, q3⟩ | ⟨q, -⟩
                    · exact absurd (q.symm.trans hr1) (by decide)
                    · refine Or.inr (Or.inl ⟨q1, q2, fun j g1 g2 => ?_⟩)
                      rw [tn_succ hi0 hlt] at g2
                      by_cases hj : j = i.toNatClampNeg
                      · rw [hj, ← hcr]
                        exact nrm_zer.mpr ⟨lg_eq0.mp c_57, lg_eq0.mp c_66, lg_eq0.mp c_75⟩
                      · exact q3 j g1 (by omega)
                    · exact absurd (q.symm.trans hr1) (by decide)
                  · rw [← hz]
                    exact tm_lt (Int32.not_le.mp c_20)
                · refine h_iconst C 2 dX2_measured_78 (by decide) ?_
                  refine h_istore_n C [(1, .int 2), (0, .ref (ad G c)), (2, .int i)] dX2_measured_79 rfl (by decide) rfl ?_
                  refine h_iinc C [(2, .int (i + 1)), (1, .int 2), (0, .ref (ad G c))] 2 (i + 1) dX2_measured_80 rfl rfl (by decide) rfl ?_
                  refine h_goto C 15 dX2_measured_83 (by decide) ?_
                  refine h_sub [2, 1, 0] rfl ?_
                  refine ih ((i + 1), 2, (tcr σ1 c (cP σ1 c 0) (cQ σ1 c 0) (cM σ1 c 0) i.toNatClampNeg)) ?_ ?_
                  · have hlt : i < gI σ c 3 := by rw [← hz]; exact Int32.not_le.mp c_20
                    have hr1 : r = 1 := c_25
                    have hi0 : (0 : Int32) ≤ i := by grind
                    have hcr := nrm_tcr (σ := σ1) (c := c) (i := 0) (j := i.toNatClampNeg)
                    rw [frC_crs hI.2.1.fr] at hcr
                    refine ⟨by grind, S3_tcr hI.2.1, ?_⟩
                    refine Or.inr (Or.inr ⟨rfl, ⟨i.toNatClampNeg, one_le_tn hI.1, tn_lt hi0 hlt, hcr⟩, fun q => ?_⟩)
                    have q3 := nrm_zer.mp q
                    first | exact c_57 (lg_eq0.mpr q3.1) | exact c_66 (lg_eq0.mpr q3.2.1) | exact c_75 (lg_eq0.mpr q3.2.2)
                  · rw [← hz]
                    exact tm_lt (Int32.not_le.mp c_20)
      · refine ⟨by decide, S3_rf, ?_⟩
        rcases hJ with h | ⟨h1, h2⟩
        · exact Or.inl h
        · exact Or.inr (Or.inl ⟨h1, h2, fun j g1 g2 => absurd g2 (by rw [show (1 : Int32).toNatClampNeg = 1 by decide]; omega)⟩)
  · refine h_aload_n C 0 dX2_measured_0 rfl rfl ?_
    refine gfX2_21 C hc.1 dX2_measured_1 ?_
    refine h_if_ne C 11 dX2_measured_4 (by decide) (fun c_4 => ?_) (fun c_4 => ?_)
    · refine h_iconst C 1 dX2_measured_11 (by decide) ?_
      refine J_1 1 ?_
      first | exact Or.inl ⟨rfl, c_4⟩ | exact Or.inr ⟨rfl, by grind⟩
    · refine h_iconst C 0 dX2_measured_7 (by decide) ?_
      refine h_goto C 12 dX2_measured_8 (by decide) ?_
      refine J_1 0 ?_
      first | exact Or.inl ⟨rfl, c_4⟩ | exact Or.inr ⟨rfl, by grind⟩
def bb (σ : ha_St) (c : Nat) (a b w : Int64) : ha_St := bonce (bonce σ c a b w) c (-a) (-b) (-w)
theorem frC_bb {c : Nat} {σ : ha_St} {a b w : Int64} : frC c σ (bb σ c a b w) := frC_bonce.tr frC_bonce
theorem nOK_bb {c : Nat} {σ : ha_St} {a b w : Int64} (h : nOK σ c) : nOK (bb σ c a b w) c := nOK_bonce (nOK_bonce h)
def line3 (σ : ha_St) (c : Nat) : ha_St := bb (bb (bb σ c 0 (cM σ c 0) (-cQ σ c 0)) c (-cM (bb σ c 0 (cM σ c 0) (-cQ σ c 0)) c 0) 0 (cP (bb σ c 0 (cM σ c 0) (-cQ σ c 0)) c 0)) c (cQ (bb (bb σ c 0 (cM σ c 0) (-cQ σ c 0)) c (-cM (bb σ c 0 (cM σ c 0) (-cQ σ c 0)) c 0) 0 (cP (bb σ c 0 (cM σ c 0) (-cQ σ c 0)) c 0)) c 0) (-cP (bb (bb σ c 0 (cM σ c 0) (-cQ σ c 0)) c (-cM (bb σ c 0 (cM σ c 0) (-cQ σ c 0)) c 0) 0 (cP (bb σ c 0 (cM σ c 0) (-cQ σ c 0)) c 0)) c 0) 0
theorem frC_line3 {c : Nat} {σ : ha_St} : frC c σ (line3 σ c) := frC_bb.tr (frC_bb.tr frC_bb)
theorem nOK_line3 {c : Nat} {σ : ha_St} (h : nOK σ c) : nOK (line3 σ c) c := nOK_bb (nOK_bb (nOK_bb h))
def lineIn (σ : ha_St) (c : Nat) : ha_St := set3 (line3 σ c) c (cP (line3 σ c) c 0) (cQ (line3 σ c) c 0) (cM (line3 σ c) c 0)
