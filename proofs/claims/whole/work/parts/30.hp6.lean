def inC (σ : ha_St) (x y z : Int64) : Prop := ∀ k, k < (gI σ 9 7).toNatClampNeg → ¬ dotB σ 9 k x y z < 0
/-- what the pushes must bring -/
def heldP (σ : ha_St) (p q m f : Int64) : Prop := inC σ (-p - f * gL σ 16 0) (-q - f * gL σ 16 1) (-m - f * gL σ 16 2)
theorem rfrQ_ok {σ σ' : ha_St} (h : rfrQ σ σ') (hY : LY σ) (hP : PN σ) (hn : nOK σ 9) : LY σ' ∧ PN σ' ∧ nOK σ' 9 ∧ (∀ a, a ≠ 0 → a < 9 ∨ 17 ≤ a → gI σ' a = gI σ a ∧ gL σ' a = gL σ a) ∧ gI σ' 0 1 = gI σ 0 1 ∧ gT σ' = gT σ ∧ gR σ' = gR σ ∧ gn σ' = gn σ ∧ gI σ' 0 5 = 0 := by
  rcases h with ⟨h0, rfl⟩ | ⟨h0, s, hb, rfl, f, -⟩
  · exact ⟨hY, hP, hn, fun _ _ _ => ⟨rfl, rfl⟩, rfl, rfl, rfl, rfl, h0⟩
  · have f1 := f.tr ((bndQ_fr hb).1.X.up (lo' := 9) (hi' := 17) (by omega) (by omega))
    have e01 : gI s 0 = gI σ 0 := (f1.2.2.2 0 (by omega)).1
    refine ⟨(f1.LY hY).same rfl rfl rfl, ?_, (bndQ_fr hb).2, fun a h1 h2 => ⟨?_, (f1.2.2.2 a (by omega)).2⟩, ?_, f1.1, f1.2.1, f1.2.2.1, by rw [gI_sI, if_pos ⟨rfl, rfl⟩]⟩
    · have hP1 := frX_PN f1 (by decide) hP
      unfold PN at *
      rw [gI_sI, if_neg (by omega)]
      exact hP1
    · rw [← (f1.2.2.2 a (by omega)).1]
      funext j
      rw [gI_sI, if_neg (by omega)]
    · rw [gI_sI, if_neg (by omega), e01]
set_option maxRecDepth 100000 in
set_option maxHeartbeats 4000000 in
theorem m_X10_isHeld {G : ha_G} {l : Launch} {σ : ha_St} {pp qq mm f : Int64} (hY : LY σ) (hn : nOK σ 9) : hM G l yX10_isHeld cX10_isHeld 9 (some .boolean) { frames := 2, cells := 0, slots := 0, locals := 54 } [.ref (ad G 0), .long pp, .long qq, .long mm, .long f] σ (fun v σ' => (∃ r, v = some (.int r) ∧ isB r (heldP σ pp qq mm f)) ∧ σ' = σ) := by
  refine hM_ofF [(0, .ref (ad G 0)), (1, .long pp), (3, .long qq), (5, .long mm), (7, .long f)] (by decide +kernel) (Nat.le_of_ble_eq_true rfl) rfl ?_
  intro p e s m args below meth c0 C hin
  refine h_aload_n C 0 dX10_isHeld_0 rfl rfl ?_
  refine gfX10_26 C (ty_0 hY) dX10_isHeld_1 ?_
  refine h_tref (b := 9) (rf_0_3 hY) ?_
  refine h_lload_n C 1 dX10_isHeld_4 rfl rfl ?_
  refine h_lneg C dX10_isHeld_5 ?_
  refine h_lload C 4 dX10_isHeld_6 rfl ?_
  refine h_aload_n C 0 dX10_isHeld_8 rfl rfl ?_
  refine gfX10_29 C (ty_0 hY) dX10_isHeld_9 ?_
  refine h_tref (b := 16) (rf_0_4 hY) ?_
  refine h_iconst C 0 dX10_isHeld_12 (by decide) ?_
  refine h_lald C (ty_16 hY) (vp32 (N := 3) (by decide) (by decide) (by decide)) dX10_isHeld_13 ?_
  refine h_lmul C dX10_isHeld_14 ?_
  refine h_lsub C dX10_isHeld_15 ?_
  refine h_lload_n C 2 dX10_isHeld_16 rfl rfl ?_
  refine h_lneg C dX10_isHeld_17 ?_
  refine h_lload C 4 dX10_isHeld_18 rfl ?_
  refine h_aload_n C 0 dX10_isHeld_20 rfl rfl ?_
  refine gfX10_29 C (ty_0 hY) dX10_isHeld_21 ?_
  refine h_tref (b := 16) (rf_0_4 hY) ?_
  refine h_iconst C 1 dX10_isHeld_24 (by decide) ?_
  refine h_lald C (ty_16 hY) (vp32 (N := 3) (by decide) (by decide) (by decide)) dX10_isHeld_25 ?_
  refine h_lmul C dX10_isHeld_26 ?_
  refine h_lsub C dX10_isHeld_27 ?_
  refine h_lload C 3 dX10_isHeld_28 rfl ?_
  refine h_lneg C dX10_isHeld_30 ?_
  refine h_lload C 4 dX10_isHeld_31 rfl ?_
  refine h_aload_n C 0 dX10_isHeld_33 rfl rfl ?_
  refine gfX10_29 C (ty_0 hY) dX10_isHeld_34 ?_
  refine h_tref (b := 16) (rf_0_4 hY) ?_
  refine h_iconst C 2 dX10_isHeld_37 (by decide) ?_
  refine h_lald C (ty_16 hY) (vp32 (N := 3) (by decide) (by decide) (by decide)) dX10_isHeld_38 ?_
  refine h_lmul C dX10_isHeld_39 ?_
  refine h_lsub C dX10_isHeld_40 ?_
  refine h_callV C (m_X2_contains (isC_9 hY) hn) caX10_370 kX2 (ty_9 hY) ⟨by decide, by decide, by decide, by decide⟩ rfl rfl (Nat.le_of_ble_eq_true rfl) dX10_isHeld_41 ?_
  rintro v σ' ⟨⟨rb, rfl, hb⟩, h2⟩; rw [h2]; clear h2
  show hW _ _ _ _ _ _ _ _ _ _ _ _ _ 44 [(0, .ref (ad G 0)), (1, .long pp), (3, .long qq), (5, .long mm), (7, .long f)] [.int rb] σ 0 0
  refine h_zret C rfl (isB01 hb) (Nat.zero_le _) (Nat.zero_le _) dX10_isHeld_44 ?_
  refine ⟨⟨_, rfl, ?_⟩, rfl⟩
  rw [tn_0, tn_1, tn_2] at hb
  exact hb
def heldQ (σ : ha_St) (p q m f r : Int32) (σ' : ha_St) : Prop := (¬ (isLd p q m ∧ 0 ≤ f ∧ f ≤ 200) ∧ r = -1 ∧ σ' = σ) ∨ ((isLd p q m ∧ 0 ≤ f ∧ f ≤ 200) ∧ rfrQ σ σ' ∧ isB r (heldP σ' p.toInt64 q.toInt64 m.toInt64 f.toInt64))
set_option maxRecDepth 100000 in
set_option maxHeartbeats 4000000 in
theorem m_X10_held {G : ha_G} {l : Launch} {σ : ha_St} {x y z f : Int32} (hY : LY σ) (hP : PN σ) (hn : nOK σ 9) : hM G l yX10_held cX10_held 5 (some .int) { frames := 6, cells := 0, slots := 0, locals := 129 } [.ref (ad G 0), .int x, .int y, .int z, .int f] σ (fun v σ' => ∃ r, v = some (.int r) ∧ heldQ σ x y z f r σ') := by
  refine hM_ofF [(0, .ref (ad G 0)), (1, .int x), (2, .int y), (3, .int z), (4, .int f)] (by decide +kernel) (Nat.le_of_ble_eq_true rfl) rfl ?_
  intro p e s m args below meth c0 C hin
  refine h_iload_n C 1 dX10_held_0 rfl rfl ?_
  refine h_iload_n C 2 dX10_held_1 rfl rfl ?_
  refine h_iload_n C 3 dX10_held_2 rfl rfl ?_
  refine h_callS C m_X10_isLoad caX10_169 ⟨by decide, by decide, by decide, by decide⟩ rfl rfl (Nat.le_of_ble_eq_true rfl) dX10_held_3 ?_
  rintro v σ' ⟨rfl, h2⟩; rw [h2]; clear h2
  show hW _ _ _ _ _ _ _ _ _ _ _ _ _ 6 [(0, .ref (ad G 0)), (1, .int x), (2, .int y), (3, .int z), (4, .int f)] [.int (if (-1000 ≤ x ∧ x ≤ 1000) ∧ (-1000 ≤ y ∧ y ≤ 1000) ∧ -1000 ≤ z ∧ z ≤ 1000 then 1 else 0)] σ 0 0
  refine h_if_eq C 17 dX10_held_6 (by decide) (fun c_6 => ?_) (fun c_6 => ?_)
  · refine h_iconst C (-1) dX10_held_17 (by decide) ?_
    refine h_iret C rfl (Nat.zero_le _) (Nat.zero_le _) dX10_held_18 ?_
    exact ⟨_, rfl, Or.inl ⟨fun q => if_nil c_6 q.1, rfl, rfl⟩⟩
  · refine h_iload C 4 dX10_held_9 rfl ?_
    refine h_callS C m_X10_isPull caX10_173 ⟨by decide, by decide, by decide, by decide⟩ rfl rfl (Nat.le_of_ble_eq_true rfl) dX10_held_11 ?_
    rintro v σ' ⟨rfl, h2⟩; rw [h2]; clear h2
    show hW _ _ _ _ _ _ _ _ _ _ _ _ _ 14 [(0, .ref (ad G 0)), (1, .int x), (2, .int y), (3, .int z), (4, .int f)] [.int (if 0 ≤ f ∧ f ≤ 200 then 1 else 0)] σ 0 0
    refine h_if_ne C 19 dX10_held_14 (by decide) (fun c_14 => ?_) (fun c_14 => ?_)
    · refine h_aload_n C 0 dX10_held_19 rfl rfl ?_
      refine h_callV C (m_X10_refreshPushes hY hP) caX10_176 kX10 (ty_0 hY) ⟨by decide, by decide, by decide, by decide⟩ rfl rfl (Nat.le_of_ble_eq_true rfl) dX10_held_20 ?_
      rintro v σ1 ⟨rfl, hr⟩
      have hk := rfrQ_ok hr hY hP hn
      have hY : LY σ1 := hk.1
      have hn : nOK σ1 9 := hk.2.2.1
      show hW _ _ _ _ _ _ _ _ _ _ _ _ _ 23 [(0, .ref (ad G 0)), (1, .int x), (2, .int y), (3, .int z), (4, .int f)] [] σ1 0 0
      refine h_aload_n C 0 dX10_held_23 rfl rfl ?_
      refine h_iload_n C 1 dX10_held_24 rfl rfl ?_
      refine h_i2l C dX10_held_25 ?_
      refine h_iload_n C 2 dX10_held_26 rfl rfl ?_
      refine h_i2l C dX10_held_27 ?_
      refine h_iload_n C 3 dX10_held_28 rfl rfl ?_
      refine h_i2l C dX10_held_29 ?_
      refine h_iload C 4 dX10_held_30 rfl ?_
      refine h_i2l C dX10_held_32 ?_
      refine h_callV C (m_X10_isHeld hY hn) caX10_179 kX10 (ty_0 hY) ⟨by decide, by decide, by decide, by decide⟩ rfl rfl (Nat.le_of_ble_eq_true rfl) dX10_held_33 ?_
      rintro v σ' ⟨⟨rb, rfl, hb⟩, h2⟩; rw [h2]; clear h2
      show hW _ _ _ _ _ _ _ _ _ _ _ _ _ 36 [(0, .ref (ad G 0)), (1, .int x), (2, .int y), (3, .int z), (4, .int f)] [.int rb] σ1 0 0
      refine h_if_eq C 43 dX10_held_36 (by decide) (fun c_36 => ?_) (fun c_36 => ?_)
      · refine h_iconst C 0 dX10_held_43 (by decide) ?_
        refine h_iret C rfl (Nat.zero_le _) (Nat.zero_le _) dX10_held_44 ?_
        have e := isB01 hb
        have e2 : rb = 0 := c_36
        subst e2
        exact ⟨_, rfl, Or.inr ⟨⟨if_one c_6, if_one c_14⟩, hr, hb⟩⟩
      · refine h_iconst C 1 dX10_held_39 (by decide) ?_
        refine h_goto C 44 dX10_held_40 (by decide) ?_
        refine h_iret C rfl (Nat.zero_le _) (Nat.zero_le _) dX10_held_44 ?_
        have e := isB01 hb
        have e2 : rb = 1 := e.resolve_left c_36
        subst e2
        exact ⟨_, rfl, Or.inr ⟨⟨if_one c_6, if_one c_14⟩, hr, hb⟩⟩
    · refine h_iconst C (-1) dX10_held_17 (by decide) ?_
      refine h_iret C rfl (Nat.zero_le _) (Nat.zero_le _) dX10_held_18 ?_
      exact ⟨_, rfl, Or.inl ⟨fun q => if_nil c_14 q.2, rfl, rfl⟩⟩
def heldL (σ : ha_St) (f : Int32) (i : Nat) : Prop := heldP σ (gI σ 18 i).toInt64 (gI σ 19 i).toInt64 (gI σ 20 i).toInt64 f.toInt64
def loadsQ (σ : ha_St) (f r : Int32) (σ' : ha_St) : Prop := (¬ (0 ≤ f ∧ f ≤ 200) ∧ r = -1 ∧ σ' = σ) ∨ ((0 ≤ f ∧ f ≤ 200) ∧ rfrQ σ σ' ∧ bitsP (heldL σ' f) (gI σ' 17 3).toNatClampNeg r)
set_option maxRecDepth 100000 in
set_option maxHeartbeats 4000000 in
theorem m_X10_loads {G : ha_G} {l : Launch} {σ : ha_St} {f : Int32} (hY : LY σ) (hP : PN σ) (hn : nOK σ 9) (hs0 : 0 ≤ gI σ 17 3) (hs1 : gI σ 17 3 ≤ 16) : hM G l yX10_loads cX10_loads 4 (some .int) { frames := 6, cells := 0, slots := 0, locals := 129 } [.ref (ad G 0), .int f] σ (fun v σ' => ∃ r, v = some (.int r) ∧ loadsQ σ f r σ') := by
  refine hM_ofF [(0, .ref (ad G 0)), (1, .int f)] (by decide +kernel) (Nat.le_of_ble_eq_true rfl) rfl ?_
  intro p e s m args below meth c0 C hin
  refine h_iload_n C 1 dX10_loads_0 rfl rfl ?_
  refine h_callS C m_X10_isPull caX10_173 ⟨by decide, by decide, by decide, by decide⟩ rfl rfl (Nat.le_of_ble_eq_true rfl) dX10_loads_1 ?_
  rintro v σ' ⟨rfl, h2⟩; rw [h2]; clear h2
  show hW _ _ _ _ _ _ _ _ _ _ _ _ _ 4 [(0, .ref (ad G 0)), (1, .int f)] [.int (if 0 ≤ f ∧ f ≤ 200 then 1 else 0)] σ 0 0
  refine h_if_ne C 9 dX10_loads_4 (by decide) (fun c_4 => ?_) (fun c_4 => ?_)
  · refine h_aload_n C 0 dX10_loads_9 rfl rfl ?_
    refine h_callV C (m_X10_refreshPushes hY hP) caX10_176 kX10 (ty_0 hY) ⟨by decide, by decide, by decide, by decide⟩ rfl rfl (Nat.le_of_ble_eq_true rfl) dX10_loads_10 ?_
    rintro v σ1 ⟨rfl, hr⟩
    have hk := rfrQ_ok hr hY hP hn
    have hY : LY σ1 := hk.1
    have hn : nOK σ1 9 := hk.2.2.1
    have hz : gI σ1 17 3 = gI σ 17 3 := by rw [(hk.2.2.2.1 17 (by decide) (by omega)).1]
    show hW _ _ _ _ _ _ _ _ _ _ _ _ _ 13 [(0, .ref (ad G 0)), (1, .int f)] [] σ1 0 0
    refine h_iconst C 0 dX10_loads_13 (by decide) ?_
    refine h_istore_n C [(2, .int 0), (0, .ref (ad G 0)), (1, .int f)] dX10_loads_14 rfl (by decide) rfl ?_
    refine h_iconst C 0 dX10_loads_15 (by decide) ?_
    refine h_istore_n C [(3, .int 0), (2, .int 0), (0, .ref (ad G 0)), (1, .int f)] dX10_loads_16 rfl (by decide) rfl ?_
    refine h_sub [2, 3, 1, 0] rfl ?_
    refine h_loop (α := Int32 × Int32) (fun (i, b) => 0 ≤ i ∧ i ≤ gI σ1 17 3 ∧ bitsP (heldL σ1 f) i.toNatClampNeg b) (fun (i, b) => tm (gI σ1 17 3) i) (fun (i, b) => [(0, .ref (ad G 0)), (1, .int f), (2, .int b), (3, .int i)]) (fun (i, b) => []) (fun (i, b) => σ1) (fun (i, b) => 0) (fun (i, b) => 0) ?_ (0, 0) ?_
    · rintro ⟨i, b⟩ hI ih
      show hW _ _ _ _ _ _ _ _ _ _ _ _ _ 17 [(0, .ref (ad G 0)), (1, .int f), (2, .int b), (3, .int i)] [] σ1 0 0
      refine h_iload_n C 3 dX10_loads_17 rfl rfl ?_
      refine h_aload_n C 0 dX10_loads_18 rfl rfl ?_
      refine gfX10_40 C (ty_0 hY) dX10_loads_19 ?_
      refine h_tref (b := 17) (rf_0_6 hY) ?_
      refine gfX10_186 C (ty_17 hY) dX10_loads_22 ?_
      refine h_icmp_ge C 85 dX10_loads_25 (by decide) (fun c_25 => ?_) (fun c_25 => ?_)
      · refine h_iload_n C 2 dX10_loads_85 rfl rfl ?_
        refine h_iret C rfl (Nat.zero_le _) (Nat.zero_le _) dX10_loads_86 ?_
        have he := eq_end hI.2.1 (Int32.not_lt.mpr c_25)
        rw [he] at hI
        exact ⟨_, rfl, Or.inr ⟨if_one c_4, hr, hI.2.2⟩⟩
      · refine h_iload_n C 3 dX10_loads_28 rfl rfl ?_
        refine h_bipush C 16 dX10_loads_29 (by decide) ?_
        refine h_icmp_ge C 85 dX10_loads_31 (by decide) (fun c_31 => ?_) (fun c_31 => ?_)
        · exact absurd (Int32.lt_of_lt_of_le (Int32.not_le.mp c_25) (by rw [hz]; exact hs1)) (Int32.not_lt.mpr c_31)
        · refine h_aload_n C 0 dX10_loads_34 rfl rfl ?_
          refine h_aload_n C 0 dX10_loads_35 rfl rfl ?_
          refine gfX10_40 C (ty_0 hY) dX10_loads_36 ?_
          refine h_tref (b := 17) (rf_0_6 hY) ?_
          refine gfX10_189 C (ty_17 hY) dX10_loads_39 ?_
          refine h_tref (b := 18) (rf_17_0 hY) ?_
          refine h_iload_n C 3 dX10_loads_42 rfl rfl ?_
          refine h_iald C (ty_18 hY) (vp32 (N := 16) hI.1 (Int32.not_le.mp c_31) (by decide)) dX10_loads_43 ?_
          refine h_i2l C dX10_loads_44 ?_
          refine h_aload_n C 0 dX10_loads_45 rfl rfl ?_
          refine gfX10_40 C (ty_0 hY) dX10_loads_46 ?_
          refine h_tref (b := 17) (rf_0_6 hY) ?_
          refine gfX10_193 C (ty_17 hY) dX10_loads_49 ?_
          refine h_tref (b := 19) (rf_17_1 hY) ?_
          refine h_iload_n C 3 dX10_loads_52 rfl rfl ?_
          refine h_iald C (ty_19 hY) (vp32 (N := 16) hI.1 (Int32.not_le.mp c_31) (by decide)) dX10_loads_53 ?_
          refine h_i2l C dX10_loads_54 ?_
          refine h_aload_n C 0 dX10_loads_55 rfl rfl ?_
          refine gfX10_40 C (ty_0 hY) dX10_loads_56 ?_
          refine h_tref (b := 17) (rf_0_6 hY) ?_
          refine gfX10_196 C (ty_17 hY) dX10_loads_59 ?_
          refine h_tref (b := 20) (rf_17_2 hY) ?_
          refine h_iload_n C 3 dX10_loads_62 rfl rfl ?_
          refine h_iald C (ty_20 hY) (vp32 (N := 16) hI.1 (Int32.not_le.mp c_31) (by decide)) dX10_loads_63 ?_
          refine h_i2l C dX10_loads_64 ?_
          refine h_iload_n C 1 dX10_loads_65 rfl rfl ?_
          refine h_i2l C dX10_loads_66 ?_
          refine h_callV C (m_X10_isHeld hY hn) caX10_179 kX10 (ty_0 hY) ⟨by decide, by decide, by decide, by decide⟩ rfl rfl (Nat.le_of_ble_eq_true rfl) dX10_loads_67 ?_
          rintro v σ' ⟨⟨rb, rfl, hb⟩, h2⟩; rw [h2]; clear h2
          show hW _ _ _ _ _ _ _ _ _ _ _ _ _ 70 [(0, .ref (ad G 0)), (1, .int f), (2, .int b), (3, .int i)] [.int rb] σ1 0 0
          refine h_if_eq C 79 dX10_loads_70 (by decide) (fun c_70 => ?_) (fun c_70 => ?_)
          · refine h_iinc C [(3, .int (i + 1)), (0, .ref (ad G 0)), (1, .int f), (2, .int b)] 3 (i + 1) dX10_loads_79 rfl rfl (by decide) rfl ?_
            refine h_goto C 17 dX10_loads_82 (by decide) ?_
            refine h_sub [1, 2, 3, 0] rfl ?_
            refine ih ((i + 1), b) ?_ ?_
            · have hlt := Int32.not_le.mp c_25
              refine ⟨(le_succ hI.1 hlt).1, (le_succ hI.1 hlt).2, ?_⟩
              rw [tn_succ hI.1 hlt]
              rcases hb with ⟨e, hb⟩ | ⟨e, hb⟩
              · exact absurd (e.symm.trans c_70) (by decide)
              · exact ⟨b, hI.2.2, Or.inr ⟨hb, rfl⟩⟩
            · exact tm_lt (Int32.not_le.mp c_25)
          · refine h_iload_n C 2 dX10_loads_73 rfl rfl ?_
            refine h_iconst C 1 dX10_loads_74 (by decide) ?_
            refine h_iload_n C 3 dX10_loads_75 rfl rfl ?_
            refine h_ishl C dX10_loads_76 ?_
            refine h_ior C dX10_loads_77 ?_
            refine h_istore_n C [(2, .int (b ||| (1 <<< (i &&& 31)))), (0, .ref (ad G 0)), (1, .int f), (3, .int i)] dX10_loads_78 rfl (by decide) rfl ?_
            refine h_iinc C [(3, .int (i + 1)), (2, .int (b ||| (1 <<< (i &&& 31)))), (0, .ref (ad G 0)), (1, .int f)] 3 (i + 1) dX10_loads_79 rfl rfl (by decide) rfl ?_
            refine h_goto C 17 dX10_loads_82 (by decide) ?_
            refine h_sub [2, 3, 1, 0] rfl ?_
            refine ih ((i + 1), (b ||| (1 <<< (i &&& 31)))) ?_ ?_
            · have hlt := Int32.not_le.mp c_25
              refine ⟨(le_succ hI.1 hlt).1, (le_succ hI.1 hlt).2, ?_⟩
              rw [tn_succ hI.1 hlt]
              rcases hb with ⟨e, hb⟩ | ⟨e, hb⟩
              · exact ⟨b, hI.2.2, Or.inl ⟨hb, by rw [nI_tn hI.1]⟩⟩
              · exact absurd e c_70
            · exact tm_lt (Int32.not_le.mp c_25)
    · exact ⟨by decide, by rw [hz]; exact hs0, by rw [tn_0]; rfl⟩
  · refine h_iconst C (-1) dX10_loads_7 (by decide) ?_
    refine h_iret C rfl (Nat.zero_le _) (Nat.zero_le _) dX10_loads_8 ?_
    exact ⟨_, rfl, Or.inl ⟨if_nil c_4, rfl, rfl⟩⟩
def leastV (σ : ha_St) : Int32 := if gL (pullS σ) 17 4 ≤ gL (pullS σ) 17 5 then (gL (pullS σ) 17 4).toInt32 else -1
def pullQ (σ : ha_St) (r : Int32) (σ' : ha_St) : Prop := ∃ σ1, rfrQ σ σ1 ∧ σ' = pullS σ1 ∧ r = if leastV σ1 < 0 then -4 else leastV σ1
set_option maxRecDepth 100000 in
set_option maxHeartbeats 4000000 in
theorem m_X10_pull {G : ha_G} {l : Launch} {σ : ha_St} (hY : LY σ) (hP : PN σ) (hn : nOK σ 9) (hs0 : 0 ≤ gI σ 17 3) (hs1 : gI σ 17 3 ≤ 16) : hM G l yX10_pull cX10_pull 2 (some .int) { frames := 6, cells := 0, slots := 0, locals := 129 } [.ref (ad G 0)] σ (fun v σ' => ∃ r, v = some (.int r) ∧ pullQ σ r σ') := by
  refine hM_ofF [(0, .ref (ad G 0))] (by decide +kernel) (Nat.le_of_ble_eq_true rfl) rfl ?_
  intro p e s m args below meth c0 C hin
  refine h_aload_n C 0 dX10_pull_0 rfl rfl ?_
  refine h_callV C (m_X10_refreshPushes hY hP) caX10_176 kX10 (ty_0 hY) ⟨by decide, by decide, by decide, by decide⟩ rfl rfl (Nat.le_of_ble_eq_true rfl) dX10_pull_1 ?_
  rintro v σ1 ⟨rfl, hr⟩
  have hk := rfrQ_ok hr hY hP hn
  have hY : LY σ1 := hk.1
  have hn : nOK σ1 9 := hk.2.2.1
  have hz : gI σ1 17 3 = gI σ 17 3 := by rw [(hk.2.2.2.1 17 (by decide) (by omega)).1]
  show hW _ _ _ _ _ _ _ _ _ _ _ _ _ 4 [(0, .ref (ad G 0))] [] σ1 0 0
  refine h_aload_n C 0 dX10_pull_4 rfl rfl ?_
  refine gfX10_40 C (ty_0 hY) dX10_pull_5 ?_
  refine h_tref (b := 17) (rf_0_6 hY) ?_
  refine h_aload_n C 0 dX10_pull_8 rfl rfl ?_
  refine gfX10_26 C (ty_0 hY) dX10_pull_9 ?_
  refine h_tref (b := 9) (rf_0_3 hY) ?_
  refine h_aload_n C 0 dX10_pull_12 rfl rfl ?_
  refine gfX10_29 C (ty_0 hY) dX10_pull_13 ?_
  refine h_tref (b := 16) (rf_0_4 hY) ?_
  refine h_callV C (m_X3_leastPull hY hn (by rw [hz]; exact hs0) (by rw [hz]; exact hs1)) caX10_199 kX3 (ty_17 hY) ⟨by decide, by decide, by decide, by decide⟩ rfl rfl (Nat.le_of_ble_eq_true rfl) dX10_pull_16 ?_
  rintro v σ' ⟨rfl, h2⟩; rw [h2]; clear h2
  show hW _ _ _ _ _ _ _ _ _ _ _ _ _ 19 [(0, .ref (ad G 0))] [.int (leastV σ1)] (pullS σ1) 0 0
  refine h_istore_n C [(1, .int (leastV σ1)), (0, .ref (ad G 0))] dX10_pull_19 rfl (by decide) rfl ?_
  refine h_iload_n C 0 dX10_pull_20 rfl rfl ?_
  refine h_if_ge C 29 dX10_pull_21 (by decide) (fun c_21 => ?_) (fun c_21 => ?_)
  · refine h_iload_n C 0 dX10_pull_29 rfl rfl ?_
    refine h_iret C rfl (Nat.zero_le _) (Nat.zero_le _) dX10_pull_30 ?_
    refine ⟨_, rfl, σ1, hr, rfl, ?_⟩
    rw [if_neg (Int32.not_lt.mpr c_21)]
  · refine h_bipush C (-4) dX10_pull_24 (by decide) ?_
    refine h_goto C 30 dX10_pull_26 (by decide) ?_
    refine h_iret C rfl (Nat.zero_le _) (Nat.zero_le _) dX10_pull_30 ?_
    refine ⟨_, rfl, σ1, hr, rfl, ?_⟩
    rw [if_pos (Int32.not_le.mp c_21)]
def wgF (σ : ha_St) (a b c : Nat) : ha_St := weighF σ a b c (gT σ a).1 (gT σ b).1 (gT σ c).1
def tryF (σ : ha_St) (i j k : Int32) : ha_St := match pAt σ i, pAt σ j, pAt σ k with
  | some a, some b, some c => if gL (wgF σ a b c) 21 5 = 0 then wgF σ a b c else remF (wgF σ a b c) (i + 10 * j + 100 * k)
  | _, _, _ => σ
theorem weigh_fr {σ : ha_St} {a b c ta tb tc : Nat} : frX 21 26 σ (weighF σ a b c ta tb tc) := by
  unfold weighF weigh2 weigh1 fillF
  refine frX.tr ?_ (frX_sL (by omega) (by omega))
  refine frX.tr ?_ (frX_sL (by omega) (by omega))
  refine frX.tr ?_ (frX_sL (by omega) (by omega))
  refine frX.tr ?_ (frX_sL (by omega) (by omega))
  refine frX.tr ?_ (frX_sL (by omega) (by omega))
  refine frX.tr ?_ (frX_sL (by omega) (by omega))
  refine frX.tr ?_ (frX_sL (by omega) (by omega))
  refine frX.tr ?_ (frX_sL (by omega) (by omega))
  refine frX.tr ?_ (frX_sL (by omega) (by omega))
  refine frX.tr ?_ (frX_sL (by omega) (by omega))
  exact frX_sL (by omega) (by omega)
theorem rem_fr {σ : ha_St} {n : Int32} : frX 21 26 σ (remF σ n) := by
  unfold remF
  split
  · exact ((frX_sI (by omega) (by omega)).tr (frX_sL (by omega) (by omega))).tr (frX_sL (by omega) (by omega))
  · exact frX.rf
set_option maxRecDepth 100000 in
set_option maxHeartbeats 4000000 in
theorem m_X10_tryThree {G : ha_G} {l : Launch} {σ : ha_St} {i j k : Int32} (hY : LY σ) (hP : PN σ) : hM G l yX10_tryThree cX10_tryThree 7 none { frames := 5, cells := 0, slots := 0, locals := 107 } [.ref (ad G 0), .int i, .int j, .int k] σ (fun v σ' => v = none ∧ σ' = tryF σ i j k ∧ frX 21 26 σ σ') := by
  refine hM_ofF [(0, .ref (ad G 0)), (1, .int i), (2, .int j), (3, .int k)] (by decide +kernel) (Nat.le_of_ble_eq_true rfl) rfl ?_
  intro p e s m args below meth c0 C hin
  refine h_aload_n C 0 dX10_tryThree_0 rfl rfl ?_
  refine h_iload_n C 1 dX10_tryThree_1 rfl rfl ?_
  refine h_callV C (m_X10_placerAt hY hP) caX10_205 kX10 (ty_0 hY) ⟨by decide, by decide, by decide, by decide⟩ rfl rfl (Nat.le_of_ble_eq_true rfl) dX10_tryThree_2 ?_
  rintro v σ' ⟨rfl, h2⟩; rw [h2]; clear h2
  show hW _ _ _ _ _ _ _ _ _ _ _ _ _ 5 [(0, .ref (ad G 0)), (1, .int i), (2, .int j), (3, .int k)] [rf G (pAt σ i)] σ 0 0
  refine h_topt (fun o_1 => ?_) (fun b_2 o_1 => ?_)
  · refine h_astoreN C [(4, .null), (0, .ref (ad G 0)), (1, .int i), (2, .int j), (3, .int k)] dX10_tryThree_5 (by decide) rfl ?_
    refine h_aload_n C 1 dX10_tryThree_7 rfl rfl ?_
    refine h_iload_n C 3 dX10_tryThree_8 rfl rfl ?_
    refine h_callV C (m_X10_placerAt hY hP) caX10_205 kX10 (ty_0 hY) ⟨by decide, by decide, by decide, by decide⟩ rfl rfl (Nat.le_of_ble_eq_true rfl) dX10_tryThree_9 ?_
    rintro v σ' ⟨rfl, h2⟩; rw [h2]; clear h2
    show hW _ _ _ _ _ _ _ _ _ _ _ _ _ 12 [(4, .null), (0, .ref (ad G 0)), (1, .int i), (2, .int j), (3, .int k)] [rf G (pAt σ j)] σ 0 0
    refine h_topt (fun o_3 => ?_) (fun b_4 o_3 => ?_)
    · refine h_astoreN C [(5, .null), (4, .null), (0, .ref (ad G 0)), (1, .int i), (2, .int j), (3, .int k)] dX10_tryThree_12 (by decide) rfl ?_
      refine h_aload_n C 2 dX10_tryThree_14 rfl rfl ?_
      refine h_iload_n C 5 dX10_tryThree_15 rfl rfl ?_
      refine h_callV C (m_X10_placerAt hY hP) caX10_205 kX10 (ty_0 hY) ⟨by decide, by decide, by decide, by decide⟩ rfl rfl (Nat.le_of_ble_eq_true rfl) dX10_tryThree_16 ?_
      rintro v σ' ⟨rfl, h2⟩; rw [h2]; clear h2
      show hW _ _ _ _ _ _ _ _ _ _ _ _ _ 19 [(5, .null), (4, .null), (0, .ref (ad G 0)), (1, .int i), (2, .int j), (3, .int k)] [rf G (pAt σ k)] σ 0 0
      refine h_topt (fun o_5 => ?_) (fun b_6 o_5 => ?_)
      · refine h_astoreN C [(6, .null), (5, .null), (4, .null), (0, .ref (ad G 0)), (1, .int i), (2, .int j), (3, .int k)] dX10_tryThree_19 (by decide) rfl ?_
        refine h_aloadN C 2 dX10_tryThree_21 rfl ?_
        refine h_ifnullN C 36 dX10_tryThree_23 (by decide) ?_
        refine h_vret C rfl (Nat.zero_le _) (Nat.zero_le _) dX10_tryThree_36 ?_
        refine ⟨rfl, ?_, frX.rf⟩
        unfold tryF
        simp only [o_1, o_3, o_5]
      · obtain ⟨t_6, hT_6, ht_6, hc_6, hb_6, ho_6⟩ := pAt_some hP o_5
        refine h_astore C [(6, .ref (ad G b_6)), (5, .null), (4, .null), (0, .ref (ad G 0)), (1, .int i), (2, .int j), (3, .int k)] dX10_tryThree_19 (by decide) rfl ?_
        refine h_aloadN C 2 dX10_tryThree_21 rfl ?_
        refine h_ifnullN C 36 dX10_tryThree_23 (by decide) ?_
        refine h_vret C rfl (Nat.zero_le _) (Nat.zero_le _) dX10_tryThree_36 ?_
        refine ⟨rfl, ?_, frX.rf⟩
        unfold tryF
        simp only [o_1, o_3, o_5]
    · obtain ⟨t_4, hT_4, ht_4, hc_4, hb_4, ho_4⟩ := pAt_some hP o_3
      refine h_astore C [(5, .ref (ad G b_4)), (4, .null), (0, .ref (ad G 0)), (1, .int i), (2, .int j), (3, .int k)] dX10_tryThree_12 (by decide) rfl ?_
      refine h_aload_n C 2 dX10_tryThree_14 rfl rfl ?_
      refine h_iload_n C 5 dX10_tryThree_15 rfl rfl ?_
      refine h_callV C (m_X10_placerAt hY hP) caX10_205 kX10 (ty_0 hY) ⟨by decide, by decide, by decide, by decide⟩ rfl rfl (Nat.le_of_ble_eq_true rfl) dX10_tryThree_16 ?_
      rintro v σ' ⟨rfl, h2⟩; rw [h2]; clear h2
      show hW _ _ _ _ _ _ _ _ _ _ _ _ _ 19 [(5, .ref (ad G b_4)), (4, .null), (0, .ref (ad G 0)), (1, .int i), (2, .int j), (3, .int k)] [rf G (pAt σ k)] σ 0 0
      refine h_topt (fun o_7 => ?_) (fun b_8 o_7 => ?_)
      · refine h_astoreN C [(6, .null), (5, .ref (ad G b_4)), (4, .null), (0, .ref (ad G 0)), (1, .int i), (2, .int j), (3, .int k)] dX10_tryThree_19 (by decide) rfl ?_
        refine h_aloadN C 2 dX10_tryThree_21 rfl ?_
        refine h_ifnullN C 36 dX10_tryThree_23 (by decide) ?_
        refine h_vret C rfl (Nat.zero_le _) (Nat.zero_le _) dX10_tryThree_36 ?_
        refine ⟨rfl, ?_, frX.rf⟩
        unfold tryF
        simp only [o_1, o_3, o_7]
      · obtain ⟨t_8, hT_8, ht_8, hc_8, hb_8, ho_8⟩ := pAt_some hP o_7
        refine h_astore C [(6, .ref (ad G b_8)), (5, .ref (ad G b_4)), (4, .null), (0, .ref (ad G 0)), (1, .int i), (2, .int j), (3, .int k)] dX10_tryThree_19 (by decide) rfl ?_
        refine h_aloadN C 2 dX10_tryThree_21 rfl ?_
        refine h_ifnullN C 36 dX10_tryThree_23 (by decide) ?_
        refine h_vret C rfl (Nat.zero_le _) (Nat.zero_le _) dX10_tryThree_36 ?_
        refine ⟨rfl, ?_, frX.rf⟩
        unfold tryF
        simp only [o_1, o_3, o_7]
  · obtain ⟨t_2, hT_2, ht_2, hc_2, hb_2, ho_2⟩ := pAt_some hP o_1
    refine h_astore C [(4, .ref (ad G b_2)), (0, .ref (ad G 0)), (1, .int i), (2, .int j), (3, .int k)] dX10_tryThree_5 (by decide) rfl ?_
    refine h_aload_n C 1 dX10_tryThree_7 rfl rfl ?_
    refine h_iload_n C 3 dX10_tryThree_8 rfl rfl ?_
    refine h_callV C (m_X10_placerAt hY hP) caX10_205 kX10 (ty_0 hY) ⟨by decide, by decide, by decide, by decide⟩ rfl rfl (Nat.le_of_ble_eq_true rfl) dX10_tryThree_9 ?_
    rintro v σ' ⟨rfl, h2⟩; rw [h2]; clear h2
    show hW _ _ _ _ _ _ _ _ _ _ _ _ _ 12 [(4, .ref (ad G b_2)), (0, .ref (ad G 0)), (1, .int i), (2, .int j), (3, .int k)] [rf G (pAt σ j)] σ 0 0
    refine h_topt (fun o_9 => ?_) (fun b_10 o_9 => ?_)
    · refine h_astoreN C [(5, .null), (4, .ref (ad G b_2)), (0, .ref (ad G 0)), (1, .int i), (2, .int j), (3, .int k)] dX10_tryThree_12 (by decide) rfl ?_
      refine h_aload_n C 2 dX10_tryThree_14 rfl rfl ?_
      refine h_iload_n C 5 dX10_tryThree_15 rfl rfl ?_
      refine h_callV C (m_X10_placerAt hY hP) caX10_205 kX10 (ty_0 hY) ⟨by decide, by decide, by decide, by decide⟩ rfl rfl (Nat.le_of_ble_eq_true rfl) dX10_tryThree_16 ?_
      rintro v σ' ⟨rfl, h2⟩; rw [h2]; clear h2
      show hW _ _ _ _ _ _ _ _ _ _ _ _ _ 19 [(5, .null), (4, .ref (ad G b_2)), (0, .ref (ad G 0)), (1, .int i), (2, .int j), (3, .int k)] [rf G (pAt σ k)] σ 0 0
      refine h_topt (fun o_11 => ?_) (fun b_12 o_11 => ?_)
      · refine h_astoreN C [(6, .null), (5, .null), (4, .ref (ad G b_2)), (0, .ref (ad G 0)), (1, .int i), (2, .int j), (3, .int k)] dX10_tryThree_19 (by decide) rfl ?_
        refine h_aload C 2 dX10_tryThree_21 rfl ?_
        refine h_ifnull C dX10_tryThree_23 ?_
        refine h_aloadN C 1 dX10_tryThree_26 rfl ?_
        refine h_ifnullN C 36 dX10_tryThree_28 (by decide) ?_
        refine h_vret C rfl (Nat.zero_le _) (Nat.zero_le _) dX10_tryThree_36 ?_
        refine ⟨rfl, ?_, frX.rf⟩
        unfold tryF
        simp only [o_1, o_9, o_11]
      · obtain ⟨t_12, hT_12, ht_12, hc_12, hb_12, ho_12⟩ := pAt_some hP o_11
        refine h_astore C [(6, .ref (ad G b_12)), (5, .null), (4, .ref (ad G b_2)), (0, .ref (ad G 0)), (1, .int i), (2, .int j), (3, .int k)] dX10_tryThree_19 (by decide) rfl ?_
        refine h_aload C 2 dX10_tryThree_21 rfl ?_
        refine h_ifnull C dX10_tryThree_23 ?_
        refine h_aloadN C 1 dX10_tryThree_26 rfl ?_
        refine h_ifnullN C 36 dX10_tryThree_28 (by decide) ?_
        refine h_vret C rfl (Nat.zero_le _) (Nat.zero_le _) dX10_tryThree_36 ?_
        refine ⟨rfl, ?_, frX.rf⟩
        unfold tryF
        simp only [o_1, o_9, o_11]
    · obtain ⟨t_10, hT_10, ht_10, hc_10, hb_10, ho_10⟩ := pAt_some hP o_9
      refine h_astore C [(5, .ref (ad G b_10)), (4, .ref (ad G b_2)), (0, .ref (ad G 0)), (1, .int i), (2, .int j), (3, .int k)] dX10_tryThree_12 (by decide) rfl ?_
      refine h_aload_n C 2 dX10_tryThree_14 rfl rfl ?_
      refine h_iload_n C 5 dX10_tryThree_15 rfl rfl ?_
      refine h_callV C (m_X10_placerAt hY hP) caX10_205 kX10 (ty_0 hY) ⟨by decide, by decide, by decide, by decide⟩ rfl rfl (Nat.le_of_ble_eq_true rfl) dX10_tryThree_16 ?_
      rintro v σ' ⟨rfl, h2⟩; rw [h2]; clear h2
      show hW _ _ _ _ _ _ _ _ _ _ _ _ _ 19 [(5, .ref (ad G b_10)), (4, .ref (ad G b_2)), (0, .ref (ad G 0)), (1, .int i), (2, .int j), (3, .int k)] [rf G (pAt σ k)] σ 0 0
      refine h_topt (fun o_13 => ?_) (fun b_14 o_13 => ?_)
      · refine h_astoreN C [(6, .null), (5, .ref (ad G b_10)), (4, .ref (ad G b_2)), (0, .ref (ad G 0)), (1, .int i), (2, .int j), (3, .int k)] dX10_tryThree_19 (by decide) rfl ?_
        refine h_aload C 2 dX10_tryThree_21 rfl ?_
        refine h_ifnull C dX10_tryThree_23 ?_
        refine h_aload C 1 dX10_tryThree_26 rfl ?_
        refine h_ifnull C dX10_tryThree_28 ?_
        refine h_aloadN C 0 dX10_tryThree_31 rfl ?_
        refine h_ifnonnullN C dX10_tryThree_33 ?_
        refine h_vret C rfl (Nat.zero_le _) (Nat.zero_le _) dX10_tryThree_36 ?_
        refine ⟨rfl, ?_, frX.rf⟩
        unfold tryF
        simp only [o_1, o_9, o_13]
      · obtain ⟨t_14, hT_14, ht_14, hc_14, hb_14, ho_14⟩ := pAt_some hP o_13
        refine h_astore C [(6, .ref (ad G b_14)), (5, .ref (ad G b_10)), (4, .ref (ad G b_2)), (0, .ref (ad G 0)), (1, .int i), (2, .int j), (3, .int k)] dX10_tryThree_19 (by decide) rfl ?_
        refine h_aload C 2 dX10_tryThree_21 rfl ?_
        refine h_ifnull C dX10_tryThree_23 ?_
        refine h_aload C 1 dX10_tryThree_26 rfl ?_
        refine h_ifnull C dX10_tryThree_28 ?_
        refine h_aload C 0 dX10_tryThree_31 rfl ?_
        refine h_ifnonnull C 37 dX10_tryThree_33 (by decide) ?_
        refine h_aload_n C 3 dX10_tryThree_37 rfl rfl ?_
        refine gfX10_47 C (ty_0 hY) dX10_tryThree_38 ?_
        refine h_tref (b := 21) (rf_0_7 hY) ?_
        refine h_aload C 2 dX10_tryThree_41 rfl ?_
        refine h_aload C 1 dX10_tryThree_43 rfl ?_
        refine h_aload C 0 dX10_tryThree_45 rfl ?_
        refine h_callV C (m_X4_isWeighed hY hT_2 ht_2 hT_10 ht_10 hT_14 ht_14) caX10_214 kX4 (ty_21 hY) ⟨by decide, by decide, by decide, by decide⟩ rfl rfl (Nat.le_of_ble_eq_true rfl) dX10_tryThree_47 ?_
        rintro v σ' ⟨⟨rb, rfl, hb⟩, h2⟩; rw [h2]; clear h2
        show hW _ _ _ _ _ _ _ _ _ _ _ _ _ 50 [(6, .ref (ad G b_14)), (5, .ref (ad G b_10)), (4, .ref (ad G b_2)), (0, .ref (ad G 0)), (1, .int i), (2, .int j), (3, .int k)] [.int rb] (weighF σ b_2 b_10 b_14 t_2 t_10 t_14) 0 0
        have hY : LY (weighF σ b_2 b_10 b_14 t_2 t_10 t_14) := weigh_fr.LY hY
        refine h_if_eq C 71 dX10_tryThree_50 (by decide) (fun c_50 => ?_) (fun c_50 => ?_)
        · refine h_vret C rfl (Nat.zero_le _) (Nat.zero_le _) dX10_tryThree_71 ?_
          refine ⟨rfl, ?_, weigh_fr⟩
          unfold tryF
          simp only [o_1, o_9, o_13]
          have e9 : wgF σ b_2 b_10 b_14 = weighF σ b_2 b_10 b_14 t_2 t_10 t_14 := by unfold wgF; rw [hT_2, hT_10, hT_14]
          rw [e9]
          rw [if_pos (by rcases hb with ⟨e, -⟩ | ⟨-, hb⟩; · exact absurd (e.symm.trans c_50) (by decide)
                         · exact Decidable.not_not.mp hb)]
        · refine h_aload_n C 3 dX10_tryThree_53 rfl rfl ?_
          refine gfX10_47 C (ty_0 hY) dX10_tryThree_54 ?_
          refine h_tref (b := 21) (rf_0_7 hY) ?_
          refine h_iload_n C 4 dX10_tryThree_57 rfl rfl ?_
          refine h_bipush C 10 dX10_tryThree_58 (by decide) ?_
          refine h_iload_n C 5 dX10_tryThree_60 rfl rfl ?_
          refine h_imul C dX10_tryThree_61 ?_
          refine h_iadd C dX10_tryThree_62 ?_
          refine h_bipush C 100 dX10_tryThree_63 (by decide) ?_
          refine h_iload_n C 6 dX10_tryThree_65 rfl rfl ?_
          refine h_imul C dX10_tryThree_66 ?_
          refine h_iadd C dX10_tryThree_67 ?_
          refine h_callV C (m_X4_rememberIfBetter hY) caX10_374 kX4 (ty_21 hY) ⟨by decide, by decide, by decide, by decide⟩ rfl rfl (Nat.le_of_ble_eq_true rfl) dX10_tryThree_68 ?_
          rintro v σ' ⟨rfl, h2⟩; rw [h2]; clear h2
          show hW _ _ _ _ _ _ _ _ _ _ _ _ _ 71 [(6, .ref (ad G b_14)), (5, .ref (ad G b_10)), (4, .ref (ad G b_2)), (0, .ref (ad G 0)), (1, .int i), (2, .int j), (3, .int k)] [] (remF (weighF σ b_2 b_10 b_14 t_2 t_10 t_14) ((i + (10 * j)) + (100 * k))) 0 0
          refine h_vret C rfl (Nat.zero_le _) (Nat.zero_le _) dX10_tryThree_71 ?_
          refine ⟨rfl, ?_, weigh_fr.tr rem_fr⟩
          unfold tryF
          simp only [o_1, o_9, o_13]
          have e9 : wgF σ b_2 b_10 b_14 = weighF σ b_2 b_10 b_14 t_2 t_10 t_14 := by unfold wgF; rw [hT_2, hT_10, hT_14]
          rw [e9]
          rw [if_neg (by rcases hb with ⟨-, hb⟩ | ⟨e, -⟩; · exact hb
                         · exact absurd e c_50)]
def bk3 (i j n : Nat) (s : ha_St) : ha_St := tryF s (Int32.ofNat i) (Int32.ofNat j) (Int32.ofNat (j + 1 + n))
def bk2 (c i n : Nat) (s : ha_St) : ha_St := itF (bk3 i (i + 1 + n)) (c - (i + 1 + n + 1)) s
def bk1 (c i : Nat) (s : ha_St) : ha_St := itF (bk2 c i) (c - (i + 1)) s
def best0 (σ : ha_St) (x y d : Int32) : ha_St := sI (aimF σ x y d) 21 8 (-1)
def bestF (σ : ha_St) (x y d : Int32) : ha_St := itF (bk1 (gI σ 0 1).toNatClampNeg) (gI σ 0 1).toNatClampNeg (best0 σ x y d)
def bestQ (σ : ha_St) (x y d r : Int32) (σ' : ha_St) : Prop := (¬ (plc x y ∧ 0 ≤ d ∧ d < 8) ∧ r = -1 ∧ σ' = σ) ∨ ((plc x y ∧ 0 ≤ d ∧ d < 8) ∧ σ' = bestF σ x y d ∧ frX 21 26 σ σ' ∧ r = if gI σ' 21 8 < 0 then -4 else gI σ' 21 8)
theorem aim_fr {σ : ha_St} {x y d : Int32} : frX 21 26 σ (aimF σ x y d) := ((frX_sL (by omega) (by omega)).tr (frX_sL (by omega) (by omega))).tr (frX_sL (by omega) (by omega))
theorem ofNat_succ_tn {i : Int32} {k : Nat} (h : 0 ≤ i) (e : i.toNatClampNeg = k) : Int32.ofNat k = i := by rw [← e]; exact nI_tn h
set_option maxRecDepth 100000 in
set_option maxHeartbeats 4000000 in
theorem m_X10_best {G : ha_G} {l : Launch} {σ : ha_St} {x y d : Int32} (hY : LY σ) (hP : PN σ) : hM G l yX10_best cX10_best 7 (some .int) { frames := 6, cells := 0, slots := 0, locals := 133 } [.ref (ad G 0), .int x, .int y, .int d] σ (fun v σ' => ∃ r, v = some (.int r) ∧ bestQ σ x y d r σ') := by
  have hY0 := hY
  have hP0 := hP
  refine hM_ofF [(0, .ref (ad G 0)), (1, .int x), (2, .int y), (3, .int d)] (by decide +kernel) (Nat.le_of_ble_eq_true rfl) rfl ?_
  intro p e s m args below meth c0 C hin
  refine h_iload_n C 1 dX10_best_0 rfl rfl ?_
  refine h_iload_n C 2 dX10_best_1 rfl rfl ?_
  refine h_callS C m_X10_isPlace caX10_72 ⟨by decide, by decide, by decide, by decide⟩ rfl rfl (Nat.le_of_ble_eq_true rfl) dX10_best_2 ?_
  rintro v σ' ⟨rfl, h2⟩; rw [h2]; clear h2
  show hW _ _ _ _ _ _ _ _ _ _ _ _ _ 5 [(0, .ref (ad G 0)), (1, .int x), (2, .int y), (3, .int d)] [.int (if -100 ≤ x ∧ x ≤ 100 ∧ -100 ≤ y ∧ y ≤ 100 then 1 else 0)] σ 0 0
  refine h_if_eq C 15 dX10_best_5 (by decide) (fun c_5 => ?_) (fun c_5 => ?_)
  · refine h_iconst C (-1) dX10_best_15 (by decide) ?_
    refine h_iret C rfl (Nat.zero_le _) (Nat.zero_le _) dX10_best_16 ?_
    exact ⟨_, rfl, Or.inl ⟨fun q => if_nil c_5 q.1, rfl, rfl⟩⟩
  · refine h_iload_n C 3 dX10_best_8 rfl rfl ?_
    refine h_callS C m_X10_isDirection caX10_76 ⟨by decide, by decide, by decide, by decide⟩ rfl rfl (Nat.le_of_ble_eq_true rfl) dX10_best_9 ?_
    rintro v σ' ⟨rfl, h2⟩; rw [h2]; clear h2
    show hW _ _ _ _ _ _ _ _ _ _ _ _ _ 12 [(0, .ref (ad G 0)), (1, .int x), (2, .int y), (3, .int d)] [.int (if 0 ≤ d ∧ d < 8 then 1 else 0)] σ 0 0
    refine h_if_ne C 17 dX10_best_12 (by decide) (fun c_12 => ?_) (fun c_12 => ?_)
    · refine h_aload_n C 0 dX10_best_17 rfl rfl ?_
      refine gfX10_47 C (ty_0 hY) dX10_best_18 ?_
      refine h_tref (b := 21) (rf_0_7 hY) ?_
      refine h_iload_n C 1 dX10_best_21 rfl rfl ?_
      refine h_iload_n C 2 dX10_best_22 rfl rfl ?_
      refine h_iload_n C 3 dX10_best_23 rfl rfl ?_
      refine h_callV C (m_X4_aim hY (if_one c_12)) caX10_210 kX4 (ty_21 hY) ⟨by decide, by decide, by decide, by decide⟩ rfl rfl (Nat.le_of_ble_eq_true rfl) dX10_best_24 ?_
      rintro v σ' ⟨rfl, h2⟩; rw [h2]; clear h2
      show hW _ _ _ _ _ _ _ _ _ _ _ _ _ 27 [(0, .ref (ad G 0)), (1, .int x), (2, .int y), (3, .int d)] [] (aimF σ x y d) 0 0
      have hY : LY (aimF σ x y d) := aim_fr.LY hY
      refine h_aload_n C 0 dX10_best_27 rfl rfl ?_
      refine gfX10_47 C (ty_0 hY) dX10_best_28 ?_
      refine h_tref (b := 21) (rf_0_7 hY) ?_
      refine h_callV C (m_X4_forgetBest hY) caX10_230 kX4 (ty_21 hY) ⟨by decide, by decide, by decide, by decide⟩ rfl rfl (Nat.le_of_ble_eq_true rfl) dX10_best_31 ?_
      rintro v σ' ⟨rfl, h2⟩; rw [show sI (aimF σ x y d) 21 8 (-1) = best0 σ x y d from rfl] at h2; rw [h2]; clear h2
      show hW _ _ _ _ _ _ _ _ _ _ _ _ _ 34 [(0, .ref (ad G 0)), (1, .int x), (2, .int y), (3, .int d)] [] (best0 σ x y d) 0 0
      refine h_iconst C 0 dX10_best_34 (by decide) ?_
      refine h_istore C [(4, .int 0), (0, .ref (ad G 0)), (1, .int x), (2, .int y), (3, .int d)] dX10_best_35 (by decide) rfl ?_
      refine h_sub [1, 0] rfl ?_
      refine h_loop (α := Int32 × ha_St) (fun (i, σ1) => 0 ≤ i ∧ i ≤ gI σ 0 1 ∧ σ1 = itF (bk1 (gI σ 0 1).toNatClampNeg) i.toNatClampNeg (best0 σ x y d) ∧ frX 21 26 σ σ1) (fun (i, σ1) => tm (gI σ 0 1) i) (fun (i, σ1) => [(0, .ref (ad G 0)), (4, .int i)]) (fun (i, σ1) => []) (fun (i, σ1) => σ1) (fun (i, σ1) => 0) (fun (i, σ1) => 0) ?_ (0, (best0 σ x y d)) ?_
      · rintro ⟨i, σ1⟩ hI ih
        show hW _ _ _ _ _ _ _ _ _ _ _ _ _ 37 [(0, .ref (ad G 0)), (4, .int i)] [] σ1 0 0
        have hO1 := hI
        have ih1 := ih
        have hY : LY σ1 := hI.2.2.2.LY hY0
        have hP : PN σ1 := frX_PN hI.2.2.2 (by decide) hP0
        have hz : gI σ1 0 1 = gI σ 0 1 := by rw [(hI.2.2.2.2.2.2 0 (by omega)).1]
        refine h_iload C 1 dX10_best_37 rfl ?_
        refine h_aload_n C 0 dX10_best_39 rfl rfl ?_
        refine gfX10_15 C (ty_0 hY) dX10_best_40 ?_
        refine h_icmp_ge C 104 dX10_best_43 (by decide) (fun c_43 => ?_) (fun c_43 => ?_)
        · refine h_aload_n C 0 dX10_best_104 rfl rfl ?_
          refine gfX10_47 C (ty_0 hY) dX10_best_105 ?_
          refine h_tref (b := 21) (rf_0_7 hY) ?_
          refine gfX10_236 C (ty_21 hY) dX10_best_108 ?_
          refine h_if_ge C 119 dX10_best_111 (by decide) (fun c_111 => ?_) (fun c_111 => ?_)
          · refine h_aload_n C 0 dX10_best_119 rfl rfl ?_
            refine gfX10_47 C (ty_0 hY) dX10_best_120 ?_
            refine h_tref (b := 21) (rf_0_7 hY) ?_
            refine gfX10_236 C (ty_21 hY) dX10_best_123 ?_
            refine h_iret C rfl (Nat.zero_le _) (Nat.zero_le _) dX10_best_126 ?_
            have he := eq_end hI.2.1 (by rw [← hz]; exact Int32.not_lt.mpr c_43)
            refine ⟨_, rfl, Or.inr ⟨⟨if_one c_5, if_one c_12⟩, ?_, hI.2.2.2, ?_⟩⟩
            · rw [hI.2.2.1, he]; rfl
            · rw [if_neg (Int32.not_lt.mpr c_111)]
          · refine h_bipush C (-4) dX10_best_114 (by decide) ?_
            refine h_goto C 126 dX10_best_116 (by decide) ?_
            refine h_iret C rfl (Nat.zero_le _) (Nat.zero_le _) dX10_best_126 ?_
            have he := eq_end hI.2.1 (by rw [← hz]; exact Int32.not_lt.mpr c_43)
            refine ⟨_, rfl, Or.inr ⟨⟨if_one c_5, if_one c_12⟩, ?_, hI.2.2.2, ?_⟩⟩
            · rw [hI.2.2.1, he]; rfl
            · rw [if_pos (Int32.not_le.mp c_111)]
        · have hil : i < gI σ 0 1 := by rw [← hz]; exact Int32.not_le.mp c_43
          refine h_iload C 1 dX10_best_46 rfl ?_
          refine h_iconst C 1 dX10_best_48 (by decide) ?_
          refine h_iadd C dX10_best_49 ?_
          refine h_istore C [(5, .int (i + 1)), (0, .ref (ad G 0)), (4, .int i)] dX10_best_50 (by decide) rfl ?_
          refine h_sub [1, 2, 0] rfl ?_
          refine h_loop (α := Int32 × ha_St) (fun (j, σ2) => i + 1 ≤ j ∧ j ≤ gI σ 0 1 ∧ σ2 = itF (bk2 (gI σ 0 1).toNatClampNeg i.toNatClampNeg) (j.toNatClampNeg - (i.toNatClampNeg + 1)) σ1 ∧ frX 21 26 σ σ2) (fun (j, σ2) => tm (gI σ 0 1) j) (fun (j, σ2) => [(0, .ref (ad G 0)), (4, .int i), (5, .int j)]) (fun (j, σ2) => []) (fun (j, σ2) => σ2) (fun (j, σ2) => 0) (fun (j, σ2) => 0) ?_ ((i + 1), σ1) ?_
          · rintro ⟨j, σ2⟩ hI ih
            show hW _ _ _ _ _ _ _ _ _ _ _ _ _ 52 [(0, .ref (ad G 0)), (4, .int i), (5, .int j)] [] σ2 0 0
            have hO2 := hI
            have ih2 := ih
            have hY : LY σ2 := hI.2.2.2.LY hY0
            have hP : PN σ2 := frX_PN hI.2.2.2 (by decide) hP0
            have hz : gI σ2 0 1 = gI σ 0 1 := by rw [(hI.2.2.2.2.2.2 0 (by omega)).1]
            refine h_iload C 2 dX10_best_52 rfl ?_
            refine h_aload_n C 0 dX10_best_54 rfl rfl ?_
            refine gfX10_15 C (ty_0 hY) dX10_best_55 ?_
            refine h_icmp_ge C 98 dX10_best_58 (by decide) (fun c_58 => ?_) (fun c_58 => ?_)
            · refine h_iinc C [(4, .int (i + 1)), (0, .ref (ad G 0)), (5, .int j)] 1 (i + 1) dX10_best_98 rfl rfl (by decide) rfl ?_
              refine h_goto C 37 dX10_best_101 (by decide) ?_
              refine h_sub [1, 0] rfl ?_
              refine ih1 ((i + 1), σ2) ?_ ?_
              · have hje := eq_end hI.2.1 (by rw [← hz]; exact Int32.not_lt.mpr c_58)
                refine ⟨(le_succ hO1.1 hil).1, (le_succ hO1.1 hil).2, ?_, hI.2.2.2⟩
                rw [tn_succ hO1.1 hil]
                show _ = bk1 _ i.toNatClampNeg (itF (bk1 _) i.toNatClampNeg (best0 σ x y d))
                rw [← hO1.2.2.1]
                unfold bk1
                rw [hI.2.2.1, hje]
              · exact tm_lt hil
            · have hjl : j < gI σ 0 1 := by rw [← hz]; exact Int32.not_le.mp c_58
              have hj0 : (0 : Int32) ≤ j := by have h1 := hI.1; have h2 := hO1.1; clear C; grind
              refine h_iload C 2 dX10_best_61 rfl ?_
              refine h_iconst C 1 dX10_best_63 (by decide) ?_
              refine h_iadd C dX10_best_64 ?_
              refine h_istore C [(6, .int (j + 1)), (0, .ref (ad G 0)), (4, .int i), (5, .int j)] dX10_best_65 (by decide) rfl ?_
              refine h_sub [1, 2, 3, 0] rfl ?_
              refine h_loop (α := Int32 × ha_St) (fun (k, σ3) => j + 1 ≤ k ∧ k ≤ gI σ 0 1 ∧ σ3 = itF (bk3 i.toNatClampNeg j.toNatClampNeg) (k.toNatClampNeg - (j.toNatClampNeg + 1)) σ2 ∧ frX 21 26 σ σ3) (fun (k, σ3) => tm (gI σ 0 1) k) (fun (k, σ3) => [(0, .ref (ad G 0)), (4, .int i), (5, .int j), (6, .int k)]) (fun (k, σ3) => []) (fun (k, σ3) => σ3) (fun (k, σ3) => 0) (fun (k, σ3) => 0) ?_ ((j + 1), σ2) ?_
              · rintro ⟨k, σ3⟩ hI ih
                show hW _ _ _ _ _ _ _ _ _ _ _ _ _ 67 [(0, .ref (ad G 0)), (4, .int i), (5, .int j), (6, .int k)] [] σ3 0 0
                have hY : LY σ3 := hI.2.2.2.LY hY0
                have hP : PN σ3 := frX_PN hI.2.2.2 (by decide) hP0
                have hz : gI σ3 0 1 = gI σ 0 1 := by rw [(hI.2.2.2.2.2.2 0 (by omega)).1]
                refine h_iload C 3 dX10_best_67 rfl ?_
                refine h_aload_n C 0 dX10_best_69 rfl rfl ?_
                refine gfX10_15 C (ty_0 hY) dX10_best_70 ?_
                refine h_icmp_ge C 92 dX10_best_73 (by decide) (fun c_73 => ?_) (fun c_73 => ?_)
                · refine h_iinc C [(5, .int (j + 1)), (0, .ref (ad G 0)), (4, .int i), (6, .int k)] 2 (j + 1) dX10_best_92 rfl rfl (by decide) rfl ?_
                  refine h_goto C 52 dX10_best_95 (by decide) ?_
                  refine h_sub [1, 2, 0] rfl ?_
                  refine ih2 ((j + 1), σ3) ?_ ?_
                  · have hke := eq_end hI.2.1 (by rw [← hz]; exact Int32.not_lt.mpr c_73)
                    refine ⟨by have := hO2.1; clear C; grind, (le_succ hj0 hjl).2, ?_, hI.2.2.2⟩
                    have e1 := tn_succ hj0 hjl
                    have e2 : i.toNatClampNeg + 1 ≤ j.toNatClampNeg := by
                      have := tn_le (i := i + 1) (by have := hO1.1; clear C; grind) hO2.1
                      rw [tn_succ hO1.1 hil] at this
                      exact this
                    rw [e1, show j.toNatClampNeg + 1 - (i.toNatClampNeg + 1) = (j.toNatClampNeg - (i.toNatClampNeg + 1)) + 1 by omega]
                    show _ = bk2 _ i.toNatClampNeg (j.toNatClampNeg - (i.toNatClampNeg + 1)) (itF (bk2 _ i.toNatClampNeg) (j.toNatClampNeg - (i.toNatClampNeg + 1)) σ1)
                    rw [← hO2.2.2.1]
                    unfold bk2
                    rw [show i.toNatClampNeg + 1 + (j.toNatClampNeg - (i.toNatClampNeg + 1)) = j.toNatClampNeg by omega, hI.2.2.1, hke]
                  · exact tm_lt hjl
                · refine h_aload_n C 0 dX10_best_76 rfl rfl ?_
                  refine h_iload C 1 dX10_best_77 rfl ?_
                  refine h_iload C 2 dX10_best_79 rfl ?_
                  refine h_iload C 3 dX10_best_81 rfl ?_
                  refine h_callV C (m_X10_tryThree hY hP) caX10_233 kX10 (ty_0 hY) ⟨by decide, by decide, by decide, by decide⟩ rfl rfl (Nat.le_of_ble_eq_true rfl) dX10_best_83 ?_
                  rintro v σ4 ⟨rfl, h3, f3⟩
                  show hW _ _ _ _ _ _ _ _ _ _ _ _ _ 86 [(0, .ref (ad G 0)), (4, .int i), (5, .int j), (6, .int k)] [] σ4 0 0
                  refine h_iinc C [(6, .int (k + 1)), (0, .ref (ad G 0)), (4, .int i), (5, .int j)] 3 (k + 1) dX10_best_86 rfl rfl (by decide) rfl ?_
                  refine h_goto C 67 dX10_best_89 (by decide) ?_
                  refine h_sub [1, 2, 3, 0] rfl ?_
                  refine ih ((k + 1), σ4) ?_ ?_
                  · have hkl : k < gI σ 0 1 := by rw [← hz]; exact Int32.not_le.mp c_73
                    have hk0 : (0 : Int32) ≤ k := by have := hI.1; clear C; grind
                    refine ⟨by have := hI.1; clear C; grind, (le_succ hk0 hkl).2, ?_, hI.2.2.2.tr f3⟩
                    have e1 := tn_succ hk0 hkl
                    have e2 : j.toNatClampNeg + 1 ≤ k.toNatClampNeg := by
                      have := tn_le (i := j + 1) (by clear C; grind) hI.1
                      rw [tn_succ hj0 hjl] at this
                      exact this
                    rw [e1, show k.toNatClampNeg + 1 - (j.toNatClampNeg + 1) = (k.toNatClampNeg - (j.toNatClampNeg + 1)) + 1 by omega]
                    show _ = bk3 i.toNatClampNeg j.toNatClampNeg (k.toNatClampNeg - (j.toNatClampNeg + 1)) (itF (bk3 i.toNatClampNeg j.toNatClampNeg) (k.toNatClampNeg - (j.toNatClampNeg + 1)) σ2)
                    rw [← hI.2.2.1]
                    unfold bk3
                    rw [nI_tn hO1.1, nI_tn hj0, ofNat_succ_tn hk0 (by omega)]
                    exact h3
                  · rw [← hz]
                    exact tm_lt (Int32.not_le.mp c_73)
              · have e := tn_succ hj0 hjl
                refine ⟨Int32.le_refl _, (le_succ hj0 hjl).2, ?_, hO2.2.2.2⟩
                rw [e, Nat.sub_self]
                rfl
          · have e := tn_succ hO1.1 hil
            refine ⟨Int32.le_refl _, (le_succ hO1.1 hil).2, ?_, hO1.2.2.2⟩
            rw [e, Nat.sub_self]
            rfl
      · exact ⟨by decide, hP0.1, by rw [tn_0]; rfl, aim_fr.tr (frX_sI (by omega) (by omega))⟩
    · refine h_iconst C (-1) dX10_best_15 (by decide) ?_
      refine h_iret C rfl (Nat.zero_le _) (Nat.zero_le _) dX10_best_16 ?_
      exact ⟨_, rfl, Or.inl ⟨fun q => if_nil c_12 q.2, rfl, rfl⟩⟩
