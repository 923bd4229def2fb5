/-! ===== the reference: features ===== -/
def atV (σ : ha_St) (i k put : Int32) : Int64 := if i = put then gL σ 59 k.toNatClampNeg else gL σ 58 (3 * i + k).toNatClampNeg
def rw3 (σ : ha_St) (i put : Int32) : I3 := (atV σ i 0 put, atV σ i 1 put, atV σ i 2 put)
def dtV (σ : ha_St) (put : Int32) : Int64 := tr3 (rw3 σ 0 put) (rw3 σ 1 put) (rw3 σ 2 put)
def th3 (σ : ha_St) (i : Nat) : I3 := (gL σ 58 (3 * i), gL σ 58 (3 * i + 1), gL σ 58 (3 * i + 2))
def f3 (σ : ha_St) : I3 := (gL σ 59 0, gL σ 59 1, gL σ 59 2)
theorem rw3_y {σ : ha_St} {i : Int32} : rw3 σ i i = f3 σ := by
  unfold rw3 atV f3
  rw [if_pos rfl, if_pos rfl, if_pos rfl]
  rfl
theorem rw3_n0 {σ : ha_St} {p : Int32} (h : ¬ (0 : Int32) = p) : rw3 σ 0 p = th3 σ 0 := by
  unfold rw3 atV th3
  rw [if_neg h, if_neg h, if_neg h]
  rfl
theorem rw3_n1 {σ : ha_St} {p : Int32} (h : ¬ (1 : Int32) = p) : rw3 σ 1 p = th3 σ 1 := by
  unfold rw3 atV th3
  rw [if_neg h, if_neg h, if_neg h]
  rfl
theorem rw3_n2 {σ : ha_St} {p : Int32} (h : ¬ (2 : Int32) = p) : rw3 σ 2 p = th3 σ 2 := by
  unfold rw3 atV th3
  rw [if_neg h, if_neg h, if_neg h]
  rfl
theorem dtV_m {σ : ha_St} : dtV σ (-1) = tr3 (th3 σ 0) (th3 σ 1) (th3 σ 2) := by unfold dtV; rw [rw3_n0 (by decide), rw3_n1 (by decide), rw3_n2 (by decide)]
theorem dtV_0 {σ : ha_St} : dtV σ 0 = tr3 (f3 σ) (th3 σ 1) (th3 σ 2) := by unfold dtV; rw [rw3_y, rw3_n1 (by decide), rw3_n2 (by decide)]
theorem dtV_1 {σ : ha_St} : dtV σ 1 = tr3 (th3 σ 0) (f3 σ) (th3 σ 2) := by unfold dtV; rw [rw3_n0 (by decide), rw3_y, rw3_n2 (by decide)]
theorem dtV_2 {σ : ha_St} : dtV σ 2 = tr3 (th3 σ 0) (th3 σ 1) (f3 σ) := by unfold dtV; rw [rw3_n0 (by decide), rw3_n1 (by decide), rw3_y]
set_option maxRecDepth 100000 in
set_option maxHeartbeats 4000000 in
theorem m_X11_at {G : ha_G} {l : Launch} {σ : ha_St} {i k pu : Int32} (hY : LY σ) (hk : vp_in k 3) (hi : vp_in (3 * i + k) 9) : hM G l yX11_at cX11_at 4 (some .long) { frames := 0, cells := 0, slots := 0, locals := 0 } [.ref (ad G 44), .int i, .int k, .int pu] σ (fun v σ' => v = some (.long (atV σ i k pu)) ∧ σ' = σ) := by
  refine hM_ofF [(0, .ref (ad G 44)), (1, .int i), (2, .int k), (3, .int pu)] (by decide +kernel) (Nat.le_of_ble_eq_true rfl) rfl ?_
  intro p e s m args below meth c0 C hin
  refine h_iload_n C 1 dX11_at_0 rfl rfl ?_
  refine h_iload_n C 3 dX11_at_1 rfl rfl ?_
  refine h_icmp_ne C 14 dX11_at_2 (by decide) (fun c_2 => ?_) (fun c_2 => ?_)
  · refine h_aload_n C 0 dX11_at_14 rfl rfl ?_
    refine gfX11_69 C (ty_44 hY) dX11_at_15 ?_
    refine h_tref (b := 58) (rf_44_19 hY) ?_
    refine h_iconst C 3 dX11_at_18 (by decide) ?_
    refine h_iload_n C 1 dX11_at_19 rfl rfl ?_
    refine h_imul C dX11_at_20 ?_
    refine h_iload_n C 2 dX11_at_21 rfl rfl ?_
    refine h_iadd C dX11_at_22 ?_
    refine h_lald C (ty_58 hY) hi dX11_at_23 ?_
    refine h_lret C rfl (Nat.zero_le _) (Nat.zero_le _) dX11_at_24 ?_
    refine ⟨vlong ?_, rfl⟩
    unfold atV
    rw [if_neg c_2]
  · refine h_aload_n C 0 dX11_at_5 rfl rfl ?_
    refine gfX11_72 C (ty_44 hY) dX11_at_6 ?_
    refine h_tref (b := 59) (rf_44_20 hY) ?_
    refine h_iload_n C 2 dX11_at_9 rfl rfl ?_
    refine h_lald C (ty_59 hY) hk dX11_at_10 ?_
    refine h_goto C 24 dX11_at_11 (by decide) ?_
    refine h_lret C rfl (Nat.zero_le _) (Nat.zero_le _) dX11_at_24 ?_
    refine ⟨vlong ?_, rfl⟩
    unfold atV
    rw [if_pos c_2]
set_option maxRecDepth 100000 in
set_option maxHeartbeats 4000000 in
theorem m_X11_determinant {G : ha_G} {l : Launch} {σ : ha_St} {pu : Int32} (hY : LY σ) : hM G l yX11_determinant cX11_determinant 7 (some .long) { frames := 1, cells := 0, slots := 0, locals := 23 } [.ref (ad G 44), .int pu] σ (fun v σ' => v = some (.long (dtV σ pu)) ∧ σ' = σ) := by
  refine hM_ofF [(0, .ref (ad G 44)), (1, .int pu)] (by decide +kernel) (Nat.le_of_ble_eq_true rfl) rfl ?_
  intro p e s m args below meth c0 C hin
  refine h_lconst C 0 dX11_determinant_0 rfl ?_
  refine h_lstore_n C [(2, .long 0), (0, .ref (ad G 44)), (1, .int pu)] dX11_determinant_1 rfl (by decide) rfl ?_
  refine h_iconst C 0 dX11_determinant_2 (by decide) ?_
  refine h_istore C [(4, .int 0), (2, .long 0), (0, .ref (ad G 44)), (1, .int pu)] dX11_determinant_3 (by decide) rfl ?_
  refine h_iload C 0 dX11_determinant_5 rfl ?_
  refine h_iconst C 3 dX11_determinant_7 (by decide) ?_
  refine h_icmp_ge C 80 dX11_determinant_8 (by decide) (fun c_8 => ?_) (fun c_8 => ?_)
  · exact absurd c_8 (by decide)
  · refine h_iload C 0 dX11_determinant_11 rfl ?_
    refine h_iconst C 1 dX11_determinant_13 (by decide) ?_
    refine h_iadd C dX11_determinant_14 ?_
    show hW _ _ _ _ _ _ _ _ _ _ _ _ _ 15 [(4, .int 0), (2, .long 0), (0, .ref (ad G 44)), (1, .int pu)] [.int 1] σ 0 0
    refine h_iconst C 3 dX11_determinant_15 (by decide) ?_
    refine h_irem C dX11_determinant_16 (by decide) ?_
    show hW _ _ _ _ _ _ _ _ _ _ _ _ _ 17 [(4, .int 0), (2, .long 0), (0, .ref (ad G 44)), (1, .int pu)] [.int 1] σ 0 0
    refine h_istore C [(5, .int 1), (4, .int 0), (2, .long 0), (0, .ref (ad G 44)), (1, .int pu)] dX11_determinant_17 (by decide) rfl ?_
    refine h_iload C 1 dX11_determinant_19 rfl ?_
    refine h_iconst C 2 dX11_determinant_21 (by decide) ?_
    refine h_iadd C dX11_determinant_22 ?_
    show hW _ _ _ _ _ _ _ _ _ _ _ _ _ 23 [(5, .int 1), (4, .int 0), (2, .long 0), (0, .ref (ad G 44)), (1, .int pu)] [.int 2] σ 0 0
    refine h_iconst C 3 dX11_determinant_23 (by decide) ?_
    refine h_irem C dX11_determinant_24 (by decide) ?_
    show hW _ _ _ _ _ _ _ _ _ _ _ _ _ 25 [(5, .int 1), (4, .int 0), (2, .long 0), (0, .ref (ad G 44)), (1, .int pu)] [.int 2] σ 0 0
    refine h_istore C [(6, .int 2), (5, .int 1), (4, .int 0), (2, .long 0), (0, .ref (ad G 44)), (1, .int pu)] dX11_determinant_25 (by decide) rfl ?_
    refine h_lload_n C 3 dX11_determinant_27 rfl rfl ?_
    refine h_aload_n C 4 dX11_determinant_28 rfl rfl ?_
    refine h_iconst C 0 dX11_determinant_29 (by decide) ?_
    refine h_iload C 2 dX11_determinant_30 rfl ?_
    refine h_iload_n C 5 dX11_determinant_32 rfl rfl ?_
    refine h_callV C (m_X11_at hY (vp32 (N := 3) (by decide) (by decide) (by decide)) (vp32 (N := 9) (by decide) (by decide) (by decide))) caX11_237 kX11 (ty_44 hY) ⟨by decide, by decide, by decide, by decide⟩ rfl rfl (Nat.le_of_ble_eq_true rfl) dX11_determinant_33 ?_
    rintro v σ' ⟨rfl, h2⟩; rw [h2]; clear h2
    show hW _ _ _ _ _ _ _ _ _ _ _ _ _ 36 [(6, .int 2), (5, .int 1), (4, .int 0), (2, .long 0), (0, .ref (ad G 44)), (1, .int pu)] [.long (atV σ 0 0 pu), .long 0] σ 0 0
    refine h_aload_n C 4 dX11_determinant_36 rfl rfl ?_
    refine h_iconst C 1 dX11_determinant_37 (by decide) ?_
    refine h_iload C 1 dX11_determinant_38 rfl ?_
    refine h_iload_n C 5 dX11_determinant_40 rfl rfl ?_
    refine h_callV C (m_X11_at hY (vp32 (N := 3) (by decide) (by decide) (by decide)) (vp32 (N := 9) (by decide) (by decide) (by decide))) caX11_237 kX11 (ty_44 hY) ⟨by decide, by decide, by decide, by decide⟩ rfl rfl (Nat.le_of_ble_eq_true rfl) dX11_determinant_41 ?_
    rintro v σ' ⟨rfl, h2⟩; rw [h2]; clear h2
    show hW _ _ _ _ _ _ _ _ _ _ _ _ _ 44 [(6, .int 2), (5, .int 1), (4, .int 0), (2, .long 0), (0, .ref (ad G 44)), (1, .int pu)] [.long (atV σ 1 1 pu), .long (atV σ 0 0 pu), .long 0] σ 0 0
    refine h_aload_n C 4 dX11_determinant_44 rfl rfl ?_
    refine h_iconst C 2 dX11_determinant_45 (by decide) ?_
    refine h_iload C 0 dX11_determinant_46 rfl ?_
    refine h_iload_n C 5 dX11_determinant_48 rfl rfl ?_
    refine h_callV C (m_X11_at hY (vp32 (N := 3) (by decide) (by decide) (by decide)) (vp32 (N := 9) (by decide) (by decide) (by decide))) caX11_237 kX11 (ty_44 hY) ⟨by decide, by decide, by decide, by decide⟩ rfl rfl (Nat.le_of_ble_eq_true rfl) dX11_determinant_49 ?_
    rintro v σ' ⟨rfl, h2⟩; rw [h2]; clear h2
    show hW _ _ _ _ _ _ _ _ _ _ _ _ _ 52 [(6, .int 2), (5, .int 1), (4, .int 0), (2, .long 0), (0, .ref (ad G 44)), (1, .int pu)] [.long (atV σ 2 2 pu), .long (atV σ 1 1 pu), .long (atV σ 0 0 pu), .long 0] σ 0 0
    refine h_lmul C dX11_determinant_52 ?_
    refine h_aload_n C 4 dX11_determinant_53 rfl rfl ?_
    refine h_iconst C 1 dX11_determinant_54 (by decide) ?_
    refine h_iload C 0 dX11_determinant_55 rfl ?_
    refine h_iload_n C 5 dX11_determinant_57 rfl rfl ?_
    refine h_callV C (m_X11_at hY (vp32 (N := 3) (by decide) (by decide) (by decide)) (vp32 (N := 9) (by decide) (by decide) (by decide))) caX11_237 kX11 (ty_44 hY) ⟨by decide, by decide, by decide, by decide⟩ rfl rfl (Nat.le_of_ble_eq_true rfl) dX11_determinant_58 ?_
    rintro v σ' ⟨rfl, h2⟩; rw [h2]; clear h2
    show hW _ _ _ _ _ _ _ _ _ _ _ _ _ 61 [(6, .int 2), (5, .int 1), (4, .int 0), (2, .long 0), (0, .ref (ad G 44)), (1, .int pu)] [.long (atV σ 1 2 pu), .long ((atV σ 1 1 pu) * (atV σ 2 2 pu)), .long (atV σ 0 0 pu), .long 0] σ 0 0
    refine h_aload_n C 4 dX11_determinant_61 rfl rfl ?_
    refine h_iconst C 2 dX11_determinant_62 (by decide) ?_
    refine h_iload C 1 dX11_determinant_63 rfl ?_
    refine h_iload_n C 5 dX11_determinant_65 rfl rfl ?_
    refine h_callV C (m_X11_at hY (vp32 (N := 3) (by decide) (by decide) (by decide)) (vp32 (N := 9) (by decide) (by decide) (by decide))) caX11_237 kX11 (ty_44 hY) ⟨by decide, by decide, by decide, by decide⟩ rfl rfl (Nat.le_of_ble_eq_true rfl) dX11_determinant_66 ?_
    rintro v σ' ⟨rfl, h2⟩; rw [h2]; clear h2
    show hW _ _ _ _ _ _ _ _ _ _ _ _ _ 69 [(6, .int 2), (5, .int 1), (4, .int 0), (2, .long 0), (0, .ref (ad G 44)), (1, .int pu)] [.long (atV σ 2 1 pu), .long (atV σ 1 2 pu), .long ((atV σ 1 1 pu) * (atV σ 2 2 pu)), .long (atV σ 0 0 pu), .long 0] σ 0 0
    refine h_lmul C dX11_determinant_69 ?_
    refine h_lsub C dX11_determinant_70 ?_
    refine h_lmul C dX11_determinant_71 ?_
    refine h_ladd C dX11_determinant_72 ?_
    refine h_lstore_n C [(2, .long (0 + ((atV σ 0 0 pu) * (((atV σ 1 1 pu) * (atV σ 2 2 pu)) - ((atV σ 1 2 pu) * (atV σ 2 1 pu)))))), (6, .int 2), (5, .int 1), (4, .int 0), (0, .ref (ad G 44)), (1, .int pu)] dX11_determinant_73 rfl (by decide) rfl ?_
    refine h_iinc C [(4, .int 1), (2, .long (0 + ((atV σ 0 0 pu) * (((atV σ 1 1 pu) * (atV σ 2 2 pu)) - ((atV σ 1 2 pu) * (atV σ 2 1 pu)))))), (6, .int 2), (5, .int 1), (0, .ref (ad G 44)), (1, .int pu)] 3 1 dX11_determinant_74 rfl rfl (by decide) rfl ?_
    refine h_goto C 5 dX11_determinant_77 (by decide) ?_
    refine h_iload C 0 dX11_determinant_5 rfl ?_
    refine h_iconst C 3 dX11_determinant_7 (by decide) ?_
    refine h_icmp_ge C 80 dX11_determinant_8 (by decide) (fun c_8 => ?_) (fun c_8 => ?_)
    · exact absurd c_8 (by decide)
    · refine h_iload C 0 dX11_determinant_11 rfl ?_
      refine h_iconst C 1 dX11_determinant_13 (by decide) ?_
      refine h_iadd C dX11_determinant_14 ?_
      show hW _ _ _ _ _ _ _ _ _ _ _ _ _ 15 [(4, .int 1), (2, .long (0 + ((atV σ 0 0 pu) * (((atV σ 1 1 pu) * (atV σ 2 2 pu)) - ((atV σ 1 2 pu) * (atV σ 2 1 pu)))))), (6, .int 2), (5, .int 1), (0, .ref (ad G 44)), (1, .int pu)] [.int 2] σ 0 0
      refine h_iconst C 3 dX11_determinant_15 (by decide) ?_
      refine h_irem C dX11_determinant_16 (by decide) ?_
      show hW _ _ _ _ _ _ _ _ _ _ _ _ _ 17 [(4, .int 1), (2, .long (0 + ((atV σ 0 0 pu) * (((atV σ 1 1 pu) * (atV σ 2 2 pu)) - ((atV σ 1 2 pu) * (atV σ 2 1 pu)))))), (6, .int 2), (5, .int 1), (0, .ref (ad G 44)), (1, .int pu)] [.int 2] σ 0 0
      refine h_istore C [(5, .int 2), (4, .int 1), (2, .long (0 + ((atV σ 0 0 pu) * (((atV σ 1 1 pu) * (atV σ 2 2 pu)) - ((atV σ 1 2 pu) * (atV σ 2 1 pu)))))), (6, .int 2), (0, .ref (ad G 44)), (1, .int pu)] dX11_determinant_17 (by decide) rfl ?_
      refine h_iload C 1 dX11_determinant_19 rfl ?_
      refine h_iconst C 2 dX11_determinant_21 (by decide) ?_
      refine h_iadd C dX11_determinant_22 ?_
      show hW _ _ _ _ _ _ _ _ _ _ _ _ _ 23 [(5, .int 2), (4, .int 1), (2, .long (0 + ((atV σ 0 0 pu) * (((atV σ 1 1 pu) * (atV σ 2 2 pu)) - ((atV σ 1 2 pu) * (atV σ 2 1 pu)))))), (6, .int 2), (0, .ref (ad G 44)), (1, .int pu)] [.int 3] σ 0 0
      refine h_iconst C 3 dX11_determinant_23 (by decide) ?_
      refine h_irem C dX11_determinant_24 (by decide) ?_
      show hW _ _ _ _ _ _ _ _ _ _ _ _ _ 25 [(5, .int 2), (4, .int 1), (2, .long (0 + ((atV σ 0 0 pu) * (((atV σ 1 1 pu) * (atV σ 2 2 pu)) - ((atV σ 1 2 pu) * (atV σ 2 1 pu)))))), (6, .int 2), (0, .ref (ad G 44)), (1, .int pu)] [.int 0] σ 0 0
      refine h_istore C [(6, .int 0), (5, .int 2), (4, .int 1), (2, .long (0 + ((atV σ 0 0 pu) * (((atV σ 1 1 pu) * (atV σ 2 2 pu)) - ((atV σ 1 2 pu) * (atV σ 2 1 pu)))))), (0, .ref (ad G 44)), (1, .int pu)] dX11_determinant_25 (by decide) rfl ?_
      refine h_lload_n C 3 dX11_determinant_27 rfl rfl ?_
      refine h_aload_n C 4 dX11_determinant_28 rfl rfl ?_
      refine h_iconst C 0 dX11_determinant_29 (by decide) ?_
      refine h_iload C 2 dX11_determinant_30 rfl ?_
      refine h_iload_n C 5 dX11_determinant_32 rfl rfl ?_
      refine h_callV C (m_X11_at hY (vp32 (N := 3) (by decide) (by decide) (by decide)) (vp32 (N := 9) (by decide) (by decide) (by decide))) caX11_237 kX11 (ty_44 hY) ⟨by decide, by decide, by decide, by decide⟩ rfl rfl (Nat.le_of_ble_eq_true rfl) dX11_determinant_33 ?_
      rintro v σ' ⟨rfl, h2⟩; rw [h2]; clear h2
      show hW _ _ _ _ _ _ _ _ _ _ _ _ _ 36 [(6, .int 0), (5, .int 2), (4, .int 1), (2, .long (0 + ((atV σ 0 0 pu) * (((atV σ 1 1 pu) * (atV σ 2 2 pu)) - ((atV σ 1 2 pu) * (atV σ 2 1 pu)))))), (0, .ref (ad G 44)), (1, .int pu)] [.long (atV σ 0 1 pu), .long (0 + ((atV σ 0 0 pu) * (((atV σ 1 1 pu) * (atV σ 2 2 pu)) - ((atV σ 1 2 pu) * (atV σ 2 1 pu)))))] σ 0 0
      refine h_aload_n C 4 dX11_determinant_36 rfl rfl ?_
      refine h_iconst C 1 dX11_determinant_37 (by decide) ?_
      refine h_iload C 1 dX11_determinant_38 rfl ?_
      refine h_iload_n C 5 dX11_determinant_40 rfl rfl ?_
      refine h_callV C (m_X11_at hY (vp32 (N := 3) (by decide) (by decide) (by decide)) (vp32 (N := 9) (by decide) (by decide) (by decide))) caX11_237 kX11 (ty_44 hY) ⟨by decide, by decide, by decide, by decide⟩ rfl rfl (Nat.le_of_ble_eq_true rfl) dX11_determinant_41 ?_
      rintro v σ' ⟨rfl, h2⟩; rw [h2]; clear h2
      show hW _ _ _ _ _ _ _ _ _ _ _ _ _ 44 [(6, .int 0), (5, .int 2), (4, .int 1), (2, .long (0 + ((atV σ 0 0 pu) * (((atV σ 1 1 pu) * (atV σ 2 2 pu)) - ((atV σ 1 2 pu) * (atV σ 2 1 pu)))))), (0, .ref (ad G 44)), (1, .int pu)] [.long (atV σ 1 2 pu), .long (atV σ 0 1 pu), .long (0 + ((atV σ 0 0 pu) * (((atV σ 1 1 pu) * (atV σ 2 2 pu)) - ((atV σ 1 2 pu) * (atV σ 2 1 pu)))))] σ 0 0
      refine h_aload_n C 4 dX11_determinant_44 rfl rfl ?_
      refine h_iconst C 2 dX11_determinant_45 (by decide) ?_
      refine h_iload C 0 dX11_determinant_46 rfl ?_
      refine h_iload_n C 5 dX11_determinant_48 rfl rfl ?_
      refine h_callV C (m_X11_at hY (vp32 (N := 3) (by decide) (by decide) (by decide)) (vp32 (N := 9) (by decide) (by decide) (by decide))) caX11_237 kX11 (ty_44 hY) ⟨by decide, by decide, by decide, by decide⟩ rfl rfl (Nat.le_of_ble_eq_true rfl) dX11_determinant_49 ?_
      rintro v σ' ⟨rfl, h2⟩; rw [h2]; clear h2
      show hW _ _ _ _ _ _ _ _ _ _ _ _ _ 52 [(6, .int 0), (5, .int 2), (4, .int 1), (2, .long (0 + ((atV σ 0 0 pu) * (((atV σ 1 1 pu) * (atV σ 2 2 pu)) - ((atV σ 1 2 pu) * (atV σ 2 1 pu)))))), (0, .ref (ad G 44)), (1, .int pu)] [.long (atV σ 2 0 pu), .long (atV σ 1 2 pu), .long (atV σ 0 1 pu), .long (0 + ((atV σ 0 0 pu) * (((atV σ 1 1 pu) * (atV σ 2 2 pu)) - ((atV σ 1 2 pu) * (atV σ 2 1 pu)))))] σ 0 0
      refine h_lmul C dX11_determinant_52 ?_
      refine h_aload_n C 4 dX11_determinant_53 rfl rfl ?_
      refine h_iconst C 1 dX11_determinant_54 (by decide) ?_
      refine h_iload C 0 dX11_determinant_55 rfl ?_
      refine h_iload_n C 5 dX11_determinant_57 rfl rfl ?_
      refine h_callV C (m_X11_at hY (vp32 (N := 3) (by decide) (by decide) (by decide)) (vp32 (N := 9) (by decide) (by decide) (by decide))) caX11_237 kX11 (ty_44 hY) ⟨by decide, by decide, by decide, by decide⟩ rfl rfl (Nat.le_of_ble_eq_true rfl) dX11_determinant_58 ?_
      rintro v σ' ⟨rfl, h2⟩; rw [h2]; clear h2
      show hW _ _ _ _ _ _ _ _ _ _ _ _ _ 61 [(6, .int 0), (5, .int 2), (4, .int 1), (2, .long (0 + ((atV σ 0 0 pu) * (((atV σ 1 1 pu) * (atV σ 2 2 pu)) - ((atV σ 1 2 pu) * (atV σ 2 1 pu)))))), (0, .ref (ad G 44)), (1, .int pu)] [.long (atV σ 1 0 pu), .long ((atV σ 1 2 pu) * (atV σ 2 0 pu)), .long (atV σ 0 1 pu), .long (0 + ((atV σ 0 0 pu) * (((atV σ 1 1 pu) * (atV σ 2 2 pu)) - ((atV σ 1 2 pu) * (atV σ 2 1 pu)))))] σ 0 0
      refine h_aload_n C 4 dX11_determinant_61 rfl rfl ?_
      refine h_iconst C 2 dX11_determinant_62 (by decide) ?_
      refine h_iload C 1 dX11_determinant_63 rfl ?_
      refine h_iload_n C 5 dX11_determinant_65 rfl rfl ?_
      refine h_callV C (m_X11_at hY (vp32 (N := 3) (by decide) (by decide) (by decide)) (vp32 (N := 9) (by decide) (by decide) (by decide))) caX11_237 kX11 (ty_44 hY) ⟨by decide, by decide, by decide, by decide⟩ rfl rfl (Nat.le_of_ble_eq_true rfl) dX11_determinant_66 ?_
      rintro v σ' ⟨rfl, h2⟩; rw [h2]; clear h2
      show hW _ _ _ _ _ _ _ _ _ _ _ _ _ 69 [(6, .int 0), (5, .int 2), (4, .int 1), (2, .long (0 + ((atV σ 0 0 pu) * (((atV σ 1 1 pu) * (atV σ 2 2 pu)) - ((atV σ 1 2 pu) * (atV σ 2 1 pu)))))), (0, .ref (ad G 44)), (1, .int pu)] [.long (atV σ 2 2 pu), .long (atV σ 1 0 pu), .long ((atV σ 1 2 pu) * (atV σ 2 0 pu)), .long (atV σ 0 1 pu), .long (0 + ((atV σ 0 0 pu) * (((atV σ 1 1 pu) * (atV σ 2 2 pu)) - ((atV σ 1 2 pu) * (atV σ 2 1 pu)))))] σ 0 0
      refine h_lmul C dX11_determinant_69 ?_
      refine h_lsub C dX11_determinant_70 ?_
      refine h_lmul C dX11_determinant_71 ?_
      refine h_ladd C dX11_determinant_72 ?_
      refine h_lstore_n C [(2, .long ((0 + ((atV σ 0 0 pu) * (((atV σ 1 1 pu) * (atV σ 2 2 pu)) - ((atV σ 1 2 pu) * (atV σ 2 1 pu))))) + ((atV σ 0 1 pu) * (((atV σ 1 2 pu) * (atV σ 2 0 pu)) - ((atV σ 1 0 pu) * (atV σ 2 2 pu)))))), (6, .int 0), (5, .int 2), (4, .int 1), (0, .ref (ad G 44)), (1, .int pu)] dX11_determinant_73 rfl (by decide) rfl ?_
      refine h_iinc C [(4, .int 2), (2, .long ((0 + ((atV σ 0 0 pu) * (((atV σ 1 1 pu) * (atV σ 2 2 pu)) - ((atV σ 1 2 pu) * (atV σ 2 1 pu))))) + ((atV σ 0 1 pu) * (((atV σ 1 2 pu) * (atV σ 2 0 pu)) - ((atV σ 1 0 pu) * (atV σ 2 2 pu)))))), (6, .int 0), (5, .int 2), (0, .ref (ad G 44)), (1, .int pu)] 3 2 dX11_determinant_74 rfl rfl (by decide) rfl ?_
      refine h_goto C 5 dX11_determinant_77 (by decide) ?_
      refine h_iload C 0 dX11_determinant_5 rfl ?_
      refine h_iconst C 3 dX11_determinant_7 (by decide) ?_
      refine h_icmp_ge C 80 dX11_determinant_8 (by decide) (fun c_8 => ?_) (fun c_8 => ?_)
      · exact absurd c_8 (by decide)
      · refine h_iload C 0 dX11_determinant_11 rfl ?_
        refine h_iconst C 1 dX11_determinant_13 (by decide) ?_
        refine h_iadd C dX11_determinant_14 ?_
        show hW _ _ _ _ _ _ _ _ _ _ _ _ _ 15 [(4, .int 2), (2, .long ((0 + ((atV σ 0 0 pu) * (((atV σ 1 1 pu) * (atV σ 2 2 pu)) - ((atV σ 1 2 pu) * (atV σ 2 1 pu))))) + ((atV σ 0 1 pu) * (((atV σ 1 2 pu) * (atV σ 2 0 pu)) - ((atV σ 1 0 pu) * (atV σ 2 2 pu)))))), (6, .int 0), (5, .int 2), (0, .ref (ad G 44)), (1, .int pu)] [.int 3] σ 0 0
        refine h_iconst C 3 dX11_determinant_15 (by decide) ?_
        refine h_irem C dX11_determinant_16 (by decide) ?_
        show hW _ _ _ _ _ _ _ _ _ _ _ _ _ 17 [(4, .int 2), (2, .long ((0 + ((atV σ 0 0 pu) * (((atV σ 1 1 pu) * (atV σ 2 2 pu)) - ((atV σ 1 2 pu) * (atV σ 2 1 pu))))) + ((atV σ 0 1 pu) * (((atV σ 1 2 pu) * (atV σ 2 0 pu)) - ((atV σ 1 0 pu) * (atV σ 2 2 pu)))))), (6, .int 0), (5, .int 2), (0, .ref (ad G 44)), (1, .int pu)] [.int 0] σ 0 0
        refine h_istore C [(5, .int 0), (4, .int 2), (2, .long ((0 + ((atV σ 0 0 pu) * (((atV σ 1 1 pu) * (atV σ 2 2 pu)) - ((atV σ 1 2 pu) * (atV σ 2 1 pu))))) + ((atV σ 0 1 pu) * (((atV σ 1 2 pu) * (atV σ 2 0 pu)) - ((atV σ 1 0 pu) * (atV σ 2 2 pu)))))), (6, .int 0), (0, .ref (ad G 44)), (1, .int pu)] dX11_determinant_17 (by decide) rfl ?_
        refine h_iload C 1 dX11_determinant_19 rfl ?_
        refine h_iconst C 2 dX11_determinant_21 (by decide) ?_
        refine h_iadd C dX11_determinant_22 ?_
        show hW _ _ _ _ _ _ _ _ _ _ _ _ _ 23 [(5, .int 0), (4, .int 2), (2, .long ((0 + ((atV σ 0 0 pu) * (((atV σ 1 1 pu) * (atV σ 2 2 pu)) - ((atV σ 1 2 pu) * (atV σ 2 1 pu))))) + ((atV σ 0 1 pu) * (((atV σ 1 2 pu) * (atV σ 2 0 pu)) - ((atV σ 1 0 pu) * (atV σ 2 2 pu)))))), (6, .int 0), (0, .ref (ad G 44)), (1, .int pu)] [.int 4] σ 0 0
        refine h_iconst C 3 dX11_determinant_23 (by decide) ?_
        refine h_irem C dX11_determinant_24 (by decide) ?_
        show hW _ _ _ _ _ _ _ _ _ _ _ _ _ 25 [(5, .int 0), (4, .int 2), (2, .long ((0 + ((atV σ 0 0 pu) * (((atV σ 1 1 pu) * (atV σ 2 2 pu)) - ((atV σ 1 2 pu) * (atV σ 2 1 pu))))) + ((atV σ 0 1 pu) * (((atV σ 1 2 pu) * (atV σ 2 0 pu)) - ((atV σ 1 0 pu) * (atV σ 2 2 pu)))))), (6, .int 0), (0, .ref (ad G 44)), (1, .int pu)] [.int 1] σ 0 0
        refine h_istore C [(6, .int 1), (5, .int 0), (4, .int 2), (2, .long ((0 + ((atV σ 0 0 pu) * (((atV σ 1 1 pu) * (atV σ 2 2 pu)) - ((atV σ 1 2 pu) * (atV σ 2 1 pu))))) + ((atV σ 0 1 pu) * (((atV σ 1 2 pu) * (atV σ 2 0 pu)) - ((atV σ 1 0 pu) * (atV σ 2 2 pu)))))), (0, .ref (ad G 44)), (1, .int pu)] dX11_determinant_25 (by decide) rfl ?_
        refine h_lload_n C 3 dX11_determinant_27 rfl rfl ?_
        refine h_aload_n C 4 dX11_determinant_28 rfl rfl ?_
        refine h_iconst C 0 dX11_determinant_29 (by decide) ?_
        refine h_iload C 2 dX11_determinant_30 rfl ?_
        refine h_iload_n C 5 dX11_determinant_32 rfl rfl ?_
        refine h_callV C (m_X11_at hY (vp32 (N := 3) (by decide) (by decide) (by decide)) (vp32 (N := 9) (by decide) (by decide) (by decide))) caX11_237 kX11 (ty_44 hY) ⟨by decide, by decide, by decide, by decide⟩ rfl rfl (Nat.le_of_ble_eq_true rfl) dX11_determinant_33 ?_
        rintro v σ' ⟨rfl, h2⟩; rw [h2]; clear h2
        show hW _ _ _ _ _ _ _ _ _ _ _ _ _ 36 [(6, .int 1), (5, .int 0), (4, .int 2), (2, .long ((0 + ((atV σ 0 0 pu) * (((atV σ 1 1 pu) * (atV σ 2 2 pu)) - ((atV σ 1 2 pu) * (atV σ 2 1 pu))))) + ((atV σ 0 1 pu) * (((atV σ 1 2 pu) * (atV σ 2 0 pu)) - ((atV σ 1 0 pu) * (atV σ 2 2 pu)))))), (0, .ref (ad G 44)), (1, .int pu)] [.long (atV σ 0 2 pu), .long ((0 + ((atV σ 0 0 pu) * (((atV σ 1 1 pu) * (atV σ 2 2 pu)) - ((atV σ 1 2 pu) * (atV σ 2 1 pu))))) + ((atV σ 0 1 pu) * (((atV σ 1 2 pu) * (atV σ 2 0 pu)) - ((atV σ 1 0 pu) * (atV σ 2 2 pu)))))] σ 0 0
        refine h_aload_n C 4 dX11_determinant_36 rfl rfl ?_
        refine h_iconst C 1 dX11_determinant_37 (by decide) ?_
        refine h_iload C 1 dX11_determinant_38 rfl ?_
        refine h_iload_n C 5 dX11_determinant_40 rfl rfl ?_
        refine h_callV C (m_X11_at hY (vp32 (N := 3) (by decide) (by decide) (by decide)) (vp32 (N := 9) (by decide) (by decide) (by decide))) caX11_237 kX11 (ty_44 hY) ⟨by decide, by decide, by decide, by decide⟩ rfl rfl (Nat.le_of_ble_eq_true rfl) dX11_determinant_41 ?_
        rintro v σ' ⟨rfl, h2⟩; rw [h2]; clear h2
        show hW _ _ _ _ _ _ _ _ _ _ _ _ _ 44 [(6, .int 1), (5, .int 0), (4, .int 2), (2, .long ((0 + ((atV σ 0 0 pu) * (((atV σ 1 1 pu) * (atV σ 2 2 pu)) - ((atV σ 1 2 pu) * (atV σ 2 1 pu))))) + ((atV σ 0 1 pu) * (((atV σ 1 2 pu) * (atV σ 2 0 pu)) - ((atV σ 1 0 pu) * (atV σ 2 2 pu)))))), (0, .ref (ad G 44)), (1, .int pu)] [.long (atV σ 1 0 pu), .long (atV σ 0 2 pu), .long ((0 + ((atV σ 0 0 pu) * (((atV σ 1 1 pu) * (atV σ 2 2 pu)) - ((atV σ 1 2 pu) * (atV σ 2 1 pu))))) + ((atV σ 0 1 pu) * (((atV σ 1 2 pu) * (atV σ 2 0 pu)) - ((atV σ 1 0 pu) * (atV σ 2 2 pu)))))] σ 0 0
        refine h_aload_n C 4 dX11_determinant_44 rfl rfl ?_
        refine h_iconst C 2 dX11_determinant_45 (by decide) ?_
        refine h_iload C 0 dX11_determinant_46 rfl ?_
        refine h_iload_n C 5 dX11_determinant_48 rfl rfl ?_
        refine h_callV C (m_X11_at hY (vp32 (N := 3) (by decide) (by decide) (by decide)) (vp32 (N := 9) (by decide) (by decide) (by decide))) caX11_237 kX11 (ty_44 hY) ⟨by decide, by decide, by decide, by decide⟩ rfl rfl (Nat.le_of_ble_eq_true rfl) dX11_determinant_49 ?_
        rintro v σ' ⟨rfl, h2⟩; rw [h2]; clear h2
        show hW _ _ _ _ _ _ _ _ _ _ _ _ _ 52 [(6, .int 1), (5, .int 0), (4, .int 2), (2, .long ((0 + ((atV σ 0 0 pu) * (((atV σ 1 1 pu) * (atV σ 2 2 pu)) - ((atV σ 1 2 pu) * (atV σ 2 1 pu))))) + ((atV σ 0 1 pu) * (((atV σ 1 2 pu) * (atV σ 2 0 pu)) - ((atV σ 1 0 pu) * (atV σ 2 2 pu)))))), (0, .ref (ad G 44)), (1, .int pu)] [.long (atV σ 2 1 pu), .long (atV σ 1 0 pu), .long (atV σ 0 2 pu), .long ((0 + ((atV σ 0 0 pu) * (((atV σ 1 1 pu) * (atV σ 2 2 pu)) - ((atV σ 1 2 pu) * (atV σ 2 1 pu))))) + ((atV σ 0 1 pu) * (((atV σ 1 2 pu) * (atV σ 2 0 pu)) - ((atV σ 1 0 pu) * (atV σ 2 2 pu)))))] σ 0 0
        refine h_lmul C dX11_determinant_52 ?_
        refine h_aload_n C 4 dX11_determinant_53 rfl rfl ?_
        refine h_iconst C 1 dX11_determinant_54 (by decide) ?_
        refine h_iload C 0 dX11_determinant_55 rfl ?_
        refine h_iload_n C 5 dX11_determinant_57 rfl rfl ?_
        refine h_callV C (m_X11_at hY (vp32 (N := 3) (by decide) (by decide) (by decide)) (vp32 (N := 9) (by decide) (by decide) (by decide))) caX11_237 kX11 (ty_44 hY) ⟨by decide, by decide, by decide, by decide⟩ rfl rfl (Nat.le_of_ble_eq_true rfl) dX11_determinant_58 ?_
        rintro v σ' ⟨rfl, h2⟩; rw [h2]; clear h2
        show hW _ _ _ _ _ _ _ _ _ _ _ _ _ 61 [(6, .int 1), (5, .int 0), (4, .int 2), (2, .long ((0 + ((atV σ 0 0 pu) * (((atV σ 1 1 pu) * (atV σ 2 2 pu)) - ((atV σ 1 2 pu) * (atV σ 2 1 pu))))) + ((atV σ 0 1 pu) * (((atV σ 1 2 pu) * (atV σ 2 0 pu)) - ((atV σ 1 0 pu) * (atV σ 2 2 pu)))))), (0, .ref (ad G 44)), (1, .int pu)] [.long (atV σ 1 1 pu), .long ((atV σ 1 0 pu) * (atV σ 2 1 pu)), .long (atV σ 0 2 pu), .long ((0 + ((atV σ 0 0 pu) * (((atV σ 1 1 pu) * (atV σ 2 2 pu)) - ((atV σ 1 2 pu) * (atV σ 2 1 pu))))) + ((atV σ 0 1 pu) * (((atV σ 1 2 pu) * (atV σ 2 0 pu)) - ((atV σ 1 0 pu) * (atV σ 2 2 pu)))))] σ 0 0
        refine h_aload_n C 4 dX11_determinant_61 rfl rfl ?_
        refine h_iconst C 2 dX11_determinant_62 (by decide) ?_
        refine h_iload C 1 dX11_determinant_63 rfl ?_
        refine h_iload_n C 5 dX11_determinant_65 rfl rfl ?_
        refine h_callV C (m_X11_at hY (vp32 (N := 3) (by decide) (by decide) (by decide)) (vp32 (N := 9) (by decide) (by decide) (by decide))) caX11_237 kX11 (ty_44 hY) ⟨by decide, by decide, by decide, by decide⟩ rfl rfl (Nat.le_of_ble_eq_true rfl) dX11_determinant_66 ?_
        rintro v σ' ⟨rfl, h2⟩; rw [h2]; clear h2
        show hW _ _ _ _ _ _ _ _ _ _ _ _ _ 69 [(6, .int 1), (5, .int 0), (4, .int 2), (2, .long ((0 + ((atV σ 0 0 pu) * (((atV σ 1 1 pu) * (atV σ 2 2 pu)) - ((atV σ 1 2 pu) * (atV σ 2 1 pu))))) + ((atV σ 0 1 pu) * (((atV σ 1 2 pu) * (atV σ 2 0 pu)) - ((atV σ 1 0 pu) * (atV σ 2 2 pu)))))), (0, .ref (ad G 44)), (1, .int pu)] [.long (atV σ 2 0 pu), .long (atV σ 1 1 pu), .long ((atV σ 1 0 pu) * (atV σ 2 1 pu)), .long (atV σ 0 2 pu), .long ((0 + ((atV σ 0 0 pu) * (((atV σ 1 1 pu) * (atV σ 2 2 pu)) - ((atV σ 1 2 pu) * (atV σ 2 1 pu))))) + ((atV σ 0 1 pu) * (((atV σ 1 2 pu) * (atV σ 2 0 pu)) - ((atV σ 1 0 pu) * (atV σ 2 2 pu)))))] σ 0 0
        refine h_lmul C dX11_determinant_69 ?_
        refine h_lsub C dX11_determinant_70 ?_
        refine h_lmul C dX11_determinant_71 ?_
        refine h_ladd C dX11_determinant_72 ?_
        refine h_lstore_n C [(2, .long (((0 + ((atV σ 0 0 pu) * (((atV σ 1 1 pu) * (atV σ 2 2 pu)) - ((atV σ 1 2 pu) * (atV σ 2 1 pu))))) + ((atV σ 0 1 pu) * (((atV σ 1 2 pu) * (atV σ 2 0 pu)) - ((atV σ 1 0 pu) * (atV σ 2 2 pu))))) + ((atV σ 0 2 pu) * (((atV σ 1 0 pu) * (atV σ 2 1 pu)) - ((atV σ 1 1 pu) * (atV σ 2 0 pu)))))), (6, .int 1), (5, .int 0), (4, .int 2), (0, .ref (ad G 44)), (1, .int pu)] dX11_determinant_73 rfl (by decide) rfl ?_
        refine h_iinc C [(4, .int 3), (2, .long (((0 + ((atV σ 0 0 pu) * (((atV σ 1 1 pu) * (atV σ 2 2 pu)) - ((atV σ 1 2 pu) * (atV σ 2 1 pu))))) + ((atV σ 0 1 pu) * (((atV σ 1 2 pu) * (atV σ 2 0 pu)) - ((atV σ 1 0 pu) * (atV σ 2 2 pu))))) + ((atV σ 0 2 pu) * (((atV σ 1 0 pu) * (atV σ 2 1 pu)) - ((atV σ 1 1 pu) * (atV σ 2 0 pu)))))), (6, .int 1), (5, .int 0), (0, .ref (ad G 44)), (1, .int pu)] 3 3 dX11_determinant_74 rfl rfl (by decide) rfl ?_
        refine h_goto C 5 dX11_determinant_77 (by decide) ?_
        refine h_iload C 0 dX11_determinant_5 rfl ?_
        refine h_iconst C 3 dX11_determinant_7 (by decide) ?_
        refine h_icmp_ge C 80 dX11_determinant_8 (by decide) (fun c_8 => ?_) (fun c_8 => ?_)
        · refine h_lload_n C 1 dX11_determinant_80 rfl rfl ?_
          refine h_lret C rfl (Nat.zero_le _) (Nat.zero_le _) dX11_determinant_81 ?_
          refine ⟨vlong ?_, rfl⟩
          clear C
          unfold dtV tr3 rw3
          grind
        · exact absurd c_8 (by decide)
def fe3 (x y d : Int32) : I3 := (ptV (aloV d).toInt64 (upV d).toInt64 x y 0, ptV (aloV d).toInt64 (upV d).toInt64 x y 1, ptV (aloV d).toInt64 (upV d).toInt64 x y 2)
def dr3 (σ : ha_St) (c : Nat) : I3 := (dirV σ c 0, dirV σ c 1, dirV σ c 2)
def feF (σ : ha_St) (x y d : Int32) : ha_St := sL (sL (sL σ 59 0 (fe3 x y d).1) 59 1 (fe3 x y d).2.1) 59 2 (fe3 x y d).2.2
theorem feF_J {σ : ha_St} {x y d : Int32} : frJ σ (feF σ x y d) := ((frJ_sL (by omega) (by omega)).tr (frJ_sL (by omega) (by omega))).tr (frJ_sL (by omega) (by omega))
theorem feF_f {σ : ha_St} {x y d : Int32} : f3 (feF σ x y d) = fe3 x y d := rfl
def feV (x y d : Int32) : Int32 := if plc x y ∧ 0 ≤ d ∧ d < 8 then 1 else 0
def cpP (σ : ha_St) (c : Int32) : Prop := (0 ≤ c ∧ c < gI σ 44 1) ∧ gI σ 45 c.toNatClampNeg ≠ 2
set_option maxRecDepth 100000 in
set_option maxHeartbeats 4000000 in
theorem m_X11_setFeature {G : ha_G} {l : Launch} {σ : ha_St} {x y d : Int32} (hY : LY σ) : hM G l yX11_setFeature cX11_setFeature 5 none { frames := 1, cells := 0, slots := 0, locals := 27 } [.ref (ad G 44), .int x, .int y, .int d] σ (fun v σ' => v = none ∧ σ' = feF σ x y d) := by
  refine hM_ofF [(0, .ref (ad G 44)), (1, .int x), (2, .int y), (3, .int d)] (by decide +kernel) (Nat.le_of_ble_eq_true rfl) rfl ?_
  intro p e s m args below meth c0 C hin
  refine h_iconst C 0 dX11_setFeature_0 (by decide) ?_
  refine h_istore C [(4, .int 0), (0, .ref (ad G 44)), (1, .int x), (2, .int y), (3, .int d)] dX11_setFeature_1 (by decide) rfl ?_
  refine h_iload C 0 dX11_setFeature_3 rfl ?_
  refine h_iconst C 3 dX11_setFeature_5 (by decide) ?_
  refine h_icmp_ge C 42 dX11_setFeature_6 (by decide) (fun c_6 => ?_) (fun c_6 => ?_)
  · exact absurd c_6 (by decide)
  · refine h_aload_n C 1 dX11_setFeature_9 rfl rfl ?_
    refine gfX11_72 C (ty_44 hY) dX11_setFeature_10 ?_
    refine h_tref (b := 59) (rf_44_20 hY) ?_
    refine h_iload C 0 dX11_setFeature_13 rfl ?_
    refine h_aload_n C 1 dX11_setFeature_15 rfl rfl ?_
    refine h_aload_n C 1 dX11_setFeature_16 rfl rfl ?_
    refine h_iload_n C 4 dX11_setFeature_17 rfl rfl ?_
    refine h_callV C m_X11_along caX11_149 kX11 (ty_44 hY) ⟨by decide, by decide, by decide, by decide⟩ rfl rfl (Nat.le_of_ble_eq_true rfl) dX11_setFeature_18 ?_
    rintro v σ' ⟨rfl, h2⟩; rw [h2]; clear h2
    show hW _ _ _ _ _ _ _ _ _ _ _ _ _ 21 [(4, .int 0), (0, .ref (ad G 44)), (1, .int x), (2, .int y), (3, .int d)] [.int (aloV d), .ref (ad G 44), .int 0, .ref (ad G 59)] σ 0 0
    refine h_i2l C dX11_setFeature_21 ?_
    refine h_aload_n C 1 dX11_setFeature_22 rfl rfl ?_
    refine h_iload_n C 4 dX11_setFeature_23 rfl rfl ?_
    refine h_callV C m_X11_up caX11_152 kX11 (ty_44 hY) ⟨by decide, by decide, by decide, by decide⟩ rfl rfl (Nat.le_of_ble_eq_true rfl) dX11_setFeature_24 ?_
    rintro v σ' ⟨rfl, h2⟩; rw [h2]; clear h2
    show hW _ _ _ _ _ _ _ _ _ _ _ _ _ 27 [(4, .int 0), (0, .ref (ad G 44)), (1, .int x), (2, .int y), (3, .int d)] [.int (upV d), .long (aloV d).toInt64, .ref (ad G 44), .int 0, .ref (ad G 59)] σ 0 0
    refine h_i2l C dX11_setFeature_27 ?_
    refine h_iload_n C 2 dX11_setFeature_28 rfl rfl ?_
    refine h_iload_n C 3 dX11_setFeature_29 rfl rfl ?_
    refine h_iload C 0 dX11_setFeature_30 rfl ?_
    refine h_callV C m_X11_part caX11_155 kX11 (ty_44 hY) ⟨by decide, by decide, by decide, by decide⟩ rfl rfl (Nat.le_of_ble_eq_true rfl) dX11_setFeature_32 ?_
    rintro v σ' ⟨rfl, h2⟩; rw [h2]; clear h2
    show hW _ _ _ _ _ _ _ _ _ _ _ _ _ 35 [(4, .int 0), (0, .ref (ad G 44)), (1, .int x), (2, .int y), (3, .int d)] [.long (ptV ((aloV d).toInt64) ((upV d).toInt64) x y 0), .int 0, .ref (ad G 59)] σ 0 0
    refine h_last C _ (ty_59 hY) (vp32 (N := 3) (by decide) (by decide) (by decide)) dX11_setFeature_35 rfl ?_
    show hW _ _ _ _ _ _ _ _ _ _ _ _ _ 36 [(4, .int 0), (0, .ref (ad G 44)), (1, .int x), (2, .int y), (3, .int d)] [] (sL σ 59 0 (ptV ((aloV d).toInt64) ((upV d).toInt64) x y 0)) 0 0
    refine h_iinc C [(4, .int 1), (0, .ref (ad G 44)), (1, .int x), (2, .int y), (3, .int d)] 0 1 dX11_setFeature_36 rfl rfl (by decide) rfl ?_
    refine h_goto C 3 dX11_setFeature_39 (by decide) ?_
    refine h_iload C 0 dX11_setFeature_3 rfl ?_
    refine h_iconst C 3 dX11_setFeature_5 (by decide) ?_
    refine h_icmp_ge C 42 dX11_setFeature_6 (by decide) (fun c_6 => ?_) (fun c_6 => ?_)
    · exact absurd c_6 (by decide)
    · refine h_aload_n C 1 dX11_setFeature_9 rfl rfl ?_
      refine gfX11_72 C (ty_44 hY) dX11_setFeature_10 ?_
      refine h_tref (b := 59) (rf_44_20 hY) ?_
      refine h_iload C 0 dX11_setFeature_13 rfl ?_
      refine h_aload_n C 1 dX11_setFeature_15 rfl rfl ?_
      refine h_aload_n C 1 dX11_setFeature_16 rfl rfl ?_
      refine h_iload_n C 4 dX11_setFeature_17 rfl rfl ?_
      refine h_callV C m_X11_along caX11_149 kX11 (ty_44 hY) ⟨by decide, by decide, by decide, by decide⟩ rfl rfl (Nat.le_of_ble_eq_true rfl) dX11_setFeature_18 ?_
      rintro v σ' ⟨rfl, h2⟩; rw [h2]; clear h2
      show hW _ _ _ _ _ _ _ _ _ _ _ _ _ 21 [(4, .int 1), (0, .ref (ad G 44)), (1, .int x), (2, .int y), (3, .int d)] [.int (aloV d), .ref (ad G 44), .int 1, .ref (ad G 59)] (sL σ 59 0 (ptV ((aloV d).toInt64) ((upV d).toInt64) x y 0)) 0 0
      refine h_i2l C dX11_setFeature_21 ?_
      refine h_aload_n C 1 dX11_setFeature_22 rfl rfl ?_
      refine h_iload_n C 4 dX11_setFeature_23 rfl rfl ?_
      refine h_callV C m_X11_up caX11_152 kX11 (ty_44 hY) ⟨by decide, by decide, by decide, by decide⟩ rfl rfl (Nat.le_of_ble_eq_true rfl) dX11_setFeature_24 ?_
      rintro v σ' ⟨rfl, h2⟩; rw [h2]; clear h2
      show hW _ _ _ _ _ _ _ _ _ _ _ _ _ 27 [(4, .int 1), (0, .ref (ad G 44)), (1, .int x), (2, .int y), (3, .int d)] [.int (upV d), .long (aloV d).toInt64, .ref (ad G 44), .int 1, .ref (ad G 59)] (sL σ 59 0 (ptV ((aloV d).toInt64) ((upV d).toInt64) x y 0)) 0 0
      refine h_i2l C dX11_setFeature_27 ?_
      refine h_iload_n C 2 dX11_setFeature_28 rfl rfl ?_
      refine h_iload_n C 3 dX11_setFeature_29 rfl rfl ?_
      refine h_iload C 0 dX11_setFeature_30 rfl ?_
      refine h_callV C m_X11_part caX11_155 kX11 (ty_44 hY) ⟨by decide, by decide, by decide, by decide⟩ rfl rfl (Nat.le_of_ble_eq_true rfl) dX11_setFeature_32 ?_
      rintro v σ' ⟨rfl, h2⟩; rw [h2]; clear h2
      show hW _ _ _ _ _ _ _ _ _ _ _ _ _ 35 [(4, .int 1), (0, .ref (ad G 44)), (1, .int x), (2, .int y), (3, .int d)] [.long (ptV ((aloV d).toInt64) ((upV d).toInt64) x y 1), .int 1, .ref (ad G 59)] (sL σ 59 0 (ptV ((aloV d).toInt64) ((upV d).toInt64) x y 0)) 0 0
      refine h_last C _ (ty_59 hY) (vp32 (N := 3) (by decide) (by decide) (by decide)) dX11_setFeature_35 rfl ?_
      show hW _ _ _ _ _ _ _ _ _ _ _ _ _ 36 [(4, .int 1), (0, .ref (ad G 44)), (1, .int x), (2, .int y), (3, .int d)] [] (sL (sL σ 59 0 (ptV ((aloV d).toInt64) ((upV d).toInt64) x y 0)) 59 1 (ptV ((aloV d).toInt64) ((upV d).toInt64) x y 1)) 0 0
      refine h_iinc C [(4, .int 2), (0, .ref (ad G 44)), (1, .int x), (2, .int y), (3, .int d)] 0 2 dX11_setFeature_36 rfl rfl (by decide) rfl ?_
      refine h_goto C 3 dX11_setFeature_39 (by decide) ?_
      refine h_iload C 0 dX11_setFeature_3 rfl ?_
      refine h_iconst C 3 dX11_setFeature_5 (by decide) ?_
      refine h_icmp_ge C 42 dX11_setFeature_6 (by decide) (fun c_6 => ?_) (fun c_6 => ?_)
      · exact absurd c_6 (by decide)
      · refine h_aload_n C 1 dX11_setFeature_9 rfl rfl ?_
        refine gfX11_72 C (ty_44 hY) dX11_setFeature_10 ?_
        refine h_tref (b := 59) (rf_44_20 hY) ?_
        refine h_iload C 0 dX11_setFeature_13 rfl ?_
        refine h_aload_n C 1 dX11_setFeature_15 rfl rfl ?_
        refine h_aload_n C 1 dX11_setFeature_16 rfl rfl ?_
        refine h_iload_n C 4 dX11_setFeature_17 rfl rfl ?_
        refine h_callV C m_X11_along caX11_149 kX11 (ty_44 hY) ⟨by decide, by decide, by decide, by decide⟩ rfl rfl (Nat.le_of_ble_eq_true rfl) dX11_setFeature_18 ?_
        rintro v σ' ⟨rfl, h2⟩; rw [h2]; clear h2
        show hW _ _ _ _ _ _ _ _ _ _ _ _ _ 21 [(4, .int 2), (0, .ref (ad G 44)), (1, .int x), (2, .int y), (3, .int d)] [.int (aloV d), .ref (ad G 44), .int 2, .ref (ad G 59)] (sL (sL σ 59 0 (ptV ((aloV d).toInt64) ((upV d).toInt64) x y 0)) 59 1 (ptV ((aloV d).toInt64) ((upV d).toInt64) x y 1)) 0 0
        refine h_i2l C dX11_setFeature_21 ?_
        refine h_aload_n C 1 dX11_setFeature_22 rfl rfl ?_
        refine h_iload_n C 4 dX11_setFeature_23 rfl rfl ?_
        refine h_callV C m_X11_up caX11_152 kX11 (ty_44 hY) ⟨by decide, by decide, by decide, by decide⟩ rfl rfl (Nat.le_of_ble_eq_true rfl) dX11_setFeature_24 ?_
        rintro v σ' ⟨rfl, h2⟩; rw [h2]; clear h2
        show hW _ _ _ _ _ _ _ _ _ _ _ _ _ 27 [(4, .int 2), (0, .ref (ad G 44)), (1, .int x), (2, .int y), (3, .int d)] [.int (upV d), .long (aloV d).toInt64, .ref (ad G 44), .int 2, .ref (ad G 59)] (sL (sL σ 59 0 (ptV ((aloV d).toInt64) ((upV d).toInt64) x y 0)) 59 1 (ptV ((aloV d).toInt64) ((upV d).toInt64) x y 1)) 0 0
        refine h_i2l C dX11_setFeature_27 ?_
        refine h_iload_n C 2 dX11_setFeature_28 rfl rfl ?_
        refine h_iload_n C 3 dX11_setFeature_29 rfl rfl ?_
        refine h_iload C 0 dX11_setFeature_30 rfl ?_
        refine h_callV C m_X11_part caX11_155 kX11 (ty_44 hY) ⟨by decide, by decide, by decide, by decide⟩ rfl rfl (Nat.le_of_ble_eq_true rfl) dX11_setFeature_32 ?_
        rintro v σ' ⟨rfl, h2⟩; rw [h2]; clear h2
        show hW _ _ _ _ _ _ _ _ _ _ _ _ _ 35 [(4, .int 2), (0, .ref (ad G 44)), (1, .int x), (2, .int y), (3, .int d)] [.long (ptV ((aloV d).toInt64) ((upV d).toInt64) x y 2), .int 2, .ref (ad G 59)] (sL (sL σ 59 0 (ptV ((aloV d).toInt64) ((upV d).toInt64) x y 0)) 59 1 (ptV ((aloV d).toInt64) ((upV d).toInt64) x y 1)) 0 0
        refine h_last C _ (ty_59 hY) (vp32 (N := 3) (by decide) (by decide) (by decide)) dX11_setFeature_35 rfl ?_
        show hW _ _ _ _ _ _ _ _ _ _ _ _ _ 36 [(4, .int 2), (0, .ref (ad G 44)), (1, .int x), (2, .int y), (3, .int d)] [] (sL (sL (sL σ 59 0 (ptV ((aloV d).toInt64) ((upV d).toInt64) x y 0)) 59 1 (ptV ((aloV d).toInt64) ((upV d).toInt64) x y 1)) 59 2 (ptV ((aloV d).toInt64) ((upV d).toInt64) x y 2)) 0 0
        refine h_iinc C [(4, .int 3), (0, .ref (ad G 44)), (1, .int x), (2, .int y), (3, .int d)] 0 3 dX11_setFeature_36 rfl rfl (by decide) rfl ?_
        refine h_goto C 3 dX11_setFeature_39 (by decide) ?_
        refine h_iload C 0 dX11_setFeature_3 rfl ?_
        refine h_iconst C 3 dX11_setFeature_5 (by decide) ?_
        refine h_icmp_ge C 42 dX11_setFeature_6 (by decide) (fun c_6 => ?_) (fun c_6 => ?_)
        · refine h_vret C rfl (Nat.zero_le _) (Nat.zero_le _) dX11_setFeature_42 ?_
          exact ⟨rfl, rfl⟩
        · exact absurd c_6 (by decide)
set_option maxRecDepth 100000 in
set_option maxHeartbeats 4000000 in
theorem m_X11_isFeature {G : ha_G} {l : Launch} {σ : ha_St} {x y d : Int32} (hY : LY σ) : hM G l yX11_isFeature cX11_isFeature 4 (some .boolean) { frames := 2, cells := 0, slots := 0, locals := 45 } [.ref (ad G 44), .int x, .int y, .int d] σ (fun v σ' => v = some (.int (feV x y d)) ∧ σ' = σ) := by
  refine hM_ofF [(0, .ref (ad G 44)), (1, .int x), (2, .int y), (3, .int d)] (by decide +kernel) (Nat.le_of_ble_eq_true rfl) rfl ?_
  intro p e s m args below meth c0 C hin
  refine h_aload_n C 0 dX11_isFeature_0 rfl rfl ?_
  refine h_iload_n C 1 dX11_isFeature_1 rfl rfl ?_
  refine h_iload_n C 2 dX11_isFeature_2 rfl rfl ?_
  refine h_callV C (m_X11_isPlace hY) caX11_134 kX11 (ty_44 hY) ⟨by decide, by decide, by decide, by decide⟩ rfl rfl (Nat.le_of_ble_eq_true rfl) dX11_isFeature_3 ?_
  rintro v σ' ⟨rfl, h2⟩; rw [h2]; clear h2
  show hW _ _ _ _ _ _ _ _ _ _ _ _ _ 6 [(0, .ref (ad G 44)), (1, .int x), (2, .int y), (3, .int d)] [.int (plcV x y)] σ 0 0
  refine h_if_eq C 24 dX11_isFeature_6 (by decide) (fun c_6 => ?_) (fun c_6 => ?_)
  · refine h_iconst C 0 dX11_isFeature_24 (by decide) ?_
    refine h_zret C rfl (by decide) (Nat.zero_le _) (Nat.zero_le _) dX11_isFeature_25 ?_
    refine ⟨vint ?_, rfl⟩
    clear C
    unfold inV plcV at *
    unfold feV
    grind
  · refine h_aload_n C 0 dX11_isFeature_9 rfl rfl ?_
    refine h_iload_n C 3 dX11_isFeature_10 rfl rfl ?_
    refine h_iconst C 0 dX11_isFeature_11 (by decide) ?_
    refine h_bipush C 7 dX11_isFeature_12 (by decide) ?_
    refine h_callV C m_X11_in caX11_130 kX11 (ty_44 hY) ⟨by decide, by decide, by decide, by decide⟩ rfl rfl (Nat.le_of_ble_eq_true rfl) dX11_isFeature_14 ?_
    rintro v σ' ⟨rfl, h2⟩; rw [h2]; clear h2
    show hW _ _ _ _ _ _ _ _ _ _ _ _ _ 17 [(0, .ref (ad G 44)), (1, .int x), (2, .int y), (3, .int d)] [.int (inV d 0 7)] σ 0 0
    refine h_if_eq C 24 dX11_isFeature_17 (by decide) (fun c_17 => ?_) (fun c_17 => ?_)
    · refine h_iconst C 0 dX11_isFeature_24 (by decide) ?_
      refine h_zret C rfl (by decide) (Nat.zero_le _) (Nat.zero_le _) dX11_isFeature_25 ?_
      refine ⟨vint ?_, rfl⟩
      clear C
      unfold inV plcV at *
      unfold feV
      grind
    · refine h_iconst C 1 dX11_isFeature_20 (by decide) ?_
      refine h_goto C 25 dX11_isFeature_21 (by decide) ?_
      refine h_zret C rfl (by decide) (Nat.zero_le _) (Nat.zero_le _) dX11_isFeature_25 ?_
      refine ⟨vint ?_, rfl⟩
      clear C
      unfold inV plcV at *
      unfold feV
      grind
set_option maxRecDepth 100000 in
set_option maxHeartbeats 4000000 in
theorem m_X11_canPlace {G : ha_G} {l : Launch} {σ : ha_St} {c : Int32} (hY : LY σ) (hN : MN σ) : hM G l yX11_canPlace cX11_canPlace 2 (some .boolean) { frames := 2, cells := 0, slots := 0, locals := 44 } [.ref (ad G 44), .int c] σ (fun v σ' => (∃ r, v = some (.int r) ∧ isB r (cpP σ c)) ∧ σ' = σ) := by
  refine hM_ofF [(0, .ref (ad G 44)), (1, .int c)] (by decide +kernel) (Nat.le_of_ble_eq_true rfl) rfl ?_
  intro p e s m args below meth c0 C hin
  refine h_aload_n C 0 dX11_canPlace_0 rfl rfl ?_
  refine h_iload_n C 1 dX11_canPlace_1 rfl rfl ?_
  refine h_callV C (m_X11_isContact hY hN) caX11_142 kX11 (ty_44 hY) ⟨by decide, by decide, by decide, by decide⟩ rfl rfl (Nat.le_of_ble_eq_true rfl) dX11_canPlace_2 ?_
  rintro v σ' ⟨rfl, h2⟩; rw [h2]; clear h2
  show hW _ _ _ _ _ _ _ _ _ _ _ _ _ 5 [(0, .ref (ad G 44)), (1, .int c)] [.int (icV σ c)] σ 0 0
  refine h_if_eq C 22 dX11_canPlace_5 (by decide) (fun c_5 => ?_) (fun c_5 => ?_)
  · refine h_iconst C 0 dX11_canPlace_22 (by decide) ?_
    refine h_zret C rfl (by decide) (Nat.zero_le _) (Nat.zero_le _) dX11_canPlace_23 ?_
    refine ⟨⟨_, rfl, isB0 (fun q => ?_)⟩, rfl⟩
    have h := c_5
    unfold icV at h
    rw [if_pos q.1] at h
    exact absurd h (by decide)
  · refine h_aload_n C 0 dX11_canPlace_8 rfl rfl ?_
    refine gfX11_16 C (ty_44 hY) dX11_canPlace_9 ?_
    refine h_tref (b := 45) (rf_44_2 hY) ?_
    refine h_iload_n C 1 dX11_canPlace_12 rfl rfl ?_
    refine h_iald C (ty_45 hY) (icv hN c_5) dX11_canPlace_13 ?_
    refine h_iconst C 2 dX11_canPlace_14 (by decide) ?_
    refine h_icmp_eq C 22 dX11_canPlace_15 (by decide) (fun c_15 => ?_) (fun c_15 => ?_)
    · refine h_iconst C 0 dX11_canPlace_22 (by decide) ?_
      refine h_zret C rfl (by decide) (Nat.zero_le _) (Nat.zero_le _) dX11_canPlace_23 ?_
      exact ⟨⟨_, rfl, isB0 (fun q => q.2 c_15)⟩, rfl⟩
    · refine h_iconst C 1 dX11_canPlace_18 (by decide) ?_
      refine h_goto C 23 dX11_canPlace_19 (by decide) ?_
      refine h_zret C rfl (by decide) (Nat.zero_le _) (Nat.zero_le _) dX11_canPlace_23 ?_
      refine ⟨⟨_, rfl, isB1 ⟨?_, c_15⟩⟩, rfl⟩
      have h := c_5
      unfold icV at h
      exact if_one h
def mB (σ : ha_St) (a b c : Nat) : Int64 := lAbs (tr3 (dr3 σ a) (dr3 σ b) (dr3 σ c))
def mA (σ : ha_St) (f : I3) (a b c : Nat) : Int64 := lAbs (tr3 f (dr3 σ b) (dr3 σ c)) * (gI σ 51 a).toInt64 + lAbs (tr3 (dr3 σ a) f (dr3 σ c)) * (gI σ 51 b).toInt64 + lAbs (tr3 (dr3 σ a) (dr3 σ b) f) * (gI σ 51 c).toInt64
def th9 (σ : ha_St) (a b c : Nat) : ha_St := sL (sL (sL (sL (sL (sL (sL (sL (sL σ 58 0 (dirV σ a 0)) 58 3 (dirV σ b 0)) 58 6 (dirV σ c 0)) 58 1 (dirV σ a 1)) 58 4 (dirV σ b 1)) 58 7 (dirV σ c 1)) 58 2 (dirV σ a 2)) 58 5 (dirV σ b 2)) 58 8 (dirV σ c 2)
theorem th9_J {σ : ha_St} {a b c : Nat} : frJ σ (th9 σ a b c) := ((((((((frJ_sL (by omega) (by omega)).tr (frJ_sL (by omega) (by omega))).tr (frJ_sL (by omega) (by omega))).tr (frJ_sL (by omega) (by omega))).tr (frJ_sL (by omega) (by omega))).tr (frJ_sL (by omega) (by omega))).tr (frJ_sL (by omega) (by omega))).tr (frJ_sL (by omega) (by omega))).tr (frJ_sL (by omega) (by omega))
theorem th9_0 {σ : ha_St} {a b c : Nat} : th3 (th9 σ a b c) 0 = dr3 σ a := rfl
theorem th9_1 {σ : ha_St} {a b c : Nat} : th3 (th9 σ a b c) 1 = dr3 σ b := rfl
theorem th9_2 {σ : ha_St} {a b c : Nat} : th3 (th9 σ a b c) 2 = dr3 σ c := rfl
theorem th9_f {σ : ha_St} {a b c : Nat} : gL (th9 σ a b c) 59 = gL σ 59 := rfl
/-- weighed -/
def wfQ (σ : ha_St) (f : I3) (a b c : Nat) (σ' : ha_St) : Prop := frJ σ σ' ∧ gL σ' 44 22 = mB σ a b c ∧ gL σ' 44 21 = mA σ f a b c ∧ gL σ' 59 = gL σ 59 ∧ gI σ' = gI σ
set_option maxRecDepth 100000 in
set_option maxHeartbeats 4000000 in
theorem m_X11_findWorst {G : ha_G} {l : Launch} {σ : ha_St} {a b c : Int32} (hY : LY σ) (ha : vp_in a 10) (hb : vp_in b 10) (hc : vp_in c 10) : hM G l yX11_findWorst cX11_findWorst 5 (some .boolean) { frames := 2, cells := 0, slots := 0, locals := 49 } [.ref (ad G 44), .int a, .int b, .int c] σ (fun v σ' => (∃ r, v = some (.int r) ∧ isB r (mB σ a.toNatClampNeg b.toNatClampNeg c.toNatClampNeg ≠ 0)) ∧ wfQ σ (f3 σ) a.toNatClampNeg b.toNatClampNeg c.toNatClampNeg σ') := by
  refine hM_ofF [(0, .ref (ad G 44)), (1, .int a), (2, .int b), (3, .int c)] (by decide +kernel) (Nat.le_of_ble_eq_true rfl) rfl ?_
  intro p e s m args below meth c0 C hin
  refine h_iconst C 0 dX11_findWorst_0 (by decide) ?_
  refine h_istore C [(4, .int 0), (0, .ref (ad G 44)), (1, .int a), (2, .int b), (3, .int c)] dX11_findWorst_1 (by decide) rfl ?_
  refine h_iload C 0 dX11_findWorst_3 rfl ?_
  refine h_iconst C 3 dX11_findWorst_5 (by decide) ?_
  refine h_icmp_ge C 62 dX11_findWorst_6 (by decide) (fun c_6 => ?_) (fun c_6 => ?_)
  · exact absurd c_6 (by decide)
  · refine h_aload_n C 1 dX11_findWorst_9 rfl rfl ?_
    refine gfX11_69 C (ty_44 hY) dX11_findWorst_10 ?_
    refine h_tref (b := 58) (rf_44_19 hY) ?_
    refine h_iload C 0 dX11_findWorst_13 rfl ?_
    refine h_aload_n C 1 dX11_findWorst_15 rfl rfl ?_
    refine h_iload_n C 2 dX11_findWorst_16 rfl rfl ?_
    refine h_iload C 0 dX11_findWorst_17 rfl ?_
    refine h_callV C (m_X11_direct (σ := σ) (hY.same rfl rfl rfl) ha) caX11_161 kX11 (ty_44 hY) ⟨by decide, by decide, by decide, by decide⟩ rfl rfl (Nat.le_of_ble_eq_true rfl) dX11_findWorst_19 ?_
    rintro v σ' ⟨rfl, h2⟩; rw [h2]; clear h2; rw [show dirV σ a.toNatClampNeg 0 = dirV σ a.toNatClampNeg 0 from rfl]
    show hW _ _ _ _ _ _ _ _ _ _ _ _ _ 22 [(4, .int 0), (0, .ref (ad G 44)), (1, .int a), (2, .int b), (3, .int c)] [.long (dirV σ a.toNatClampNeg 0), .int 0, .ref (ad G 58)] σ 0 0
    refine h_last C _ (ty_58 hY) (vp32 (N := 9) (by decide) (by decide) (by decide)) dX11_findWorst_22 rfl ?_
    show hW _ _ _ _ _ _ _ _ _ _ _ _ _ 23 [(4, .int 0), (0, .ref (ad G 44)), (1, .int a), (2, .int b), (3, .int c)] [] (sL σ 58 0 (dirV σ a.toNatClampNeg 0)) 0 0
    refine h_aload_n C 1 dX11_findWorst_23 rfl rfl ?_
    refine gfX11_69 C (ty_44 hY) dX11_findWorst_24 ?_
    refine h_tref (b := 58) (rf_44_19 hY) ?_
    refine h_iconst C 3 dX11_findWorst_27 (by decide) ?_
    refine h_iload C 0 dX11_findWorst_28 rfl ?_
    refine h_iadd C dX11_findWorst_30 ?_
    show hW _ _ _ _ _ _ _ _ _ _ _ _ _ 31 [(4, .int 0), (0, .ref (ad G 44)), (1, .int a), (2, .int b), (3, .int c)] [.int 3, .ref (ad G 58)] (sL σ 58 0 (dirV σ a.toNatClampNeg 0)) 0 0
    refine h_aload_n C 1 dX11_findWorst_31 rfl rfl ?_
    refine h_iload_n C 3 dX11_findWorst_32 rfl rfl ?_
    refine h_iload C 0 dX11_findWorst_33 rfl ?_
    refine h_callV C (m_X11_direct (σ := (sL σ 58 0 (dirV σ a.toNatClampNeg 0))) (hY.same rfl rfl rfl) hb) caX11_161 kX11 (ty_44 hY) ⟨by decide, by decide, by decide, by decide⟩ rfl rfl (Nat.le_of_ble_eq_true rfl) dX11_findWorst_35 ?_
    rintro v σ' ⟨rfl, h2⟩; rw [h2]; clear h2; rw [show dirV (sL σ 58 0 (dirV σ a.toNatClampNeg 0)) b.toNatClampNeg 0 = dirV σ b.toNatClampNeg 0 from rfl]
    show hW _ _ _ _ _ _ _ _ _ _ _ _ _ 38 [(4, .int 0), (0, .ref (ad G 44)), (1, .int a), (2, .int b), (3, .int c)] [.long (dirV σ b.toNatClampNeg 0), .int 3, .ref (ad G 58)] (sL σ 58 0 (dirV σ a.toNatClampNeg 0)) 0 0
    refine h_last C _ (ty_58 hY) (vp32 (N := 9) (by decide) (by decide) (by decide)) dX11_findWorst_38 rfl ?_
    show hW _ _ _ _ _ _ _ _ _ _ _ _ _ 39 [(4, .int 0), (0, .ref (ad G 44)), (1, .int a), (2, .int b), (3, .int c)] [] (sL (sL σ 58 0 (dirV σ a.toNatClampNeg 0)) 58 3 (dirV σ b.toNatClampNeg 0)) 0 0
    refine h_aload_n C 1 dX11_findWorst_39 rfl rfl ?_
    refine gfX11_69 C (ty_44 hY) dX11_findWorst_40 ?_
    refine h_tref (b := 58) (rf_44_19 hY) ?_
    refine h_bipush C 6 dX11_findWorst_43 (by decide) ?_
    refine h_iload C 0 dX11_findWorst_45 rfl ?_
    refine h_iadd C dX11_findWorst_47 ?_
    show hW _ _ _ _ _ _ _ _ _ _ _ _ _ 48 [(4, .int 0), (0, .ref (ad G 44)), (1, .int a), (2, .int b), (3, .int c)] [.int 6, .ref (ad G 58)] (sL (sL σ 58 0 (dirV σ a.toNatClampNeg 0)) 58 3 (dirV σ b.toNatClampNeg 0)) 0 0
    refine h_aload_n C 1 dX11_findWorst_48 rfl rfl ?_
    refine h_iload_n C 4 dX11_findWorst_49 rfl rfl ?_
    refine h_iload C 0 dX11_findWorst_50 rfl ?_
    refine h_callV C (m_X11_direct (σ := (sL (sL σ 58 0 (dirV σ a.toNatClampNeg 0)) 58 3 (dirV σ b.toNatClampNeg 0))) (hY.same rfl rfl rfl) hc) caX11_161 kX11 (ty_44 hY) ⟨by decide, by decide, by decide, by decide⟩ rfl rfl (Nat.le_of_ble_eq_true rfl) dX11_findWorst_52 ?_
    rintro v σ' ⟨rfl, h2⟩; rw [h2]; clear h2; rw [show dirV (sL (sL σ 58 0 (dirV σ a.toNatClampNeg 0)) 58 3 (dirV σ b.toNatClampNeg 0)) c.toNatClampNeg 0 = dirV σ c.toNatClampNeg 0 from rfl]
    show hW _ _ _ _ _ _ _ _ _ _ _ _ _ 55 [(4, .int 0), (0, .ref (ad G 44)), (1, .int a), (2, .int b), (3, .int c)] [.long (dirV σ c.toNatClampNeg 0), .int 6, .ref (ad G 58)] (sL (sL σ 58 0 (dirV σ a.toNatClampNeg 0)) 58 3 (dirV σ b.toNatClampNeg 0)) 0 0
    refine h_last C _ (ty_58 hY) (vp32 (N := 9) (by decide) (by decide) (by decide)) dX11_findWorst_55 rfl ?_
    show hW _ _ _ _ _ _ _ _ _ _ _ _ _ 56 [(4, .int 0), (0, .ref (ad G 44)), (1, .int a), (2, .int b), (3, .int c)] [] (sL (sL (sL σ 58 0 (dirV σ a.toNatClampNeg 0)) 58 3 (dirV σ b.toNatClampNeg 0)) 58 6 (dirV σ c.toNatClampNeg 0)) 0 0
    refine h_iinc C [(4, .int 1), (0, .ref (ad G 44)), (1, .int a), (2, .int b), (3, .int c)] 0 1 dX11_findWorst_56 rfl rfl (by decide) rfl ?_
    refine h_goto C 3 dX11_findWorst_59 (by decide) ?_
    refine h_iload C 0 dX11_findWorst_3 rfl ?_
    refine h_iconst C 3 dX11_findWorst_5 (by decide) ?_
    refine h_icmp_ge C 62 dX11_findWorst_6 (by decide) (fun c_6 => ?_) (fun c_6 => ?_)
    · exact absurd c_6 (by decide)
    · refine h_aload_n C 1 dX11_findWorst_9 rfl rfl ?_
      refine gfX11_69 C (ty_44 hY) dX11_findWorst_10 ?_
      refine h_tref (b := 58) (rf_44_19 hY) ?_
      refine h_iload C 0 dX11_findWorst_13 rfl ?_
      refine h_aload_n C 1 dX11_findWorst_15 rfl rfl ?_
      refine h_iload_n C 2 dX11_findWorst_16 rfl rfl ?_
      refine h_iload C 0 dX11_findWorst_17 rfl ?_
      refine h_callV C (m_X11_direct (σ := (sL (sL (sL σ 58 0 (dirV σ a.toNatClampNeg 0)) 58 3 (dirV σ b.toNatClampNeg 0)) 58 6 (dirV σ c.toNatClampNeg 0))) (hY.same rfl rfl rfl) ha) caX11_161 kX11 (ty_44 hY) ⟨by decide, by decide, by decide, by decide⟩ rfl rfl (Nat.le_of_ble_eq_true rfl) dX11_findWorst_19 ?_
      rintro v σ' ⟨rfl, h2⟩; rw [h2]; clear h2; rw [show dirV (sL (sL (sL σ 58 0 (dirV σ a.toNatClampNeg 0)) 58 3 (dirV σ b.toNatClampNeg 0)) 58 6 (dirV σ c.toNatClampNeg 0)) a.toNatClampNeg 1 = dirV σ a.toNatClampNeg 1 from rfl]
      show hW _ _ _ _ _ _ _ _ _ _ _ _ _ 22 [(4, .int 1), (0, .ref (ad G 44)), (1, .int a), (2, .int b), (3, .int c)] [.long (dirV σ a.toNatClampNeg 1), .int 1, .ref (ad G 58)] (sL (sL (sL σ 58 0 (dirV σ a.toNatClampNeg 0)) 58 3 (dirV σ b.toNatClampNeg 0)) 58 6 (dirV σ c.toNatClampNeg 0)) 0 0
      refine h_last C _ (ty_58 hY) (vp32 (N := 9) (by decide) (by decide) (by decide)) dX11_findWorst_22 rfl ?_
      show hW _ _ _ _ _ _ _ _ _ _ _ _ _ 23 [(4, .int 1), (0, .ref (ad G 44)), (1, .int a), (2, .int b), (3, .int c)] [] (sL (sL (sL (sL σ 58 0 (dirV σ a.toNatClampNeg 0)) 58 3 (dirV σ b.toNatClampNeg 0)) 58 6 (dirV σ c.toNatClampNeg 0)) 58 1 (dirV σ a.toNatClampNeg 1)) 0 0
      refine h_aload_n C 1 dX11_findWorst_23 rfl rfl ?_
      refine gfX11_69 C (ty_44 hY) dX11_findWorst_24 ?_
      refine h_tref (b := 58) (rf_44_19 hY) ?_
      refine h_iconst C 3 dX11_findWorst_27 (by decide) ?_
      refine h_iload C 0 dX11_findWorst_28 rfl ?_
      refine h_iadd C dX11_findWorst_30 ?_
      show hW _ _ _ _ _ _ _ _ _ _ _ _ _ 31 [(4, .int 1), (0, .ref (ad G 44)), (1, .int a), (2, .int b), (3, .int c)] [.int 4, .ref (ad G 58)] (sL (sL (sL (sL σ 58 0 (dirV σ a.toNatClampNeg 0)) 58 3 (dirV σ b.toNatClampNeg 0)) 58 6 (dirV σ c.toNatClampNeg 0)) 58 1 (dirV σ a.toNatClampNeg 1)) 0 0
      refine h_aload_n C 1 dX11_findWorst_31 rfl rfl ?_
      refine h_iload_n C 3 dX11_findWorst_32 rfl rfl ?_
      refine h_iload C 0 dX11_findWorst_33 rfl ?_
      refine h_callV C (m_X11_direct (σ := (sL (sL (sL (sL σ 58 0 (dirV σ a.toNatClampNeg 0)) 58 3 (dirV σ b.toNatClampNeg 0)) 58 6 (dirV σ c.toNatClampNeg 0)) 58 1 (dirV σ a.toNatClampNeg 1))) (hY.same rfl rfl rfl) hb) caX11_161 kX11 (ty_44 hY) ⟨by decide, by decide, by decide, by decide⟩ rfl rfl (Nat.le_of_ble_eq_true rfl) dX11_findWorst_35 ?_
      rintro v σ' ⟨rfl, h2⟩; rw [h2]; clear h2; rw [show dirV (sL (sL (sL (sL σ 58 0 (dirV σ a.toNatClampNeg 0)) 58 3 (dirV σ b.toNatClampNeg 0)) 58 6 (dirV σ c.toNatClampNeg 0)) 58 1 (dirV σ a.toNatClampNeg 1)) b.toNatClampNeg 1 = dirV σ b.toNatClampNeg 1 from rfl]
      show hW _ _ _ _ _ _ _ _ _ _ _ _ _ 38 [(4, .int 1), (0, .ref (ad G 44)), (1, .int a), (2, .int b), (3, .int c)] [.long (dirV σ b.toNatClampNeg 1), .int 4, .ref (ad G 58)] (sL (sL (sL (sL σ 58 0 (dirV σ a.toNatClampNeg 0)) 58 3 (dirV σ b.toNatClampNeg 0)) 58 6 (dirV σ c.toNatClampNeg 0)) 58 1 (dirV σ a.toNatClampNeg 1)) 0 0
      refine h_last C _ (ty_58 hY) (vp32 (N := 9) (by decide) (by decide) (by decide)) dX11_findWorst_38 rfl ?_
      show hW _ _ _ _ _ _ _ _ _ _ _ _ _ 39 [(4, .int 1), (0, .ref (ad G 44)), (1, .int a), (2, .int b), (3, .int c)] [] (sL (sL (sL (sL (sL σ 58 0 (dirV σ a.toNatClampNeg 0)) 58 3 (dirV σ b.toNatClampNeg 0)) 58 6 (dirV σ c.toNatClampNeg 0)) 58 1 (dirV σ a.toNatClampNeg 1)) 58 4 (dirV σ b.toNatClampNeg 1)) 0 0
      refine h_aload_n C 1 dX11_findWorst_39 rfl rfl ?_
      refine gfX11_69 C (ty_44 hY) dX11_findWorst_40 ?_
      refine h_tref (b := 58) (rf_44_19 hY) ?_
      refine h_bipush C 6 dX11_findWorst_43 (by decide) ?_
      refine h_iload C 0 dX11_findWorst_45 rfl ?_
      refine h_iadd C dX11_findWorst_47 ?_
      show hW _ _ _ _ _ _ _ _ _ _ _ _ _ 48 [(4, .int 1), (0, .ref (ad G 44)), (1, .int a), (2, .int b), (3, .int c)] [.int 7, .ref (ad G 58)] (sL (sL (sL (sL (sL σ 58 0 (dirV σ a.toNatClampNeg 0)) 58 3 (dirV σ b.toNatClampNeg 0)) 58 6 (dirV σ c.toNatClampNeg 0)) 58 1 (dirV σ a.toNatClampNeg 1)) 58 4 (dirV σ b.toNatClampNeg 1)) 0 0
      refine h_aload_n C 1 dX11_findWorst_48 rfl rfl ?_
      refine h_iload_n C 4 dX11_findWorst_49 rfl rfl ?_
      refine h_iload C 0 dX11_findWorst_50 rfl ?_
      refine h_callV C (m_X11_direct (σ := (sL (sL (sL (sL (sL σ 58 0 (dirV σ a.toNatClampNeg 0)) 58 3 (dirV σ b.toNatClampNeg 0)) 58 6 (dirV σ c.toNatClampNeg 0)) 58 1 (dirV σ a.toNatClampNeg 1)) 58 4 (dirV σ b.toNatClampNeg 1))) (hY.same rfl rfl rfl) hc) caX11_161 kX11 (ty_44 hY) ⟨by decide, by decide, by decide, by decide⟩ rfl rfl (Nat.le_of_ble_eq_true rfl) dX11_findWorst_52 ?_
      rintro v σ' ⟨rfl, h2⟩; rw [h2]; clear h2; rw [show dirV (sL (sL (sL (sL (sL σ 58 0 (dirV σ a.toNatClampNeg 0)) 58 3 (dirV σ b.toNatClampNeg 0)) 58 6 (dirV σ c.toNatClampNeg 0)) 58 1 (dirV σ a.toNatClampNeg 1)) 58 4 (dirV σ b.toNatClampNeg 1)) c.toNatClampNeg 1 = dirV σ c.toNatClampNeg 1 from rfl]
      show hW _ _ _ _ _ _ _ _ _ _ _ _ _ 55 [(4, .int 1), (0, .ref (ad G 44)), (1, .int a), (2, .int b), (3, .int c)] [.long (dirV σ c.toNatClampNeg 1), .int 7, .ref (ad G 58)] (sL (sL (sL (sL (sL σ 58 0 (dirV σ a.toNatClampNeg 0)) 58 3 (dirV σ b.toNatClampNeg 0)) 58 6 (dirV σ c.toNatClampNeg 0)) 58 1 (dirV σ a.toNatClampNeg 1)) 58 4 (dirV σ b.toNatClampNeg 1)) 0 0
      refine h_last C _ (ty_58 hY) (vp32 (N := 9) (by decide) (by decide) (by decide)) dX11_findWorst_55 rfl ?_
      show hW _ _ _ _ _ _ _ _ _ _ _ _ _ 56 [(4, .int 1), (0, .ref (ad G 44)), (1, .int a), (2, .int b), (3, .int c)] [] (sL (sL (sL (sL (sL (sL σ 58 0 (dirV σ a.toNatClampNeg 0)) 58 3 (dirV σ b.toNatClampNeg 0)) 58 6 (dirV σ c.toNatClampNeg 0)) 58 1 (dirV σ a.toNatClampNeg 1)) 58 4 (dirV σ b.toNatClampNeg 1)) 58 7 (dirV σ c.toNatClampNeg 1)) 0 0
      refine h_iinc C [(4, .int 2), (0, .ref (ad G 44)), (1, .int a), (2, .int b), (3, .int c)] 0 2 dX11_findWorst_56 rfl rfl (by decide) rfl ?_
      refine h_goto C 3 dX11_findWorst_59 (by decide) ?_
      refine h_iload C 0 dX11_findWorst_3 rfl ?_
      refine h_iconst C 3 dX11_findWorst_5 (by decide) ?_
      refine h_icmp_ge C 62 dX11_findWorst_6 (by decide) (fun c_6 => ?_) (fun c_6 => ?_)
      · exact absurd c_6 (by decide)
      · refine h_aload_n C 1 dX11_findWorst_9 rfl rfl ?_
        refine gfX11_69 C (ty_44 hY) dX11_findWorst_10 ?_
        refine h_tref (b := 58) (rf_44_19 hY) ?_
        refine h_iload C 0 dX11_findWorst_13 rfl ?_
        refine h_aload_n C 1 dX11_findWorst_15 rfl rfl ?_
        refine h_iload_n C 2 dX11_findWorst_16 rfl rfl ?_
        refine h_iload C 0 dX11_findWorst_17 rfl ?_
        refine h_callV C (m_X11_direct (σ := (sL (sL (sL (sL (sL (sL σ 58 0 (dirV σ a.toNatClampNeg 0)) 58 3 (dirV σ b.toNatClampNeg 0)) 58 6 (dirV σ c.toNatClampNeg 0)) 58 1 (dirV σ a.toNatClampNeg 1)) 58 4 (dirV σ b.toNatClampNeg 1)) 58 7 (dirV σ c.toNatClampNeg 1))) (hY.same rfl rfl rfl) ha) caX11_161 kX11 (ty_44 hY) ⟨by decide, by decide, by decide, by decide⟩ rfl rfl (Nat.le_of_ble_eq_true rfl) dX11_findWorst_19 ?_
        rintro v σ' ⟨rfl, h2⟩; rw [h2]; clear h2; rw [show dirV (sL (sL (sL (sL (sL (sL σ 58 0 (dirV σ a.toNatClampNeg 0)) 58 3 (dirV σ b.toNatClampNeg 0)) 58 6 (dirV σ c.toNatClampNeg 0)) 58 1 (dirV σ a.toNatClampNeg 1)) 58 4 (dirV σ b.toNatClampNeg 1)) 58 7 (dirV σ c.toNatClampNeg 1)) a.toNatClampNeg 2 = dirV σ a.toNatClampNeg 2 from rfl]
        show hW _ _ _ _ _ _ _ _ _ _ _ _ _ 22 [(4, .int 2), (0, .ref (ad G 44)), (1, .int a), (2, .int b), (3, .int c)] [.long (dirV σ a.toNatClampNeg 2), .int 2, .ref (ad G 58)] (sL (sL (sL (sL (sL (sL σ 58 0 (dirV σ a.toNatClampNeg 0)) 58 3 (dirV σ b.toNatClampNeg 0)) 58 6 (dirV σ c.toNatClampNeg 0)) 58 1 (dirV σ a.toNatClampNeg 1)) 58 4 (dirV σ b.toNatClampNeg 1)) 58 7 (dirV σ c.toNatClampNeg 1)) 0 0
        refine h_last C _ (ty_58 hY) (vp32 (N := 9) (by decide) (by decide) (by decide)) dX11_findWorst_22 rfl ?_
        show hW _ _ _ _ _ _ _ _ _ _ _ _ _ 23 [(4, .int 2), (0, .ref (ad G 44)), (1, .int a), (2, .int b), (3, .int c)] [] (sL (sL (sL (sL (sL (sL (sL σ 58 0 (dirV σ a.toNatClampNeg 0)) 58 3 (dirV σ b.toNatClampNeg 0)) 58 6 (dirV σ c.toNatClampNeg 0)) 58 1 (dirV σ a.toNatClampNeg 1)) 58 4 (dirV σ b.toNatClampNeg 1)) 58 7 (dirV σ c.toNatClampNeg 1)) 58 2 (dirV σ a.toNatClampNeg 2)) 0 0
        refine h_aload_n C 1 dX11_findWorst_23 rfl rfl ?_
        refine gfX11_69 C (ty_44 hY) dX11_findWorst_24 ?_
        refine h_tref (b := 58) (rf_44_19 hY) ?_
        refine h_iconst C 3 dX11_findWorst_27 (by decide) ?_
        refine h_iload C 0 dX11_findWorst_28 rfl ?_
        refine h_iadd C dX11_findWorst_30 ?_
        show hW _ _ _ _ _ _ _ _ _ _ _ _ _ 31 [(4, .int 2), (0, .ref (ad G 44)), (1, .int a), (2, .int b), (3, .int c)] [.int 5, .ref (ad G 58)] (sL (sL (sL (sL (sL (sL (sL σ 58 0 (dirV σ a.toNatClampNeg 0)) 58 3 (dirV σ b.toNatClampNeg 0)) 58 6 (dirV σ c.toNatClampNeg 0)) 58 1 (dirV σ a.toNatClampNeg 1)) 58 4 (dirV σ b.toNatClampNeg 1)) 58 7 (dirV σ c.toNatClampNeg 1)) 58 2 (dirV σ a.toNatClampNeg 2)) 0 0
        refine h_aload_n C 1 dX11_findWorst_31 rfl rfl ?_
        refine h_iload_n C 3 dX11_findWorst_32 rfl rfl ?_
        refine h_iload C 0 dX11_findWorst_33 rfl ?_
        refine h_callV C (m_X11_direct (σ := (sL (sL (sL (sL (sL (sL (sL σ 58 0 (dirV σ a.toNatClampNeg 0)) 58 3 (dirV σ b.toNatClampNeg 0)) 58 6 (dirV σ c.toNatClampNeg 0)) 58 1 (dirV σ a.toNatClampNeg 1)) 58 4 (dirV σ b.toNatClampNeg 1)) 58 7 (dirV σ c.toNatClampNeg 1)) 58 2 (dirV σ a.toNatClampNeg 2))) (hY.same rfl rfl rfl) hb) caX11_161 kX11 (ty_44 hY) ⟨by decide, by decide, by decide, by decide⟩ rfl rfl (Nat.le_of_ble_eq_true rfl) dX11_findWorst_35 ?_
        rintro v σ' ⟨rfl, h2⟩; rw [h2]; clear h2; rw [show dirV (sL (sL (sL (sL (sL (sL (sL σ 58 0 (dirV σ a.toNatClampNeg 0)) 58 3 (dirV σ b.toNatClampNeg 0)) 58 6 (dirV σ c.toNatClampNeg 0)) 58 1 (dirV σ a.toNatClampNeg 1)) 58 4 (dirV σ b.toNatClampNeg 1)) 58 7 (dirV σ c.toNatClampNeg 1)) 58 2 (dirV σ a.toNatClampNeg 2)) b.toNatClampNeg 2 = dirV σ b.toNatClampNeg 2 from rfl]
        show hW _ _ _ _ _ _ _ _ _ _ _ _ _ 38 [(4, .int 2), (0, .ref (ad G 44)), (1, .int a), (2, .int b), (3, .int c)] [.long (dirV σ b.toNatClampNeg 2), .int 5, .ref (ad G 58)] (sL (sL (sL (sL (sL (sL (sL σ 58 0 (dirV σ a.toNatClampNeg 0)) 58 3 (dirV σ b.toNatClampNeg 0)) 58 6 (dirV σ c.toNatClampNeg 0)) 58 1 (dirV σ a.toNatClampNeg 1)) 58 4 (dirV σ b.toNatClampNeg 1)) 58 7 (dirV σ c.toNatClampNeg 1)) 58 2 (dirV σ a.toNatClampNeg 2)) 0 0
        refine h_last C _ (ty_58 hY) (vp32 (N := 9) (by decide) (by decide) (by decide)) dX11_findWorst_38 rfl ?_
        show hW _ _ _ _ _ _ _ _ _ _ _ _ _ 39 [(4, .int 2), (0, .ref (ad G 44)), (1, .int a), (2, .int b), (3, .int c)] [] (sL (sL (sL (sL (sL (sL (sL (sL σ 58 0 (dirV σ a.toNatClampNeg 0)) 58 3 (dirV σ b.toNatClampNeg 0)) 58 6 (dirV σ c.toNatClampNeg 0)) 58 1 (dirV σ a.toNatClampNeg 1)) 58 4 (dirV σ b.toNatClampNeg 1)) 58 7 (dirV σ c.toNatClampNeg 1)) 58 2 (dirV σ a.toNatClampNeg 2)) 58 5 (dirV σ b.toNatClampNeg 2)) 0 0
        refine h_aload_n C 1 dX11_findWorst_39 rfl rfl ?_
        refine gfX11_69 C (ty_44 hY) dX11_findWorst_40 ?_
        refine h_tref (b := 58) (rf_44_19 hY) ?_
        refine h_bipush C 6 dX11_findWorst_43 (by decide) ?_
        refine h_iload C 0 dX11_findWorst_45 rfl ?_
        refine h_iadd C dX11_findWorst_47 ?_
        show hW _ _ _ _ _ _ _ _ _ _ _ _ _ 48 [(4, .int 2), (0, .ref (ad G 44)), (1, .int a), (2, .int b), (3, .int c)] [.int 8, .ref (ad G 58)] (sL (sL (sL (sL (sL (sL (sL (sL σ 58 0 (dirV σ a.toNatClampNeg 0)) 58 3 (dirV σ b.toNatClampNeg 0)) 58 6 (dirV σ c.toNatClampNeg 0)) 58 1 (dirV σ a.toNatClampNeg 1)) 58 4 (dirV σ b.toNatClampNeg 1)) 58 7 (dirV σ c.toNatClampNeg 1)) 58 2 (dirV σ a.toNatClampNeg 2)) 58 5 (dirV σ b.toNatClampNeg 2)) 0 0
        refine h_aload_n C 1 dX11_findWorst_48 rfl rfl ?_
        refine h_iload_n C 4 dX11_findWorst_49 rfl rfl ?_
        refine h_iload C 0 dX11_findWorst_50 rfl ?_
        refine h_callV C (m_X11_direct (σ := (sL (sL (sL (sL (sL (sL (sL (sL σ 58 0 (dirV σ a.toNatClampNeg 0)) 58 3 (dirV σ b.toNatClampNeg 0)) 58 6 (dirV σ c.toNatClampNeg 0)) 58 1 (dirV σ a.toNatClampNeg 1)) 58 4 (dirV σ b.toNatClampNeg 1)) 58 7 (dirV σ c.toNatClampNeg 1)) 58 2 (dirV σ a.toNatClampNeg 2)) 58 5 (dirV σ b.toNatClampNeg 2))) (hY.same rfl rfl rfl) hc) caX11_161 kX11 (ty_44 hY) ⟨by decide, by decide, by decide, by decide⟩ rfl rfl (Nat.le_of_ble_eq_true rfl) dX11_findWorst_52 ?_
        rintro v σ' ⟨rfl, h2⟩; rw [h2]; clear h2; rw [show dirV (sL (sL (sL (sL (sL (sL (sL (sL σ 58 0 (dirV σ a.toNatClampNeg 0)) 58 3 (dirV σ b.toNatClampNeg 0)) 58 6 (dirV σ c.toNatClampNeg 0)) 58 1 (dirV σ a.toNatClampNeg 1)) 58 4 (dirV σ b.toNatClampNeg 1)) 58 7 (dirV σ c.toNatClampNeg 1)) 58 2 (dirV σ a.toNatClampNeg 2)) 58 5 (dirV σ b.toNatClampNeg 2)) c.toNatClampNeg 2 = dirV σ c.toNatClampNeg 2 from rfl]
        show hW _ _ _ _ _ _ _ _ _ _ _ _ _ 55 [(4, .int 2), (0, .ref (ad G 44)), (1, .int a), (2, .int b), (3, .int c)] [.long (dirV σ c.toNatClampNeg 2), .int 8, .ref (ad G 58)] (sL (sL (sL (sL (sL (sL (sL (sL σ 58 0 (dirV σ a.toNatClampNeg 0)) 58 3 (dirV σ b.toNatClampNeg 0)) 58 6 (dirV σ c.toNatClampNeg 0)) 58 1 (dirV σ a.toNatClampNeg 1)) 58 4 (dirV σ b.toNatClampNeg 1)) 58 7 (dirV σ c.toNatClampNeg 1)) 58 2 (dirV σ a.toNatClampNeg 2)) 58 5 (dirV σ b.toNatClampNeg 2)) 0 0
        refine h_last C _ (ty_58 hY) (vp32 (N := 9) (by decide) (by decide) (by decide)) dX11_findWorst_55 rfl ?_
        show hW _ _ _ _ _ _ _ _ _ _ _ _ _ 56 [(4, .int 2), (0, .ref (ad G 44)), (1, .int a), (2, .int b), (3, .int c)] [] (sL (sL (sL (sL (sL (sL (sL (sL (sL σ 58 0 (dirV σ a.toNatClampNeg 0)) 58 3 (dirV σ b.toNatClampNeg 0)) 58 6 (dirV σ c.toNatClampNeg 0)) 58 1 (dirV σ a.toNatClampNeg 1)) 58 4 (dirV σ b.toNatClampNeg 1)) 58 7 (dirV σ c.toNatClampNeg 1)) 58 2 (dirV σ a.toNatClampNeg 2)) 58 5 (dirV σ b.toNatClampNeg 2)) 58 8 (dirV σ c.toNatClampNeg 2)) 0 0
        refine h_iinc C [(4, .int 3), (0, .ref (ad G 44)), (1, .int a), (2, .int b), (3, .int c)] 0 3 dX11_findWorst_56 rfl rfl (by decide) rfl ?_
        refine h_goto C 3 dX11_findWorst_59 (by decide) ?_
        refine h_iload C 0 dX11_findWorst_3 rfl ?_
        refine h_iconst C 3 dX11_findWorst_5 (by decide) ?_
        refine h_icmp_ge C 62 dX11_findWorst_6 (by decide) (fun c_6 => ?_) (fun c_6 => ?_)
        · obtain ⟨σ1, e1⟩ : ∃ z, z = (sL (sL (sL (sL (sL (sL (sL (sL (sL σ 58 0 (dirV σ a.toNatClampNeg 0)) 58 3 (dirV σ b.toNatClampNeg 0)) 58 6 (dirV σ c.toNatClampNeg 0)) 58 1 (dirV σ a.toNatClampNeg 1)) 58 4 (dirV σ b.toNatClampNeg 1)) 58 7 (dirV σ c.toNatClampNeg 1)) 58 2 (dirV σ a.toNatClampNeg 2)) 58 5 (dirV σ b.toNatClampNeg 2)) 58 8 (dirV σ c.toNatClampNeg 2)) := ⟨_, rfl⟩
          rw [← e1]
          have e2 : σ1 = th9 σ a.toNatClampNeg b.toNatClampNeg c.toNatClampNeg := e1
          clear e1
          have hj : frJ σ σ1 := by rw [e2]; exact th9_J
          have hY : LY σ1 := hj.LY hY
          have hf : f3 σ1 = f3 σ := by rw [e2]; rfl
          have h59 : gL σ1 59 = gL σ 59 := by rw [e2]; exact th9_f
          have g0 : th3 σ1 0 = dr3 σ a.toNatClampNeg := by rw [e2]; exact th9_0
          have g1 : th3 σ1 1 = dr3 σ b.toNatClampNeg := by rw [e2]; exact th9_1
          have g2 : th3 σ1 2 = dr3 σ c.toNatClampNeg := by rw [e2]; exact th9_2
          have hgi : gI σ1 = gI σ := by rw [e2]; rfl
          have h51 : gI σ1 51 = gI σ 51 := by rw [hgi]
          clear e2
          show hW _ _ _ _ _ _ _ _ _ _ _ _ _ 62 [(4, .int 3), (0, .ref (ad G 44)), (1, .int a), (2, .int b), (3, .int c)] [] σ1 0 0
          refine h_aload_n C 1 dX11_findWorst_62 rfl rfl ?_
          refine h_aload_n C 1 dX11_findWorst_63 rfl rfl ?_
          refine h_aload_n C 1 dX11_findWorst_64 rfl rfl ?_
          refine h_iconst C (-1) dX11_findWorst_65 (by decide) ?_
          refine h_callV C (m_X11_determinant (σ := σ1) (hY.same rfl rfl rfl)) caX11_240 kX11 (ty_44 hY) ⟨by decide, by decide, by decide, by decide⟩ rfl rfl (Nat.le_of_ble_eq_true rfl) dX11_findWorst_66 ?_
          rintro v σ' ⟨rfl, h2⟩; rw [h2]; clear h2; rw [show dtV σ1 (-1) = dtV σ1 (-1) from rfl]
          show hW _ _ _ _ _ _ _ _ _ _ _ _ _ 69 [(4, .int 3), (0, .ref (ad G 44)), (1, .int a), (2, .int b), (3, .int c)] [.long (dtV σ1 (-1)), .ref (ad G 44), .ref (ad G 44)] σ1 0 0
          refine h_callV C m_X11_abs caX11_191 kX11 (ty_44 hY) ⟨by decide, by decide, by decide, by decide⟩ rfl rfl (Nat.le_of_ble_eq_true rfl) dX11_findWorst_69 ?_
          rintro v σ' ⟨rfl, h2⟩; rw [h2]; clear h2
          show hW _ _ _ _ _ _ _ _ _ _ _ _ _ 72 [(4, .int 3), (0, .ref (ad G 44)), (1, .int a), (2, .int b), (3, .int c)] [.long (lAbs (dtV σ1 (-1))), .ref (ad G 44)] σ1 0 0
          refine pfX11_79 C (ty_44 hY) dX11_findWorst_72 ?_
          refine h_aload_n C 1 dX11_findWorst_75 rfl rfl ?_
          refine h_aload_n C 1 dX11_findWorst_76 rfl rfl ?_
          refine h_aload_n C 1 dX11_findWorst_77 rfl rfl ?_
          refine h_iconst C 0 dX11_findWorst_78 (by decide) ?_
          refine h_callV C (m_X11_determinant (σ := (sL σ1 44 22 (lAbs (dtV σ1 (-1))))) (hY.same rfl rfl rfl)) caX11_240 kX11 (ty_44 hY) ⟨by decide, by decide, by decide, by decide⟩ rfl rfl (Nat.le_of_ble_eq_true rfl) dX11_findWorst_79 ?_
          rintro v σ' ⟨rfl, h2⟩; rw [h2]; clear h2; rw [show dtV (sL σ1 44 22 (lAbs (dtV σ1 (-1)))) 0 = dtV σ1 0 from rfl]
          show hW _ _ _ _ _ _ _ _ _ _ _ _ _ 82 [(4, .int 3), (0, .ref (ad G 44)), (1, .int a), (2, .int b), (3, .int c)] [.long (dtV σ1 0), .ref (ad G 44), .ref (ad G 44)] (sL σ1 44 22 (lAbs (dtV σ1 (-1)))) 0 0
          refine h_callV C m_X11_abs caX11_191 kX11 (ty_44 hY) ⟨by decide, by decide, by decide, by decide⟩ rfl rfl (Nat.le_of_ble_eq_true rfl) dX11_findWorst_82 ?_
          rintro v σ' ⟨rfl, h2⟩; rw [h2]; clear h2
          show hW _ _ _ _ _ _ _ _ _ _ _ _ _ 85 [(4, .int 3), (0, .ref (ad G 44)), (1, .int a), (2, .int b), (3, .int c)] [.long (lAbs (dtV σ1 0)), .ref (ad G 44)] (sL σ1 44 22 (lAbs (dtV σ1 (-1)))) 0 0
          refine h_aload_n C 1 dX11_findWorst_85 rfl rfl ?_
          refine gfX11_35 C (ty_44 hY) dX11_findWorst_86 ?_
          refine h_tref (b := 51) (rf_44_8 hY) ?_
          refine h_iload_n C 2 dX11_findWorst_89 rfl rfl ?_
          refine h_iald C (ty_51 hY) ha dX11_findWorst_90 ?_
          show hW _ _ _ _ _ _ _ _ _ _ _ _ _ 91 [(4, .int 3), (0, .ref (ad G 44)), (1, .int a), (2, .int b), (3, .int c)] [.int (gI σ1 51 a.toNatClampNeg), .long (lAbs (dtV σ1 0)), .ref (ad G 44)] (sL σ1 44 22 (lAbs (dtV σ1 (-1)))) 0 0
          refine h_i2l C dX11_findWorst_91 ?_
          refine h_lmul C dX11_findWorst_92 ?_
          refine h_aload_n C 1 dX11_findWorst_93 rfl rfl ?_
          refine h_aload_n C 1 dX11_findWorst_94 rfl rfl ?_
          refine h_iconst C 1 dX11_findWorst_95 (by decide) ?_
          refine h_callV C (m_X11_determinant (σ := (sL σ1 44 22 (lAbs (dtV σ1 (-1))))) (hY.same rfl rfl rfl)) caX11_240 kX11 (ty_44 hY) ⟨by decide, by decide, by decide, by decide⟩ rfl rfl (Nat.le_of_ble_eq_true rfl) dX11_findWorst_96 ?_
          rintro v σ' ⟨rfl, h2⟩; rw [h2]; clear h2; rw [show dtV (sL σ1 44 22 (lAbs (dtV σ1 (-1)))) 1 = dtV σ1 1 from rfl]
          show hW _ _ _ _ _ _ _ _ _ _ _ _ _ 99 [(4, .int 3), (0, .ref (ad G 44)), (1, .int a), (2, .int b), (3, .int c)] [.long (dtV σ1 1), .ref (ad G 44), .long ((lAbs (dtV σ1 0)) * (gI σ1 51 a.toNatClampNeg).toInt64), .ref (ad G 44)] (sL σ1 44 22 (lAbs (dtV σ1 (-1)))) 0 0
          refine h_callV C m_X11_abs caX11_191 kX11 (ty_44 hY) ⟨by decide, by decide, by decide, by decide⟩ rfl rfl (Nat.le_of_ble_eq_true rfl) dX11_findWorst_99 ?_
          rintro v σ' ⟨rfl, h2⟩; rw [h2]; clear h2
          show hW _ _ _ _ _ _ _ _ _ _ _ _ _ 102 [(4, .int 3), (0, .ref (ad G 44)), (1, .int a), (2, .int b), (3, .int c)] [.long (lAbs (dtV σ1 1)), .long ((lAbs (dtV σ1 0)) * (gI σ1 51 a.toNatClampNeg).toInt64), .ref (ad G 44)] (sL σ1 44 22 (lAbs (dtV σ1 (-1)))) 0 0
          refine h_aload_n C 1 dX11_findWorst_102 rfl rfl ?_
          refine gfX11_35 C (ty_44 hY) dX11_findWorst_103 ?_
          refine h_tref (b := 51) (rf_44_8 hY) ?_
          refine h_iload_n C 3 dX11_findWorst_106 rfl rfl ?_
          refine h_iald C (ty_51 hY) hb dX11_findWorst_107 ?_
          show hW _ _ _ _ _ _ _ _ _ _ _ _ _ 108 [(4, .int 3), (0, .ref (ad G 44)), (1, .int a), (2, .int b), (3, .int c)] [.int (gI σ1 51 b.toNatClampNeg), .long (lAbs (dtV σ1 1)), .long ((lAbs (dtV σ1 0)) * (gI σ1 51 a.toNatClampNeg).toInt64), .ref (ad G 44)] (sL σ1 44 22 (lAbs (dtV σ1 (-1)))) 0 0
          refine h_i2l C dX11_findWorst_108 ?_
          refine h_lmul C dX11_findWorst_109 ?_
          refine h_ladd C dX11_findWorst_110 ?_
          refine h_aload_n C 1 dX11_findWorst_111 rfl rfl ?_
          refine h_aload_n C 1 dX11_findWorst_112 rfl rfl ?_
          refine h_iconst C 2 dX11_findWorst_113 (by decide) ?_
          refine h_callV C (m_X11_determinant (σ := (sL σ1 44 22 (lAbs (dtV σ1 (-1))))) (hY.same rfl rfl rfl)) caX11_240 kX11 (ty_44 hY) ⟨by decide, by decide, by decide, by decide⟩ rfl rfl (Nat.le_of_ble_eq_true rfl) dX11_findWorst_114 ?_
          rintro v σ' ⟨rfl, h2⟩; rw [h2]; clear h2; rw [show dtV (sL σ1 44 22 (lAbs (dtV σ1 (-1)))) 2 = dtV σ1 2 from rfl]
          show hW _ _ _ _ _ _ _ _ _ _ _ _ _ 117 [(4, .int 3), (0, .ref (ad G 44)), (1, .int a), (2, .int b), (3, .int c)] [.long (dtV σ1 2), .ref (ad G 44), .long (((lAbs (dtV σ1 0)) * (gI σ1 51 a.toNatClampNeg).toInt64) + ((lAbs (dtV σ1 1)) * (gI σ1 51 b.toNatClampNeg).toInt64)), .ref (ad G 44)] (sL σ1 44 22 (lAbs (dtV σ1 (-1)))) 0 0
          refine h_callV C m_X11_abs caX11_191 kX11 (ty_44 hY) ⟨by decide, by decide, by decide, by decide⟩ rfl rfl (Nat.le_of_ble_eq_true rfl) dX11_findWorst_117 ?_
          rintro v σ' ⟨rfl, h2⟩; rw [h2]; clear h2
          show hW _ _ _ _ _ _ _ _ _ _ _ _ _ 120 [(4, .int 3), (0, .ref (ad G 44)), (1, .int a), (2, .int b), (3, .int c)] [.long (lAbs (dtV σ1 2)), .long (((lAbs (dtV σ1 0)) * (gI σ1 51 a.toNatClampNeg).toInt64) + ((lAbs (dtV σ1 1)) * (gI σ1 51 b.toNatClampNeg).toInt64)), .ref (ad G 44)] (sL σ1 44 22 (lAbs (dtV σ1 (-1)))) 0 0
          refine h_aload_n C 1 dX11_findWorst_120 rfl rfl ?_
          refine gfX11_35 C (ty_44 hY) dX11_findWorst_121 ?_
          refine h_tref (b := 51) (rf_44_8 hY) ?_
          refine h_iload_n C 4 dX11_findWorst_124 rfl rfl ?_
          refine h_iald C (ty_51 hY) hc dX11_findWorst_125 ?_
          show hW _ _ _ _ _ _ _ _ _ _ _ _ _ 126 [(4, .int 3), (0, .ref (ad G 44)), (1, .int a), (2, .int b), (3, .int c)] [.int (gI σ1 51 c.toNatClampNeg), .long (lAbs (dtV σ1 2)), .long (((lAbs (dtV σ1 0)) * (gI σ1 51 a.toNatClampNeg).toInt64) + ((lAbs (dtV σ1 1)) * (gI σ1 51 b.toNatClampNeg).toInt64)), .ref (ad G 44)] (sL σ1 44 22 (lAbs (dtV σ1 (-1)))) 0 0
          refine h_i2l C dX11_findWorst_126 ?_
          refine h_lmul C dX11_findWorst_127 ?_
          refine h_ladd C dX11_findWorst_128 ?_
          refine pfX11_75 C (ty_44 hY) dX11_findWorst_129 ?_
          refine h_aload_n C 1 dX11_findWorst_132 rfl rfl ?_
          refine gfX11_79 C (ty_44 hY) dX11_findWorst_133 ?_
          show hW _ _ _ _ _ _ _ _ _ _ _ _ _ 136 [(4, .int 3), (0, .ref (ad G 44)), (1, .int a), (2, .int b), (3, .int c)] [.long (lAbs (dtV σ1 (-1)))] (sL (sL σ1 44 22 (lAbs (dtV σ1 (-1)))) 44 21 ((((lAbs (dtV σ1 0)) * (gI σ1 51 a.toNatClampNeg).toInt64) + ((lAbs (dtV σ1 1)) * (gI σ1 51 b.toNatClampNeg).toInt64)) + ((lAbs (dtV σ1 2)) * (gI σ1 51 c.toNatClampNeg).toInt64))) 0 0
          refine h_lconst C 0 dX11_findWorst_136 rfl ?_
          refine h_lcmp C dX11_findWorst_137 ?_
          refine h_if_eq C 145 dX11_findWorst_138 (by decide) (fun c_138 => ?_) (fun c_138 => ?_)
          · refine h_iconst C 0 dX11_findWorst_145 (by decide) ?_
            refine h_zret C rfl (by decide) (Nat.zero_le _) (Nat.zero_le _) dX11_findWorst_146 ?_
            have e1 : lAbs (dtV σ1 (-1)) = mB σ a.toNatClampNeg b.toNatClampNeg c.toNatClampNeg := by rw [dtV_m, g0, g1, g2]; rfl
            have e2 : lAbs (dtV σ1 0) * (gI σ1 51 a.toNatClampNeg).toInt64 + lAbs (dtV σ1 1) * (gI σ1 51 b.toNatClampNeg).toInt64 + lAbs (dtV σ1 2) * (gI σ1 51 c.toNatClampNeg).toInt64 = mA σ (f3 σ) a.toNatClampNeg b.toNatClampNeg c.toNatClampNeg := by rw [dtV_0, dtV_1, dtV_2, g0, g1, g2, hf, h51]; rfl
            rw [e1] at c_138
            refine ⟨⟨_, rfl, isB0 (fun q => q (lg_eq0.mp c_138))⟩, (hj.tr (frJ_sL (by omega) (by omega))).tr (frJ_sL (by omega) (by omega)), e1, e2, h59, hgi⟩
          · refine h_iconst C 1 dX11_findWorst_141 (by decide) ?_
            refine h_goto C 146 dX11_findWorst_142 (by decide) ?_
            refine h_zret C rfl (by decide) (Nat.zero_le _) (Nat.zero_le _) dX11_findWorst_146 ?_
            have e1 : lAbs (dtV σ1 (-1)) = mB σ a.toNatClampNeg b.toNatClampNeg c.toNatClampNeg := by rw [dtV_m, g0, g1, g2]; rfl
            have e2 : lAbs (dtV σ1 0) * (gI σ1 51 a.toNatClampNeg).toInt64 + lAbs (dtV σ1 1) * (gI σ1 51 b.toNatClampNeg).toInt64 + lAbs (dtV σ1 2) * (gI σ1 51 c.toNatClampNeg).toInt64 = mA σ (f3 σ) a.toNatClampNeg b.toNatClampNeg c.toNatClampNeg := by rw [dtV_0, dtV_1, dtV_2, g0, g1, g2, hf, h51]; rfl
            rw [e1] at c_138
            refine ⟨⟨_, rfl, isB1 (fun q => c_138 (lg_eq0.mpr q))⟩, (hj.tr (frJ_sL (by omega) (by omega))).tr (frJ_sL (by omega) (by omega)), e1, e2, h59, hgi⟩
        · exact absurd c_6 (by decide)
