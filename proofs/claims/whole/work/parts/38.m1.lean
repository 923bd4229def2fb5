/-! ===== the reference: contacts ===== -/
theorem vint {a b : Int32} (h : a = b) : some (Value.int a) = some (Value.int b) := by rw [h]
theorem vlong {a b : Int64} (h : a = b) : some (Value.long a) = some (Value.long b) := by rw [h]
def MN (σ : ha_St) : Prop := 0 ≤ gI σ 44 1 ∧ gI σ 44 1 ≤ 10
def inV (v lo hi : Int32) : Int32 := if lo ≤ v ∧ v ≤ hi then 1 else 0
def plcV (x y : Int32) : Int32 := if plc x y then 1 else 0
def hgV (k : Int32) : Int32 := if k = 1 ∨ k = 3 then 1 else 0
def icV (σ : ha_St) (c : Int32) : Int32 := if 0 ≤ c ∧ c < gI σ 44 1 then 1 else 0
def mPc (σ : ha_St) (c : Nat) : Int32 := if gI σ 45 c = 1 then 2 else if gI σ 45 c = 3 then 3 else 1
def aloV (d : Int32) : Int32 := if d = 0 ∨ d = 1 ∨ d = 7 then 1 else if 2 < d ∧ d < 6 then -1 else 0
def upV (d : Int32) : Int32 := if 0 < d ∧ d < 4 then 1 else if 4 < d then -1 else 0
def ptV (p q : Int64) (a b k : Int32) : Int64 := if k = 0 then p else if k = 1 then q else a.toInt64 * q - b.toInt64 * p
def dirV (σ : ha_St) (c : Nat) (k : Int32) : Int64 := ptV (aloV (gI σ 46 c)).toInt64 (upV (gI σ 46 c)).toInt64 (gI σ 47 c) (gI σ 48 c) k
def trV (k p : Int32) : Int32 := if k = 1 then 2 * p - 1 else if k = 3 then p - 1 else 0
def psV (σ : ha_St) (c : Nat) (p k : Int32) : Int64 := ptV (10 * (aloV (gI σ 46 c)).toInt64 + (trV (gI σ 45 c) p * gI σ 49 c).toInt64 * (upV (gI σ 46 c)).toInt64) (10 * (upV (gI σ 46 c)).toInt64 - (trV (gI σ 45 c) p * gI σ 49 c).toInt64 * (aloV (gI σ 46 c)).toInt64) (gI σ 47 c) (gI σ 48 c) k
set_option maxRecDepth 100000 in
set_option maxHeartbeats 4000000 in
theorem m_X11_thrown {G : ha_G} {l : Launch} {σ : ha_St} (hY : LY σ) : hM G l yX11_thrown cX11_thrown 1 (some .int) { frames := 0, cells := 0, slots := 0, locals := 0 } [.ref (ad G 44)] σ (fun v σ' => v = some (.int (gI σ 44 0)) ∧ σ' = σ) := by
  refine hM_ofF [(0, .ref (ad G 44))] (by decide +kernel) (Nat.le_of_ble_eq_true rfl) rfl ?_
  intro p e s m args below meth c0 C hin
  refine h_aload_n C 0 dX11_thrown_0 rfl rfl ?_
  refine gfX11_7 C (ty_44 hY) dX11_thrown_1 ?_
  refine h_iret C rfl (Nat.zero_le _) (Nat.zero_le _) dX11_thrown_4 ?_
  exact ⟨rfl, rfl⟩
set_option maxRecDepth 100000 in
set_option maxHeartbeats 4000000 in
theorem m_X11_in {G : ha_G} {l : Launch} {σ : ha_St} {x y z : Int32} : hM G l yX11_in cX11_in 4 (some .boolean) { frames := 0, cells := 0, slots := 0, locals := 0 } [.ref (ad G 44), .int x, .int y, .int z] σ (fun v σ' => v = some (.int (inV x y z)) ∧ σ' = σ) := by
  refine hM_ofF [(0, .ref (ad G 44)), (1, .int x), (2, .int y), (3, .int z)] (by decide +kernel) (Nat.le_of_ble_eq_true rfl) rfl ?_
  intro p e s m args below meth c0 C hin
  refine h_iload_n C 1 dX11_in_0 rfl rfl ?_
  refine h_iload_n C 2 dX11_in_1 rfl rfl ?_
  refine h_icmp_lt C 14 dX11_in_2 (by decide) (fun c_2 => ?_) (fun c_2 => ?_)
  · refine h_iconst C 0 dX11_in_14 (by decide) ?_
    refine h_zret C rfl (by decide) (Nat.zero_le _) (Nat.zero_le _) dX11_in_15 ?_
    refine ⟨vint ?_, rfl⟩
    clear C
    unfold inV
    grind
  · refine h_iload_n C 1 dX11_in_5 rfl rfl ?_
    refine h_iload_n C 3 dX11_in_6 rfl rfl ?_
    refine h_icmp_gt C 14 dX11_in_7 (by decide) (fun c_7 => ?_) (fun c_7 => ?_)
    · refine h_iconst C 0 dX11_in_14 (by decide) ?_
      refine h_zret C rfl (by decide) (Nat.zero_le _) (Nat.zero_le _) dX11_in_15 ?_
      refine ⟨vint ?_, rfl⟩
      clear C
      unfold inV
      grind
    · refine h_iconst C 1 dX11_in_10 (by decide) ?_
      refine h_goto C 15 dX11_in_11 (by decide) ?_
      refine h_zret C rfl (by decide) (Nat.zero_le _) (Nat.zero_le _) dX11_in_15 ?_
      refine ⟨vint ?_, rfl⟩
      clear C
      unfold inV
      grind
set_option maxRecDepth 100000 in
set_option maxHeartbeats 4000000 in
theorem m_X11_abs {G : ha_G} {l : Launch} {σ : ha_St} {x : Int64} : hM G l yX11_abs cX11_abs 3 (some .long) { frames := 0, cells := 0, slots := 0, locals := 0 } [.ref (ad G 44), .long x] σ (fun v σ' => v = some (.long (lAbs x)) ∧ σ' = σ) := by
  refine hM_ofF [(0, .ref (ad G 44)), (1, .long x)] (by decide +kernel) (Nat.le_of_ble_eq_true rfl) rfl ?_
  intro p e s m args below meth c0 C hin
  refine h_lload_n C 1 dX11_abs_0 rfl rfl ?_
  refine h_lconst C 0 dX11_abs_1 rfl ?_
  refine h_lcmp C dX11_abs_2 ?_
  refine h_if_ge C 11 dX11_abs_3 (by decide) (fun c_3 => ?_) (fun c_3 => ?_)
  · refine h_lload_n C 1 dX11_abs_11 rfl rfl ?_
    refine h_lret C rfl (Nat.zero_le _) (Nat.zero_le _) dX11_abs_12 ?_
    refine ⟨vlong ?_, rfl⟩
    unfold lAbs
    rw [if_neg (fun q => absurd ((lg_lt0 x).mpr q) (Int32.not_lt.mpr c_3))]
  · refine h_lload_n C 1 dX11_abs_6 rfl rfl ?_
    refine h_lneg C dX11_abs_7 ?_
    refine h_goto C 12 dX11_abs_8 (by decide) ?_
    refine h_lret C rfl (Nat.zero_le _) (Nat.zero_le _) dX11_abs_12 ?_
    refine ⟨vlong ?_, rfl⟩
    unfold lAbs
    rw [if_pos ((lg_lt0 x).mp (Int32.not_le.mp c_3))]
set_option maxRecDepth 100000 in
set_option maxHeartbeats 4000000 in
theorem m_X11_isContact {G : ha_G} {l : Launch} {σ : ha_St} {c : Int32} (hY : LY σ) (hN : MN σ) : hM G l yX11_isContact cX11_isContact 2 (some .boolean) { frames := 1, cells := 0, slots := 0, locals := 23 } [.ref (ad G 44), .int c] σ (fun v σ' => v = some (.int (icV σ c)) ∧ σ' = σ) := by
  refine hM_ofF [(0, .ref (ad G 44)), (1, .int c)] (by decide +kernel) (Nat.le_of_ble_eq_true rfl) rfl ?_
  intro p e s m args below meth c0 C hin
  refine h_aload_n C 0 dX11_isContact_0 rfl rfl ?_
  refine h_iload_n C 1 dX11_isContact_1 rfl rfl ?_
  refine h_iconst C 0 dX11_isContact_2 (by decide) ?_
  refine h_aload_n C 0 dX11_isContact_3 rfl rfl ?_
  refine gfX11_13 C (ty_44 hY) dX11_isContact_4 ?_
  refine h_iconst C 1 dX11_isContact_7 (by decide) ?_
  refine h_isub C dX11_isContact_8 ?_
  refine h_callV C m_X11_in caX11_130 kX11 (ty_44 hY) ⟨by decide, by decide, by decide, by decide⟩ rfl rfl (Nat.le_of_ble_eq_true rfl) dX11_isContact_9 ?_
  rintro v σ' ⟨rfl, h2⟩; rw [h2]; clear h2
  show hW _ _ _ _ _ _ _ _ _ _ _ _ _ 12 [(0, .ref (ad G 44)), (1, .int c)] [.int (inV c 0 ((gI σ 44 1) - 1))] σ 0 0
  refine h_zret C rfl (by unfold inV; split; exact Or.inr rfl; exact Or.inl rfl) (Nat.zero_le _) (Nat.zero_le _) dX11_isContact_12 ?_
  obtain ⟨h0, h1⟩ := hN
  refine ⟨vint ?_, rfl⟩
  clear C
  unfold icV inV
  grind
set_option maxRecDepth 100000 in
set_option maxHeartbeats 4000000 in
theorem m_X11_isPlace {G : ha_G} {l : Launch} {σ : ha_St} {x y : Int32} (hY : LY σ) : hM G l yX11_isPlace cX11_isPlace 3 (some .boolean) { frames := 1, cells := 0, slots := 0, locals := 23 } [.ref (ad G 44), .int x, .int y] σ (fun v σ' => v = some (.int (plcV x y)) ∧ σ' = σ) := by
  refine hM_ofF [(0, .ref (ad G 44)), (1, .int x), (2, .int y)] (by decide +kernel) (Nat.le_of_ble_eq_true rfl) rfl ?_
  intro p e s m args below meth c0 C hin
  refine h_aload_n C 0 dX11_isPlace_0 rfl rfl ?_
  refine h_iload_n C 1 dX11_isPlace_1 rfl rfl ?_
  refine h_bipush C (-100) dX11_isPlace_2 (by decide) ?_
  refine h_bipush C 100 dX11_isPlace_4 (by decide) ?_
  refine h_callV C m_X11_in caX11_130 kX11 (ty_44 hY) ⟨by decide, by decide, by decide, by decide⟩ rfl rfl (Nat.le_of_ble_eq_true rfl) dX11_isPlace_6 ?_
  rintro v σ' ⟨rfl, h2⟩; rw [h2]; clear h2
  show hW _ _ _ _ _ _ _ _ _ _ _ _ _ 9 [(0, .ref (ad G 44)), (1, .int x), (2, .int y)] [.int (inV x (-100) 100)] σ 0 0
  refine h_if_eq C 28 dX11_isPlace_9 (by decide) (fun c_9 => ?_) (fun c_9 => ?_)
  · refine h_iconst C 0 dX11_isPlace_28 (by decide) ?_
    refine h_zret C rfl (by decide) (Nat.zero_le _) (Nat.zero_le _) dX11_isPlace_29 ?_
    refine ⟨vint ?_, rfl⟩
    clear C
    unfold inV at *
    unfold plcV plc
    grind
  · refine h_aload_n C 0 dX11_isPlace_12 rfl rfl ?_
    refine h_iload_n C 2 dX11_isPlace_13 rfl rfl ?_
    refine h_bipush C (-100) dX11_isPlace_14 (by decide) ?_
    refine h_bipush C 100 dX11_isPlace_16 (by decide) ?_
    refine h_callV C m_X11_in caX11_130 kX11 (ty_44 hY) ⟨by decide, by decide, by decide, by decide⟩ rfl rfl (Nat.le_of_ble_eq_true rfl) dX11_isPlace_18 ?_
    rintro v σ' ⟨rfl, h2⟩; rw [h2]; clear h2
    show hW _ _ _ _ _ _ _ _ _ _ _ _ _ 21 [(0, .ref (ad G 44)), (1, .int x), (2, .int y)] [.int (inV y (-100) 100)] σ 0 0
    refine h_if_eq C 28 dX11_isPlace_21 (by decide) (fun c_21 => ?_) (fun c_21 => ?_)
    · refine h_iconst C 0 dX11_isPlace_28 (by decide) ?_
      refine h_zret C rfl (by decide) (Nat.zero_le _) (Nat.zero_le _) dX11_isPlace_29 ?_
      refine ⟨vint ?_, rfl⟩
      clear C
      unfold inV at *
      unfold plcV plc
      grind
    · refine h_iconst C 1 dX11_isPlace_24 (by decide) ?_
      refine h_goto C 29 dX11_isPlace_25 (by decide) ?_
      refine h_zret C rfl (by decide) (Nat.zero_le _) (Nat.zero_le _) dX11_isPlace_29 ?_
      refine ⟨vint ?_, rfl⟩
      clear C
      unfold inV at *
      unfold plcV plc
      grind
set_option maxRecDepth 100000 in
set_option maxHeartbeats 4000000 in
theorem m_X11_hasGrip {G : ha_G} {l : Launch} {σ : ha_St} {x : Int32} : hM G l yX11_hasGrip cX11_hasGrip 2 (some .boolean) { frames := 0, cells := 0, slots := 0, locals := 0 } [.ref (ad G 44), .int x] σ (fun v σ' => v = some (.int (hgV x)) ∧ σ' = σ) := by
  refine hM_ofF [(0, .ref (ad G 44)), (1, .int x)] (by decide +kernel) (Nat.le_of_ble_eq_true rfl) rfl ?_
  intro p e s m args below meth c0 C hin
  refine h_iload_n C 1 dX11_hasGrip_0 rfl rfl ?_
  refine h_iconst C 1 dX11_hasGrip_1 (by decide) ?_
  refine h_icmp_eq C 10 dX11_hasGrip_2 (by decide) (fun c_2 => ?_) (fun c_2 => ?_)
  · refine h_iconst C 1 dX11_hasGrip_10 (by decide) ?_
    refine h_goto C 15 dX11_hasGrip_11 (by decide) ?_
    refine h_zret C rfl (by decide) (Nat.zero_le _) (Nat.zero_le _) dX11_hasGrip_15 ?_
    refine ⟨vint ?_, rfl⟩
    clear C
    unfold hgV
    grind
  · refine h_iload_n C 1 dX11_hasGrip_5 rfl rfl ?_
    refine h_iconst C 3 dX11_hasGrip_6 (by decide) ?_
    refine h_icmp_ne C 14 dX11_hasGrip_7 (by decide) (fun c_7 => ?_) (fun c_7 => ?_)
    · refine h_iconst C 0 dX11_hasGrip_14 (by decide) ?_
      refine h_zret C rfl (by decide) (Nat.zero_le _) (Nat.zero_le _) dX11_hasGrip_15 ?_
      refine ⟨vint ?_, rfl⟩
      clear C
      unfold hgV
      grind
    · refine h_iconst C 1 dX11_hasGrip_10 (by decide) ?_
      refine h_goto C 15 dX11_hasGrip_11 (by decide) ?_
      refine h_zret C rfl (by decide) (Nat.zero_le _) (Nat.zero_le _) dX11_hasGrip_15 ?_
      refine ⟨vint ?_, rfl⟩
      clear C
      unfold hgV
      grind
set_option maxRecDepth 100000 in
set_option maxHeartbeats 4000000 in
theorem m_X11_pushesOf {G : ha_G} {l : Launch} {σ : ha_St} {c : Int32} (hY : LY σ) (hc : vp_in c 10) : hM G l yX11_pushesOf cX11_pushesOf 2 (some .int) { frames := 0, cells := 0, slots := 0, locals := 0 } [.ref (ad G 44), .int c] σ (fun v σ' => v = some (.int (mPc σ c.toNatClampNeg)) ∧ σ' = σ) := by
  refine hM_ofF [(0, .ref (ad G 44)), (1, .int c)] (by decide +kernel) (Nat.le_of_ble_eq_true rfl) rfl ?_
  intro p e s m args below meth c0 C hin
  refine h_aload_n C 0 dX11_pushesOf_0 rfl rfl ?_
  refine gfX11_16 C (ty_44 hY) dX11_pushesOf_1 ?_
  refine h_tref (b := 45) (rf_44_2 hY) ?_
  refine h_iload_n C 1 dX11_pushesOf_4 rfl rfl ?_
  refine h_iald C (ty_45 hY) hc dX11_pushesOf_5 ?_
  refine h_iconst C 1 dX11_pushesOf_6 (by decide) ?_
  refine h_icmp_ne C 14 dX11_pushesOf_7 (by decide) (fun c_7 => ?_) (fun c_7 => ?_)
  · refine h_aload_n C 0 dX11_pushesOf_14 rfl rfl ?_
    refine gfX11_16 C (ty_44 hY) dX11_pushesOf_15 ?_
    refine h_tref (b := 45) (rf_44_2 hY) ?_
    refine h_iload_n C 1 dX11_pushesOf_18 rfl rfl ?_
    refine h_iald C (ty_45 hY) hc dX11_pushesOf_19 ?_
    refine h_iconst C 3 dX11_pushesOf_20 (by decide) ?_
    refine h_icmp_ne C 28 dX11_pushesOf_21 (by decide) (fun c_21 => ?_) (fun c_21 => ?_)
    · refine h_iconst C 1 dX11_pushesOf_28 (by decide) ?_
      refine h_iret C rfl (Nat.zero_le _) (Nat.zero_le _) dX11_pushesOf_29 ?_
      refine ⟨vint ?_, rfl⟩
      clear C
      unfold mPc
      grind
    · refine h_iconst C 3 dX11_pushesOf_24 (by decide) ?_
      refine h_goto C 29 dX11_pushesOf_25 (by decide) ?_
      refine h_iret C rfl (Nat.zero_le _) (Nat.zero_le _) dX11_pushesOf_29 ?_
      refine ⟨vint ?_, rfl⟩
      clear C
      unfold mPc
      grind
  · refine h_iconst C 2 dX11_pushesOf_10 (by decide) ?_
    refine h_goto C 29 dX11_pushesOf_11 (by decide) ?_
    refine h_iret C rfl (Nat.zero_le _) (Nat.zero_le _) dX11_pushesOf_29 ?_
    refine ⟨vint ?_, rfl⟩
    clear C
    unfold mPc
    grind
set_option maxRecDepth 100000 in
set_option maxHeartbeats 4000000 in
theorem m_X11_along {G : ha_G} {l : Launch} {σ : ha_St} {x : Int32} : hM G l yX11_along cX11_along 2 (some .int) { frames := 0, cells := 0, slots := 0, locals := 0 } [.ref (ad G 44), .int x] σ (fun v σ' => v = some (.int (aloV x)) ∧ σ' = σ) := by
  refine hM_ofF [(0, .ref (ad G 44)), (1, .int x)] (by decide +kernel) (Nat.le_of_ble_eq_true rfl) rfl ?_
  intro p e s m args below meth c0 C hin
  refine h_iload_n C 1 dX11_along_0 rfl rfl ?_
  refine h_if_eq C 15 dX11_along_1 (by decide) (fun c_1 => ?_) (fun c_1 => ?_)
  · refine h_iconst C 1 dX11_along_15 (by decide) ?_
    refine h_goto C 35 dX11_along_16 (by decide) ?_
    refine h_iret C rfl (Nat.zero_le _) (Nat.zero_le _) dX11_along_35 ?_
    refine ⟨vint ?_, rfl⟩
    clear C
    unfold aloV
    grind
  · refine h_iload_n C 1 dX11_along_4 rfl rfl ?_
    refine h_iconst C 1 dX11_along_5 (by decide) ?_
    refine h_icmp_eq C 15 dX11_along_6 (by decide) (fun c_6 => ?_) (fun c_6 => ?_)
    · refine h_iconst C 1 dX11_along_15 (by decide) ?_
      refine h_goto C 35 dX11_along_16 (by decide) ?_
      refine h_iret C rfl (Nat.zero_le _) (Nat.zero_le _) dX11_along_35 ?_
      refine ⟨vint ?_, rfl⟩
      clear C
      unfold aloV
      grind
    · refine h_iload_n C 1 dX11_along_9 rfl rfl ?_
      refine h_bipush C 7 dX11_along_10 (by decide) ?_
      refine h_icmp_ne C 19 dX11_along_12 (by decide) (fun c_12 => ?_) (fun c_12 => ?_)
      · refine h_iload_n C 1 dX11_along_19 rfl rfl ?_
        refine h_iconst C 2 dX11_along_20 (by decide) ?_
        refine h_icmp_le C 34 dX11_along_21 (by decide) (fun c_21 => ?_) (fun c_21 => ?_)
        · refine h_iconst C 0 dX11_along_34 (by decide) ?_
          refine h_iret C rfl (Nat.zero_le _) (Nat.zero_le _) dX11_along_35 ?_
          refine ⟨vint ?_, rfl⟩
          clear C
          unfold aloV
          grind
        · refine h_iload_n C 1 dX11_along_24 rfl rfl ?_
          refine h_bipush C 6 dX11_along_25 (by decide) ?_
          refine h_icmp_ge C 34 dX11_along_27 (by decide) (fun c_27 => ?_) (fun c_27 => ?_)
          · refine h_iconst C 0 dX11_along_34 (by decide) ?_
            refine h_iret C rfl (Nat.zero_le _) (Nat.zero_le _) dX11_along_35 ?_
            refine ⟨vint ?_, rfl⟩
            clear C
            unfold aloV
            grind
          · refine h_iconst C (-1) dX11_along_30 (by decide) ?_
            refine h_goto C 35 dX11_along_31 (by decide) ?_
            refine h_iret C rfl (Nat.zero_le _) (Nat.zero_le _) dX11_along_35 ?_
            refine ⟨vint ?_, rfl⟩
            clear C
            unfold aloV
            grind
      · refine h_iconst C 1 dX11_along_15 (by decide) ?_
        refine h_goto C 35 dX11_along_16 (by decide) ?_
        refine h_iret C rfl (Nat.zero_le _) (Nat.zero_le _) dX11_along_35 ?_
        refine ⟨vint ?_, rfl⟩
        clear C
        unfold aloV
        grind
set_option maxRecDepth 100000 in
set_option maxHeartbeats 4000000 in
theorem m_X11_up {G : ha_G} {l : Launch} {σ : ha_St} {x : Int32} : hM G l yX11_up cX11_up 2 (some .int) { frames := 0, cells := 0, slots := 0, locals := 0 } [.ref (ad G 44), .int x] σ (fun v σ' => v = some (.int (upV x)) ∧ σ' = σ) := by
  refine hM_ofF [(0, .ref (ad G 44)), (1, .int x)] (by decide +kernel) (Nat.le_of_ble_eq_true rfl) rfl ?_
  intro p e s m args below meth c0 C hin
  refine h_iload_n C 1 dX11_up_0 rfl rfl ?_
  refine h_if_le C 13 dX11_up_1 (by decide) (fun c_1 => ?_) (fun c_1 => ?_)
  · refine h_iload_n C 1 dX11_up_13 rfl rfl ?_
    refine h_iconst C 4 dX11_up_14 (by decide) ?_
    refine h_icmp_le C 22 dX11_up_15 (by decide) (fun c_15 => ?_) (fun c_15 => ?_)
    · refine h_iconst C 0 dX11_up_22 (by decide) ?_
      refine h_iret C rfl (Nat.zero_le _) (Nat.zero_le _) dX11_up_23 ?_
      refine ⟨vint ?_, rfl⟩
      clear C
      unfold upV
      grind
    · refine h_iconst C (-1) dX11_up_18 (by decide) ?_
      refine h_goto C 23 dX11_up_19 (by decide) ?_
      refine h_iret C rfl (Nat.zero_le _) (Nat.zero_le _) dX11_up_23 ?_
      refine ⟨vint ?_, rfl⟩
      clear C
      unfold upV
      grind
  · refine h_iload_n C 1 dX11_up_4 rfl rfl ?_
    refine h_iconst C 4 dX11_up_5 (by decide) ?_
    refine h_icmp_ge C 13 dX11_up_6 (by decide) (fun c_6 => ?_) (fun c_6 => ?_)
    · refine h_iload_n C 1 dX11_up_13 rfl rfl ?_
      refine h_iconst C 4 dX11_up_14 (by decide) ?_
      refine h_icmp_le C 22 dX11_up_15 (by decide) (fun c_15 => ?_) (fun c_15 => ?_)
      · refine h_iconst C 0 dX11_up_22 (by decide) ?_
        refine h_iret C rfl (Nat.zero_le _) (Nat.zero_le _) dX11_up_23 ?_
        refine ⟨vint ?_, rfl⟩
        clear C
        unfold upV
        grind
      · refine h_iconst C (-1) dX11_up_18 (by decide) ?_
        refine h_goto C 23 dX11_up_19 (by decide) ?_
        refine h_iret C rfl (Nat.zero_le _) (Nat.zero_le _) dX11_up_23 ?_
        refine ⟨vint ?_, rfl⟩
        clear C
        unfold upV
        grind
    · refine h_iconst C 1 dX11_up_9 (by decide) ?_
      refine h_goto C 23 dX11_up_10 (by decide) ?_
      refine h_iret C rfl (Nat.zero_le _) (Nat.zero_le _) dX11_up_23 ?_
      refine ⟨vint ?_, rfl⟩
      clear C
      unfold upV
      grind
set_option maxRecDepth 100000 in
set_option maxHeartbeats 4000000 in
theorem m_X11_part {G : ha_G} {l : Launch} {σ : ha_St} {x y : Int64} {a b k : Int32} : hM G l yX11_part cX11_part 8 (some .long) { frames := 0, cells := 0, slots := 0, locals := 0 } [.ref (ad G 44), .long x, .long y, .int a, .int b, .int k] σ (fun v σ' => v = some (.long (ptV x y a b k)) ∧ σ' = σ) := by
  refine hM_ofF [(0, .ref (ad G 44)), (1, .long x), (3, .long y), (5, .int a), (6, .int b), (7, .int k)] (by decide +kernel) (Nat.le_of_ble_eq_true rfl) rfl ?_
  intro p e s m args below meth c0 C hin
  refine h_iload C 5 dX11_part_0 rfl ?_
  refine h_if_ne C 9 dX11_part_2 (by decide) (fun c_2 => ?_) (fun c_2 => ?_)
  · refine h_iload C 5 dX11_part_9 rfl ?_
    refine h_iconst C 1 dX11_part_11 (by decide) ?_
    refine h_icmp_ne C 19 dX11_part_12 (by decide) (fun c_12 => ?_) (fun c_12 => ?_)
    · refine h_iload C 3 dX11_part_19 rfl ?_
      refine h_i2l C dX11_part_21 ?_
      refine h_lload_n C 2 dX11_part_22 rfl rfl ?_
      refine h_lmul C dX11_part_23 ?_
      refine h_iload C 4 dX11_part_24 rfl ?_
      refine h_i2l C dX11_part_26 ?_
      refine h_lload_n C 1 dX11_part_27 rfl rfl ?_
      refine h_lmul C dX11_part_28 ?_
      refine h_lsub C dX11_part_29 ?_
      refine h_lret C rfl (Nat.zero_le _) (Nat.zero_le _) dX11_part_30 ?_
      refine ⟨vlong ?_, rfl⟩
      unfold ptV
      rw [if_neg c_2, if_neg c_12]
    · refine h_lload_n C 2 dX11_part_15 rfl rfl ?_
      refine h_goto C 30 dX11_part_16 (by decide) ?_
      refine h_lret C rfl (Nat.zero_le _) (Nat.zero_le _) dX11_part_30 ?_
      refine ⟨vlong ?_, rfl⟩
      unfold ptV
      rw [if_neg c_2, if_pos c_12]
  · refine h_lload_n C 1 dX11_part_5 rfl rfl ?_
    refine h_goto C 30 dX11_part_6 (by decide) ?_
    refine h_lret C rfl (Nat.zero_le _) (Nat.zero_le _) dX11_part_30 ?_
    refine ⟨vlong ?_, rfl⟩
    unfold ptV
    rw [if_pos c_2]
set_option maxRecDepth 100000 in
set_option maxHeartbeats 4000000 in
theorem m_X11_direct {G : ha_G} {l : Launch} {σ : ha_St} {c k : Int32} (hY : LY σ) (hc : vp_in c 10) : hM G l yX11_direct cX11_direct 3 (some .long) { frames := 1, cells := 0, slots := 0, locals := 27 } [.ref (ad G 44), .int c, .int k] σ (fun v σ' => v = some (.long (dirV σ c.toNatClampNeg k)) ∧ σ' = σ) := by
  refine hM_ofF [(0, .ref (ad G 44)), (1, .int c), (2, .int k)] (by decide +kernel) (Nat.le_of_ble_eq_true rfl) rfl ?_
  intro p e s m args below meth c0 C hin
  refine h_aload_n C 0 dX11_direct_0 rfl rfl ?_
  refine h_aload_n C 0 dX11_direct_1 rfl rfl ?_
  refine h_aload_n C 0 dX11_direct_2 rfl rfl ?_
  refine gfX11_20 C (ty_44 hY) dX11_direct_3 ?_
  refine h_tref (b := 46) (rf_44_3 hY) ?_
  refine h_iload_n C 1 dX11_direct_6 rfl rfl ?_
  refine h_iald C (ty_46 hY) hc dX11_direct_7 ?_
  refine h_callV C m_X11_along caX11_149 kX11 (ty_44 hY) ⟨by decide, by decide, by decide, by decide⟩ rfl rfl (Nat.le_of_ble_eq_true rfl) dX11_direct_8 ?_
  rintro v σ' ⟨rfl, h2⟩; rw [h2]; clear h2
  show hW _ _ _ _ _ _ _ _ _ _ _ _ _ 11 [(0, .ref (ad G 44)), (1, .int c), (2, .int k)] [.int (aloV (gI σ 46 c.toNatClampNeg)), .ref (ad G 44)] σ 0 0
  refine h_i2l C dX11_direct_11 ?_
  refine h_aload_n C 0 dX11_direct_12 rfl rfl ?_
  refine h_aload_n C 0 dX11_direct_13 rfl rfl ?_
  refine gfX11_20 C (ty_44 hY) dX11_direct_14 ?_
  refine h_tref (b := 46) (rf_44_3 hY) ?_
  refine h_iload_n C 1 dX11_direct_17 rfl rfl ?_
  refine h_iald C (ty_46 hY) hc dX11_direct_18 ?_
  refine h_callV C m_X11_up caX11_152 kX11 (ty_44 hY) ⟨by decide, by decide, by decide, by decide⟩ rfl rfl (Nat.le_of_ble_eq_true rfl) dX11_direct_19 ?_
  rintro v σ' ⟨rfl, h2⟩; rw [h2]; clear h2
  show hW _ _ _ _ _ _ _ _ _ _ _ _ _ 22 [(0, .ref (ad G 44)), (1, .int c), (2, .int k)] [.int (upV (gI σ 46 c.toNatClampNeg)), .long (aloV (gI σ 46 c.toNatClampNeg)).toInt64, .ref (ad G 44)] σ 0 0
  refine h_i2l C dX11_direct_22 ?_
  refine h_aload_n C 0 dX11_direct_23 rfl rfl ?_
  refine gfX11_23 C (ty_44 hY) dX11_direct_24 ?_
  refine h_tref (b := 47) (rf_44_4 hY) ?_
  refine h_iload_n C 1 dX11_direct_27 rfl rfl ?_
  refine h_iald C (ty_47 hY) hc dX11_direct_28 ?_
  refine h_aload_n C 0 dX11_direct_29 rfl rfl ?_
  refine gfX11_26 C (ty_44 hY) dX11_direct_30 ?_
  refine h_tref (b := 48) (rf_44_5 hY) ?_
  refine h_iload_n C 1 dX11_direct_33 rfl rfl ?_
  refine h_iald C (ty_48 hY) hc dX11_direct_34 ?_
  refine h_iload_n C 2 dX11_direct_35 rfl rfl ?_
  refine h_callV C m_X11_part caX11_155 kX11 (ty_44 hY) ⟨by decide, by decide, by decide, by decide⟩ rfl rfl (Nat.le_of_ble_eq_true rfl) dX11_direct_36 ?_
  rintro v σ' ⟨rfl, h2⟩; rw [h2]; clear h2
  show hW _ _ _ _ _ _ _ _ _ _ _ _ _ 39 [(0, .ref (ad G 44)), (1, .int c), (2, .int k)] [.long (ptV ((aloV (gI σ 46 c.toNatClampNeg)).toInt64) ((upV (gI σ 46 c.toNatClampNeg)).toInt64) (gI σ 47 c.toNatClampNeg) (gI σ 48 c.toNatClampNeg) k)] σ 0 0
  refine h_lret C rfl (Nat.zero_le _) (Nat.zero_le _) dX11_direct_39 ?_
  exact ⟨rfl, rfl⟩
set_option maxRecDepth 100000 in
set_option maxHeartbeats 4000000 in
theorem m_X11_pushed {G : ha_G} {l : Launch} {σ : ha_St} {c pu k : Int32} (hY : LY σ) (hc : vp_in c 10) : hM G l yX11_pushed cX11_pushed 9 (some .long) { frames := 1, cells := 0, slots := 0, locals := 27 } [.ref (ad G 44), .int c, .int pu, .int k] σ (fun v σ' => v = some (.long (psV σ c.toNatClampNeg pu k)) ∧ σ' = σ) := by
  refine hM_ofF [(0, .ref (ad G 44)), (1, .int c), (2, .int pu), (3, .int k)] (by decide +kernel) (Nat.le_of_ble_eq_true rfl) rfl ?_
  intro p e s m args below meth c0 C hin
  refine h_join (α := Int32) 35 (fun t => t = trV (gI σ 45 c.toNatClampNeg) pu) (fun t => [(0, .ref (ad G 44)), (1, .int c), (2, .int pu), (3, .int k)]) (fun t => [.int t]) (fun t => σ) (fun t => 0) (fun t => 0) ?_ (fun J_1 => ?_)
  · rintro t hJ
    show hW _ _ _ _ _ _ _ _ _ _ _ _ _ 35 [(0, .ref (ad G 44)), (1, .int c), (2, .int pu), (3, .int k)] [.int t] σ 0 0
    subst hJ
    refine h_istore C [(4, .int (trV (gI σ 45 c.toNatClampNeg) pu)), (0, .ref (ad G 44)), (1, .int c), (2, .int pu), (3, .int k)] dX11_pushed_35 (by decide) rfl ?_
    refine h_aload_n C 1 dX11_pushed_37 rfl rfl ?_
    refine h_aload_n C 1 dX11_pushed_38 rfl rfl ?_
    refine gfX11_20 C (ty_44 hY) dX11_pushed_39 ?_
    refine h_tref (b := 46) (rf_44_3 hY) ?_
    refine h_iload_n C 2 dX11_pushed_42 rfl rfl ?_
    refine h_iald C (ty_46 hY) hc dX11_pushed_43 ?_
    refine h_callV C m_X11_along caX11_149 kX11 (ty_44 hY) ⟨by decide, by decide, by decide, by decide⟩ rfl rfl (Nat.le_of_ble_eq_true rfl) dX11_pushed_44 ?_
    rintro v σ' ⟨rfl, h2⟩; rw [h2]; clear h2
    show hW _ _ _ _ _ _ _ _ _ _ _ _ _ 47 [(4, .int (trV (gI σ 45 c.toNatClampNeg) pu)), (0, .ref (ad G 44)), (1, .int c), (2, .int pu), (3, .int k)] [.int (aloV (gI σ 46 c.toNatClampNeg))] σ 0 0
    refine h_i2l C dX11_pushed_47 ?_
    refine h_lstore C [(5, .long (aloV (gI σ 46 c.toNatClampNeg)).toInt64), (4, .int (trV (gI σ 45 c.toNatClampNeg) pu)), (0, .ref (ad G 44)), (1, .int c), (2, .int pu), (3, .int k)] dX11_pushed_48 (by decide) rfl ?_
    refine h_aload_n C 2 dX11_pushed_50 rfl rfl ?_
    refine h_aload_n C 2 dX11_pushed_51 rfl rfl ?_
    refine gfX11_20 C (ty_44 hY) dX11_pushed_52 ?_
    refine h_tref (b := 46) (rf_44_3 hY) ?_
    refine h_iload_n C 3 dX11_pushed_55 rfl rfl ?_
    refine h_iald C (ty_46 hY) hc dX11_pushed_56 ?_
    refine h_callV C m_X11_up caX11_152 kX11 (ty_44 hY) ⟨by decide, by decide, by decide, by decide⟩ rfl rfl (Nat.le_of_ble_eq_true rfl) dX11_pushed_57 ?_
    rintro v σ' ⟨rfl, h2⟩; rw [h2]; clear h2
    show hW _ _ _ _ _ _ _ _ _ _ _ _ _ 60 [(5, .long (aloV (gI σ 46 c.toNatClampNeg)).toInt64), (4, .int (trV (gI σ 45 c.toNatClampNeg) pu)), (0, .ref (ad G 44)), (1, .int c), (2, .int pu), (3, .int k)] [.int (upV (gI σ 46 c.toNatClampNeg))] σ 0 0
    refine h_i2l C dX11_pushed_60 ?_
    refine h_lstore C [(7, .long (upV (gI σ 46 c.toNatClampNeg)).toInt64), (5, .long (aloV (gI σ 46 c.toNatClampNeg)).toInt64), (4, .int (trV (gI σ 45 c.toNatClampNeg) pu)), (0, .ref (ad G 44)), (1, .int c), (2, .int pu), (3, .int k)] dX11_pushed_61 (by decide) rfl ?_
    refine h_aload_n C 3 dX11_pushed_63 rfl rfl ?_
    refine h_ldc2 C 10 dX11_pushed_64 cl_X11_159 ?_
    refine h_lload C 1 dX11_pushed_67 rfl ?_
    refine h_lmul C dX11_pushed_69 ?_
    refine h_iload C 2 dX11_pushed_70 rfl ?_
    refine h_aload_n C 3 dX11_pushed_72 rfl rfl ?_
    refine gfX11_29 C (ty_44 hY) dX11_pushed_73 ?_
    refine h_tref (b := 49) (rf_44_6 hY) ?_
    refine h_iload_n C 4 dX11_pushed_76 rfl rfl ?_
    refine h_iald C (ty_49 hY) hc dX11_pushed_77 ?_
    refine h_imul C dX11_pushed_78 ?_
    refine h_i2l C dX11_pushed_79 ?_
    refine h_lload C 0 dX11_pushed_80 rfl ?_
    refine h_lmul C dX11_pushed_82 ?_
    refine h_ladd C dX11_pushed_83 ?_
    refine h_ldc2 C 10 dX11_pushed_84 cl_X11_159 ?_
    refine h_lload C 0 dX11_pushed_87 rfl ?_
    refine h_lmul C dX11_pushed_89 ?_
    refine h_iload C 2 dX11_pushed_90 rfl ?_
    refine h_aload_n C 3 dX11_pushed_92 rfl rfl ?_
    refine gfX11_29 C (ty_44 hY) dX11_pushed_93 ?_
    refine h_tref (b := 49) (rf_44_6 hY) ?_
    refine h_iload_n C 4 dX11_pushed_96 rfl rfl ?_
    refine h_iald C (ty_49 hY) hc dX11_pushed_97 ?_
    refine h_imul C dX11_pushed_98 ?_
    refine h_i2l C dX11_pushed_99 ?_
    refine h_lload C 1 dX11_pushed_100 rfl ?_
    refine h_lmul C dX11_pushed_102 ?_
    refine h_lsub C dX11_pushed_103 ?_
    refine h_aload_n C 3 dX11_pushed_104 rfl rfl ?_
    refine gfX11_23 C (ty_44 hY) dX11_pushed_105 ?_
    refine h_tref (b := 47) (rf_44_4 hY) ?_
    refine h_iload_n C 4 dX11_pushed_108 rfl rfl ?_
    refine h_iald C (ty_47 hY) hc dX11_pushed_109 ?_
    refine h_aload_n C 3 dX11_pushed_110 rfl rfl ?_
    refine gfX11_26 C (ty_44 hY) dX11_pushed_111 ?_
    refine h_tref (b := 48) (rf_44_5 hY) ?_
    refine h_iload_n C 4 dX11_pushed_114 rfl rfl ?_
    refine h_iald C (ty_48 hY) hc dX11_pushed_115 ?_
    refine h_iload_n C 6 dX11_pushed_116 rfl rfl ?_
    refine h_callV C m_X11_part caX11_155 kX11 (ty_44 hY) ⟨by decide, by decide, by decide, by decide⟩ rfl rfl (Nat.le_of_ble_eq_true rfl) dX11_pushed_117 ?_
    rintro v σ' ⟨rfl, h2⟩; rw [h2]; clear h2
    show hW _ _ _ _ _ _ _ _ _ _ _ _ _ 120 [(7, .long (upV (gI σ 46 c.toNatClampNeg)).toInt64), (5, .long (aloV (gI σ 46 c.toNatClampNeg)).toInt64), (4, .int (trV (gI σ 45 c.toNatClampNeg) pu)), (0, .ref (ad G 44)), (1, .int c), (2, .int pu), (3, .int k)] [.long (ptV ((10 * (aloV (gI σ 46 c.toNatClampNeg)).toInt64) + (((trV (gI σ 45 c.toNatClampNeg) pu) * (gI σ 49 c.toNatClampNeg)).toInt64 * (upV (gI σ 46 c.toNatClampNeg)).toInt64)) ((10 * (upV (gI σ 46 c.toNatClampNeg)).toInt64) - (((trV (gI σ 45 c.toNatClampNeg) pu) * (gI σ 49 c.toNatClampNeg)).toInt64 * (aloV (gI σ 46 c.toNatClampNeg)).toInt64)) (gI σ 47 c.toNatClampNeg) (gI σ 48 c.toNatClampNeg) k)] σ 0 0
    refine h_lret C rfl (Nat.zero_le _) (Nat.zero_le _) dX11_pushed_120 ?_
    exact ⟨rfl, rfl⟩
  · refine h_aload_n C 0 dX11_pushed_0 rfl rfl ?_
    refine gfX11_16 C (ty_44 hY) dX11_pushed_1 ?_
    refine h_tref (b := 45) (rf_44_2 hY) ?_
    refine h_iload_n C 1 dX11_pushed_4 rfl rfl ?_
    refine h_iald C (ty_45 hY) hc dX11_pushed_5 ?_
    refine h_iconst C 1 dX11_pushed_6 (by decide) ?_
    refine h_icmp_ne C 18 dX11_pushed_7 (by decide) (fun c_7 => ?_) (fun c_7 => ?_)
    · refine h_aload_n C 0 dX11_pushed_18 rfl rfl ?_
      refine gfX11_16 C (ty_44 hY) dX11_pushed_19 ?_
      refine h_tref (b := 45) (rf_44_2 hY) ?_
      refine h_iload_n C 1 dX11_pushed_22 rfl rfl ?_
      refine h_iald C (ty_45 hY) hc dX11_pushed_23 ?_
      refine h_iconst C 3 dX11_pushed_24 (by decide) ?_
      refine h_icmp_ne C 34 dX11_pushed_25 (by decide) (fun c_25 => ?_) (fun c_25 => ?_)
      · refine h_iconst C 0 dX11_pushed_34 (by decide) ?_
        refine J_1 0 ?_
        unfold trV
        rw [if_neg c_7, if_neg c_25]
      · refine h_iload_n C 2 dX11_pushed_28 rfl rfl ?_
        refine h_iconst C 1 dX11_pushed_29 (by decide) ?_
        refine h_isub C dX11_pushed_30 ?_
        refine h_goto C 35 dX11_pushed_31 (by decide) ?_
        refine J_1 (pu - 1) ?_
        unfold trV
        rw [if_neg c_7, if_pos c_25]
    · refine h_iconst C 2 dX11_pushed_10 (by decide) ?_
      refine h_iload_n C 2 dX11_pushed_11 rfl rfl ?_
      refine h_imul C dX11_pushed_12 ?_
      refine h_iconst C 1 dX11_pushed_13 (by decide) ?_
      refine h_isub C dX11_pushed_14 ?_
      refine h_goto C 35 dX11_pushed_15 (by decide) ?_
      refine J_1 ((2 * pu) - 1) ?_
      unfold trV
      rw [if_pos c_7]
def okM (told x y more : Int32) : Prop := 0 ≤ told ∧ told / 10 < 4 ∧ told - told / 10 * 10 < 8 ∧ plcV x y ≠ 0 ∧ 0 ≤ more ∧ more - more / 100 * 100 < 21 ∧ inV (more / 100) (hgV (told / 10)) 20 ≠ 0
def mCont (σ : ha_St) (told x y more : Int32) : ha_St := sI (sI (sI (sI (sI (sI (sI (sI σ 45 (gI σ 44 1).toNatClampNeg (told / 10)) 46 (gI σ 44 1).toNatClampNeg (told - told / 10 * 10)) 47 (gI σ 44 1).toNatClampNeg x) 48 (gI σ 44 1).toNatClampNeg y) 49 (gI σ 44 1).toNatClampNeg (if hgV (told / 10) = 0 then 0 else more / 100)) 50 (gI σ 44 1).toNatClampNeg (more - more / 100 * 100)) 51 (gI σ 44 1).toNatClampNeg 0) 44 1 (gI σ 44 1 + 1)
def mContQ (σ : ha_St) (told x y more r : Int32) (σ' : ha_St) : Prop := (¬ okM told x y more ∧ r = -1 ∧ σ' = σ) ∨ (okM told x y more ∧ gI σ 44 1 = 10 ∧ r = -2 ∧ σ' = σ) ∨ (okM told x y more ∧ gI σ 44 1 ≠ 10 ∧ r = gI σ 44 1 ∧ σ' = mCont σ told x y more)
set_option maxRecDepth 100000 in
set_option maxHeartbeats 4000000 in
theorem m_X11_contact {G : ha_G} {l : Launch} {σ : ha_St} {told x y more : Int32} (hY : LY σ) (hN : MN σ) : hM G l yX11_contact cX11_contact 7 (some .int) { frames := 2, cells := 0, slots := 0, locals := 45 } [.ref (ad G 44), .int told, .int x, .int y, .int more] σ (fun v σ' => ∃ r, v = some (.int r) ∧ mContQ σ told x y more r σ') := by
  refine hM_ofF [(0, .ref (ad G 44)), (1, .int told), (2, .int x), (3, .int y), (4, .int more)] (by decide +kernel) (Nat.le_of_ble_eq_true rfl) rfl ?_
  intro p e s m args below meth c0 C hin
  refine h_iload_n C 1 dX11_contact_0 rfl rfl ?_
  refine h_bipush C 10 dX11_contact_1 (by decide) ?_
  refine h_idiv C dX11_contact_3 (by decide) ?_
  refine h_istore C [(5, .int (told / 10)), (0, .ref (ad G 44)), (1, .int told), (2, .int x), (3, .int y), (4, .int more)] dX11_contact_4 (by decide) rfl ?_
  refine h_iload_n C 2 dX11_contact_6 rfl rfl ?_
  refine h_if_lt C 81 dX11_contact_7 (by decide) (fun c_7 => ?_) (fun c_7 => ?_)
  · refine h_iconst C 0 dX11_contact_81 (by decide) ?_
    refine h_istore C [(6, .int 0), (5, .int (told / 10)), (0, .ref (ad G 44)), (1, .int told), (2, .int x), (3, .int y), (4, .int more)] dX11_contact_82 (by decide) rfl ?_
    refine h_iload C 0 dX11_contact_84 rfl ?_
    refine h_if_ne C 91 dX11_contact_86 (by decide) (fun c_86 => ?_) (fun c_86 => ?_)
    · exact absurd c_86 (by decide)
    · refine h_iconst C (-1) dX11_contact_89 (by decide) ?_
      refine h_iret C rfl (Nat.zero_le _) (Nat.zero_le _) dX11_contact_90 ?_
      refine ⟨_, rfl, Or.inl ⟨fun q => ?_, rfl, rfl⟩⟩
      exact absurd c_7 (Int32.not_lt.mpr q.1)
  · refine h_iload C 0 dX11_contact_10 rfl ?_
    refine h_iconst C 4 dX11_contact_12 (by decide) ?_
    refine h_icmp_ge C 81 dX11_contact_13 (by decide) (fun c_13 => ?_) (fun c_13 => ?_)
    · refine h_iconst C 0 dX11_contact_81 (by decide) ?_
      refine h_istore C [(6, .int 0), (5, .int (told / 10)), (0, .ref (ad G 44)), (1, .int told), (2, .int x), (3, .int y), (4, .int more)] dX11_contact_82 (by decide) rfl ?_
      refine h_iload C 0 dX11_contact_84 rfl ?_
      refine h_if_ne C 91 dX11_contact_86 (by decide) (fun c_86 => ?_) (fun c_86 => ?_)
      · exact absurd c_86 (by decide)
      · refine h_iconst C (-1) dX11_contact_89 (by decide) ?_
        refine h_iret C rfl (Nat.zero_le _) (Nat.zero_le _) dX11_contact_90 ?_
        refine ⟨_, rfl, Or.inl ⟨fun q => ?_, rfl, rfl⟩⟩
        exact absurd q.2.1 (Int32.not_lt.mpr c_13)
    · refine h_iload_n C 2 dX11_contact_16 rfl rfl ?_
      refine h_bipush C 10 dX11_contact_17 (by decide) ?_
      refine h_irem C dX11_contact_19 (by decide) ?_
      refine h_bipush C 8 dX11_contact_20 (by decide) ?_
      refine h_icmp_ge C 81 dX11_contact_22 (by decide) (fun c_22 => ?_) (fun c_22 => ?_)
      · refine h_iconst C 0 dX11_contact_81 (by decide) ?_
        refine h_istore C [(6, .int 0), (5, .int (told / 10)), (0, .ref (ad G 44)), (1, .int told), (2, .int x), (3, .int y), (4, .int more)] dX11_contact_82 (by decide) rfl ?_
        refine h_iload C 0 dX11_contact_84 rfl ?_
        refine h_if_ne C 91 dX11_contact_86 (by decide) (fun c_86 => ?_) (fun c_86 => ?_)
        · exact absurd c_86 (by decide)
        · refine h_iconst C (-1) dX11_contact_89 (by decide) ?_
          refine h_iret C rfl (Nat.zero_le _) (Nat.zero_le _) dX11_contact_90 ?_
          refine ⟨_, rfl, Or.inl ⟨fun q => ?_, rfl, rfl⟩⟩
          exact absurd q.2.2.1 (Int32.not_lt.mpr c_22)
      · refine h_aload_n C 1 dX11_contact_25 rfl rfl ?_
        refine h_iload_n C 3 dX11_contact_26 rfl rfl ?_
        refine h_iload_n C 4 dX11_contact_27 rfl rfl ?_
        refine h_callV C (m_X11_isPlace hY) caX11_134 kX11 (ty_44 hY) ⟨by decide, by decide, by decide, by decide⟩ rfl rfl (Nat.le_of_ble_eq_true rfl) dX11_contact_28 ?_
        rintro v σ' ⟨rfl, h2⟩; rw [h2]; clear h2
        show hW _ _ _ _ _ _ _ _ _ _ _ _ _ 31 [(5, .int (told / 10)), (0, .ref (ad G 44)), (1, .int told), (2, .int x), (3, .int y), (4, .int more)] [.int (plcV x y)] σ 0 0
        refine h_if_eq C 81 dX11_contact_31 (by decide) (fun c_31 => ?_) (fun c_31 => ?_)
        · refine h_iconst C 0 dX11_contact_81 (by decide) ?_
          refine h_istore C [(6, .int 0), (5, .int (told / 10)), (0, .ref (ad G 44)), (1, .int told), (2, .int x), (3, .int y), (4, .int more)] dX11_contact_82 (by decide) rfl ?_
          refine h_iload C 0 dX11_contact_84 rfl ?_
          refine h_if_ne C 91 dX11_contact_86 (by decide) (fun c_86 => ?_) (fun c_86 => ?_)
          · exact absurd c_86 (by decide)
          · refine h_iconst C (-1) dX11_contact_89 (by decide) ?_
            refine h_iret C rfl (Nat.zero_le _) (Nat.zero_le _) dX11_contact_90 ?_
            refine ⟨_, rfl, Or.inl ⟨fun q => ?_, rfl, rfl⟩⟩
            exact q.2.2.2.1 c_31
        · refine h_iload C 5 dX11_contact_34 rfl ?_
          refine h_if_lt C 81 dX11_contact_36 (by decide) (fun c_36 => ?_) (fun c_36 => ?_)
          · refine h_iconst C 0 dX11_contact_81 (by decide) ?_
            refine h_istore C [(6, .int 0), (5, .int (told / 10)), (0, .ref (ad G 44)), (1, .int told), (2, .int x), (3, .int y), (4, .int more)] dX11_contact_82 (by decide) rfl ?_
            refine h_iload C 0 dX11_contact_84 rfl ?_
            refine h_if_ne C 91 dX11_contact_86 (by decide) (fun c_86 => ?_) (fun c_86 => ?_)
            · exact absurd c_86 (by decide)
            · refine h_iconst C (-1) dX11_contact_89 (by decide) ?_
              refine h_iret C rfl (Nat.zero_le _) (Nat.zero_le _) dX11_contact_90 ?_
              refine ⟨_, rfl, Or.inl ⟨fun q => ?_, rfl, rfl⟩⟩
              exact absurd c_36 (Int32.not_lt.mpr q.2.2.2.2.1)
          · refine h_iload C 5 dX11_contact_39 rfl ?_
            refine h_bipush C 100 dX11_contact_41 (by decide) ?_
            refine h_irem C dX11_contact_43 (by decide) ?_
            refine h_bipush C 21 dX11_contact_44 (by decide) ?_
            refine h_icmp_ge C 81 dX11_contact_46 (by decide) (fun c_46 => ?_) (fun c_46 => ?_)
            · refine h_iconst C 0 dX11_contact_81 (by decide) ?_
              refine h_istore C [(6, .int 0), (5, .int (told / 10)), (0, .ref (ad G 44)), (1, .int told), (2, .int x), (3, .int y), (4, .int more)] dX11_contact_82 (by decide) rfl ?_
              refine h_iload C 0 dX11_contact_84 rfl ?_
              refine h_if_ne C 91 dX11_contact_86 (by decide) (fun c_86 => ?_) (fun c_86 => ?_)
              · exact absurd c_86 (by decide)
              · refine h_iconst C (-1) dX11_contact_89 (by decide) ?_
                refine h_iret C rfl (Nat.zero_le _) (Nat.zero_le _) dX11_contact_90 ?_
                refine ⟨_, rfl, Or.inl ⟨fun q => ?_, rfl, rfl⟩⟩
                exact absurd q.2.2.2.2.2.1 (Int32.not_lt.mpr c_46)
            · refine h_aload_n C 1 dX11_contact_49 rfl rfl ?_
              refine h_iload C 5 dX11_contact_50 rfl ?_
              refine h_bipush C 100 dX11_contact_52 (by decide) ?_
              refine h_idiv C dX11_contact_54 (by decide) ?_
              refine h_aload_n C 1 dX11_contact_55 rfl rfl ?_
              refine h_iload C 0 dX11_contact_56 rfl ?_
              refine h_callV C m_X11_hasGrip caX11_138 kX11 (ty_44 hY) ⟨by decide, by decide, by decide, by decide⟩ rfl rfl (Nat.le_of_ble_eq_true rfl) dX11_contact_58 ?_
              rintro v σ' ⟨rfl, h2⟩; rw [h2]; clear h2
              show hW _ _ _ _ _ _ _ _ _ _ _ _ _ 61 [(5, .int (told / 10)), (0, .ref (ad G 44)), (1, .int told), (2, .int x), (3, .int y), (4, .int more)] [.int (hgV (told / 10)), .int (more / 100), .ref (ad G 44)] σ 0 0
              refine h_if_eq C 68 dX11_contact_61 (by decide) (fun c_61 => ?_) (fun c_61 => ?_)
              · refine h_iconst C 0 dX11_contact_68 (by decide) ?_
                refine h_bipush C 20 dX11_contact_69 (by decide) ?_
                refine h_callV C m_X11_in caX11_130 kX11 (ty_44 hY) ⟨by decide, by decide, by decide, by decide⟩ rfl rfl (Nat.le_of_ble_eq_true rfl) dX11_contact_71 ?_
                rintro v σ' ⟨rfl, h2⟩; rw [h2]; clear h2
                show hW _ _ _ _ _ _ _ _ _ _ _ _ _ 74 [(5, .int (told / 10)), (0, .ref (ad G 44)), (1, .int told), (2, .int x), (3, .int y), (4, .int more)] [.int (inV (more / 100) 0 20)] σ 0 0
                refine h_if_eq C 81 dX11_contact_74 (by decide) (fun c_74 => ?_) (fun c_74 => ?_)
                · refine h_iconst C 0 dX11_contact_81 (by decide) ?_
                  refine h_istore C [(6, .int 0), (5, .int (told / 10)), (0, .ref (ad G 44)), (1, .int told), (2, .int x), (3, .int y), (4, .int more)] dX11_contact_82 (by decide) rfl ?_
                  refine h_iload C 0 dX11_contact_84 rfl ?_
                  refine h_if_ne C 91 dX11_contact_86 (by decide) (fun c_86 => ?_) (fun c_86 => ?_)
                  · exact absurd c_86 (by decide)
                  · refine h_iconst C (-1) dX11_contact_89 (by decide) ?_
                    refine h_iret C rfl (Nat.zero_le _) (Nat.zero_le _) dX11_contact_90 ?_
                    have hgx : hgV (told / 10) = 0 := by
                      exact c_61
                    refine ⟨_, rfl, Or.inl ⟨fun q => ?_, rfl, rfl⟩⟩
                    exact q.2.2.2.2.2.2 (by rw [hgx]; exact c_74)
                · refine h_iconst C 1 dX11_contact_77 (by decide) ?_
                  refine h_goto C 82 dX11_contact_78 (by decide) ?_
                  refine h_istore C [(6, .int 1), (5, .int (told / 10)), (0, .ref (ad G 44)), (1, .int told), (2, .int x), (3, .int y), (4, .int more)] dX11_contact_82 (by decide) rfl ?_
                  refine h_iload C 0 dX11_contact_84 rfl ?_
                  refine h_if_ne C 91 dX11_contact_86 (by decide) (fun c_86 => ?_) (fun c_86 => ?_)
                  · refine h_aload_n C 2 dX11_contact_91 rfl rfl ?_
                    refine gfX11_13 C (ty_44 hY) dX11_contact_92 ?_
                    refine h_bipush C 10 dX11_contact_95 (by decide) ?_
                    refine h_icmp_ne C 103 dX11_contact_97 (by decide) (fun c_97 => ?_) (fun c_97 => ?_)
                    · have hcv : vp_in (gI σ 44 1) 10 := vp32 (N := 10) hN.1 (by have h1 := hN.2; have h2 := c_97; clear C; grind) (by decide)
                      refine h_aload_n C 2 dX11_contact_103 rfl rfl ?_
                      refine gfX11_16 C (ty_44 hY) dX11_contact_104 ?_
                      refine h_tref (b := 45) (rf_44_2 hY) ?_
                      refine h_aload_n C 2 dX11_contact_107 rfl rfl ?_
                      refine gfX11_13 C (ty_44 hY) dX11_contact_108 ?_
                      refine h_iload C 1 dX11_contact_111 rfl ?_
                      refine h_iast C _ (ty_45 hY) hcv dX11_contact_113 rfl ?_
                      refine h_aload_n C 2 dX11_contact_114 rfl rfl ?_
                      refine gfX11_20 C (ty_44 hY) dX11_contact_115 ?_
                      refine h_tref (b := 46) (rf_44_3 hY) ?_
                      refine h_aload_n C 2 dX11_contact_118 rfl rfl ?_
                      refine gfX11_13 C (ty_44 hY) dX11_contact_119 ?_
                      refine h_iload_n C 3 dX11_contact_122 rfl rfl ?_
                      refine h_bipush C 10 dX11_contact_123 (by decide) ?_
                      refine h_irem C dX11_contact_125 (by decide) ?_
                      refine h_iast C _ (ty_46 hY) hcv dX11_contact_126 rfl ?_
                      refine h_aload_n C 2 dX11_contact_127 rfl rfl ?_
                      refine gfX11_23 C (ty_44 hY) dX11_contact_128 ?_
                      refine h_tref (b := 47) (rf_44_4 hY) ?_
                      refine h_aload_n C 2 dX11_contact_131 rfl rfl ?_
                      refine gfX11_13 C (ty_44 hY) dX11_contact_132 ?_
                      refine h_iload_n C 4 dX11_contact_135 rfl rfl ?_
                      refine h_iast C _ (ty_47 hY) hcv dX11_contact_136 rfl ?_
                      refine h_aload_n C 2 dX11_contact_137 rfl rfl ?_
                      refine gfX11_26 C (ty_44 hY) dX11_contact_138 ?_
                      refine h_tref (b := 48) (rf_44_5 hY) ?_
                      refine h_aload_n C 2 dX11_contact_141 rfl rfl ?_
                      refine gfX11_13 C (ty_44 hY) dX11_contact_142 ?_
                      refine h_iload_n C 5 dX11_contact_145 rfl rfl ?_
                      refine h_iast C _ (ty_48 hY) hcv dX11_contact_146 rfl ?_
                      refine h_aload_n C 2 dX11_contact_147 rfl rfl ?_
                      refine gfX11_29 C (ty_44 hY) dX11_contact_148 ?_
                      refine h_tref (b := 49) (rf_44_6 hY) ?_
                      refine h_aload_n C 2 dX11_contact_151 rfl rfl ?_
                      refine gfX11_13 C (ty_44 hY) dX11_contact_152 ?_
                      refine h_aload_n C 2 dX11_contact_155 rfl rfl ?_
                      refine h_iload C 1 dX11_contact_156 rfl ?_
                      refine h_callV C m_X11_hasGrip caX11_138 kX11 (ty_44 hY) ⟨by decide, by decide, by decide, by decide⟩ rfl rfl (Nat.le_of_ble_eq_true rfl) dX11_contact_158 ?_
                      rintro v σ' ⟨rfl, h2⟩; rw [h2]; clear h2
                      show hW _ _ _ _ _ _ _ _ _ _ _ _ _ 161 [(6, .int 1), (5, .int (told / 10)), (0, .ref (ad G 44)), (1, .int told), (2, .int x), (3, .int y), (4, .int more)] [.int (hgV (told / 10)), .int (gI (sI (sI (sI (sI σ 45 (gI σ 44 1).toNatClampNeg (told / 10)) 46 (gI (sI σ 45 (gI σ 44 1).toNatClampNeg (told / 10)) 44 1).toNatClampNeg (told - told / 10 * 10)) 47 (gI (sI (sI σ 45 (gI σ 44 1).toNatClampNeg (told / 10)) 46 (gI (sI σ 45 (gI σ 44 1).toNatClampNeg (told / 10)) 44 1).toNatClampNeg (told - told / 10 * 10)) 44 1).toNatClampNeg x) 48 (gI (sI (sI (sI σ 45 (gI σ 44 1).toNatClampNeg (told / 10)) 46 (gI (sI σ 45 (gI σ 44 1).toNatClampNeg (told / 10)) 44 1).toNatClampNeg (told - told / 10 * 10)) 47 (gI (sI (sI σ 45 (gI σ 44 1).toNatClampNeg (told / 10)) 46 (gI (sI σ 45 (gI σ 44 1).toNatClampNeg (told / 10)) 44 1).toNatClampNeg (told - told / 10 * 10)) 44 1).toNatClampNeg x) 44 1).toNatClampNeg y) 44 1), .ref (ad G 49)] (sI (sI (sI (sI σ 45 (gI σ 44 1).toNatClampNeg (told / 10)) 46 (gI (sI σ 45 (gI σ 44 1).toNatClampNeg (told / 10)) 44 1).toNatClampNeg (told - told / 10 * 10)) 47 (gI (sI (sI σ 45 (gI σ 44 1).toNatClampNeg (told / 10)) 46 (gI (sI σ 45 (gI σ 44 1).toNatClampNeg (told / 10)) 44 1).toNatClampNeg (told - told / 10 * 10)) 44 1).toNatClampNeg x) 48 (gI (sI (sI (sI σ 45 (gI σ 44 1).toNatClampNeg (told / 10)) 46 (gI (sI σ 45 (gI σ 44 1).toNatClampNeg (told / 10)) 44 1).toNatClampNeg (told - told / 10 * 10)) 47 (gI (sI (sI σ 45 (gI σ 44 1).toNatClampNeg (told / 10)) 46 (gI (sI σ 45 (gI σ 44 1).toNatClampNeg (told / 10)) 44 1).toNatClampNeg (told - told / 10 * 10)) 44 1).toNatClampNeg x) 44 1).toNatClampNeg y) 0 0
                      refine h_if_eq C 172 dX11_contact_161 (by decide) (fun c_161 => ?_) (fun c_161 => ?_)
                      · refine h_iconst C 0 dX11_contact_172 (by decide) ?_
                        refine h_iast C _ (ty_49 hY) hcv dX11_contact_173 rfl ?_
                        refine h_aload_n C 2 dX11_contact_174 rfl rfl ?_
                        refine gfX11_32 C (ty_44 hY) dX11_contact_175 ?_
                        refine h_tref (b := 50) (rf_44_7 hY) ?_
                        refine h_aload_n C 2 dX11_contact_178 rfl rfl ?_
                        refine gfX11_13 C (ty_44 hY) dX11_contact_179 ?_
                        refine h_iload C 6 dX11_contact_182 rfl ?_
                        refine h_bipush C 100 dX11_contact_184 (by decide) ?_
                        refine h_irem C dX11_contact_186 (by decide) ?_
                        refine h_iast C _ (ty_50 hY) hcv dX11_contact_187 rfl ?_
                        refine h_aload_n C 2 dX11_contact_188 rfl rfl ?_
                        refine gfX11_35 C (ty_44 hY) dX11_contact_189 ?_
                        refine h_tref (b := 51) (rf_44_8 hY) ?_
                        refine h_aload_n C 2 dX11_contact_192 rfl rfl ?_
                        refine gfX11_13 C (ty_44 hY) dX11_contact_193 ?_
                        refine h_iconst C 0 dX11_contact_196 (by decide) ?_
                        refine h_iast C _ (ty_51 hY) hcv dX11_contact_197 rfl ?_
                        refine h_aload_n C 2 dX11_contact_198 rfl rfl ?_
                        refine h_dup C dX11_contact_199 rfl ?_
                        refine gfX11_13 C (ty_44 hY) dX11_contact_200 ?_
                        refine h_iconst C 1 dX11_contact_203 (by decide) ?_
                        refine h_iadd C dX11_contact_204 ?_
                        refine pfX11_13 C (ty_44 hY) dX11_contact_205 ?_
                        refine h_aload_n C 2 dX11_contact_208 rfl rfl ?_
                        refine gfX11_13 C (ty_44 hY) dX11_contact_209 ?_
                        refine h_iconst C 1 dX11_contact_212 (by decide) ?_
                        refine h_isub C dX11_contact_213 ?_
                        refine h_iret C rfl (Nat.zero_le _) (Nat.zero_le _) dX11_contact_214 ?_
                        have hgx : hgV (told / 10) = 0 := by
                          exact c_61
                        have hok : okM told x y more := ⟨Int32.not_lt.mp c_7, Int32.not_le.mp c_13, Int32.not_le.mp c_22, c_31, Int32.not_lt.mp c_36, Int32.not_le.mp c_46, by rw [hgx]; exact c_74⟩
                        refine ⟨_, rfl, Or.inr (Or.inr ⟨hok, c_97, ?_, ?_⟩)⟩
                        · show gI σ 44 1 + 1 - 1 = gI σ 44 1
                          clear C
                          grind
                        · unfold mCont
                          rw [if_pos c_161]
                          rfl
                      · refine h_iload C 6 dX11_contact_164 rfl ?_
                        refine h_bipush C 100 dX11_contact_166 (by decide) ?_
                        refine h_idiv C dX11_contact_168 (by decide) ?_
                        refine h_goto C 173 dX11_contact_169 (by decide) ?_
                        refine h_iast C _ (ty_49 hY) hcv dX11_contact_173 rfl ?_
                        refine h_aload_n C 2 dX11_contact_174 rfl rfl ?_
                        refine gfX11_32 C (ty_44 hY) dX11_contact_175 ?_
                        refine h_tref (b := 50) (rf_44_7 hY) ?_
                        refine h_aload_n C 2 dX11_contact_178 rfl rfl ?_
                        refine gfX11_13 C (ty_44 hY) dX11_contact_179 ?_
                        refine h_iload C 6 dX11_contact_182 rfl ?_
                        refine h_bipush C 100 dX11_contact_184 (by decide) ?_
                        refine h_irem C dX11_contact_186 (by decide) ?_
                        refine h_iast C _ (ty_50 hY) hcv dX11_contact_187 rfl ?_
                        refine h_aload_n C 2 dX11_contact_188 rfl rfl ?_
                        refine gfX11_35 C (ty_44 hY) dX11_contact_189 ?_
                        refine h_tref (b := 51) (rf_44_8 hY) ?_
                        refine h_aload_n C 2 dX11_contact_192 rfl rfl ?_
                        refine gfX11_13 C (ty_44 hY) dX11_contact_193 ?_
                        refine h_iconst C 0 dX11_contact_196 (by decide) ?_
                        refine h_iast C _ (ty_51 hY) hcv dX11_contact_197 rfl ?_
                        refine h_aload_n C 2 dX11_contact_198 rfl rfl ?_
                        refine h_dup C dX11_contact_199 rfl ?_
                        refine gfX11_13 C (ty_44 hY) dX11_contact_200 ?_
                        refine h_iconst C 1 dX11_contact_203 (by decide) ?_
                        refine h_iadd C dX11_contact_204 ?_
                        refine pfX11_13 C (ty_44 hY) dX11_contact_205 ?_
                        refine h_aload_n C 2 dX11_contact_208 rfl rfl ?_
                        refine gfX11_13 C (ty_44 hY) dX11_contact_209 ?_
                        refine h_iconst C 1 dX11_contact_212 (by decide) ?_
                        refine h_isub C dX11_contact_213 ?_
                        refine h_iret C rfl (Nat.zero_le _) (Nat.zero_le _) dX11_contact_214 ?_
                        exact absurd c_61 c_161
                    · refine h_bipush C (-2) dX11_contact_100 (by decide) ?_
                      refine h_iret C rfl (Nat.zero_le _) (Nat.zero_le _) dX11_contact_102 ?_
                      have hgx : hgV (told / 10) = 0 := by
                        exact c_61
                      have hok : okM told x y more := ⟨Int32.not_lt.mp c_7, Int32.not_le.mp c_13, Int32.not_le.mp c_22, c_31, Int32.not_lt.mp c_36, Int32.not_le.mp c_46, by rw [hgx]; exact c_74⟩
                      exact ⟨_, rfl, Or.inr (Or.inl ⟨hok, c_97, rfl, rfl⟩)⟩
                  · exact absurd c_86 (by decide)
              · refine h_iconst C 1 dX11_contact_64 (by decide) ?_
                refine h_goto C 69 dX11_contact_65 (by decide) ?_
                refine h_bipush C 20 dX11_contact_69 (by decide) ?_
                refine h_callV C m_X11_in caX11_130 kX11 (ty_44 hY) ⟨by decide, by decide, by decide, by decide⟩ rfl rfl (Nat.le_of_ble_eq_true rfl) dX11_contact_71 ?_
                rintro v σ' ⟨rfl, h2⟩; rw [h2]; clear h2
                show hW _ _ _ _ _ _ _ _ _ _ _ _ _ 74 [(5, .int (told / 10)), (0, .ref (ad G 44)), (1, .int told), (2, .int x), (3, .int y), (4, .int more)] [.int (inV (more / 100) 1 20)] σ 0 0
                refine h_if_eq C 81 dX11_contact_74 (by decide) (fun c_74 => ?_) (fun c_74 => ?_)
                · refine h_iconst C 0 dX11_contact_81 (by decide) ?_
                  refine h_istore C [(6, .int 0), (5, .int (told / 10)), (0, .ref (ad G 44)), (1, .int told), (2, .int x), (3, .int y), (4, .int more)] dX11_contact_82 (by decide) rfl ?_
                  refine h_iload C 0 dX11_contact_84 rfl ?_
                  refine h_if_ne C 91 dX11_contact_86 (by decide) (fun c_86 => ?_) (fun c_86 => ?_)
                  · exact absurd c_86 (by decide)
                  · refine h_iconst C (-1) dX11_contact_89 (by decide) ?_
                    refine h_iret C rfl (Nat.zero_le _) (Nat.zero_le _) dX11_contact_90 ?_
                    have hgx : hgV (told / 10) = 1 := by
                      have := c_61
                      unfold hgV at *
                      split at this
                      · rw [if_pos (by assumption)]
                      · exact absurd rfl this
                    refine ⟨_, rfl, Or.inl ⟨fun q => ?_, rfl, rfl⟩⟩
                    exact q.2.2.2.2.2.2 (by rw [hgx]; exact c_74)
                · refine h_iconst C 1 dX11_contact_77 (by decide) ?_
                  refine h_goto C 82 dX11_contact_78 (by decide) ?_
                  refine h_istore C [(6, .int 1), (5, .int (told / 10)), (0, .ref (ad G 44)), (1, .int told), (2, .int x), (3, .int y), (4, .int more)] dX11_contact_82 (by decide) rfl ?_
                  refine h_iload C 0 dX11_contact_84 rfl ?_
                  refine h_if_ne C 91 dX11_contact_86 (by decide) (fun c_86 => ?_) (fun c_86 => ?_)
                  · refine h_aload_n C 2 dX11_contact_91 rfl rfl ?_
                    refine gfX11_13 C (ty_44 hY) dX11_contact_92 ?_
                    refine h_bipush C 10 dX11_contact_95 (by decide) ?_
                    refine h_icmp_ne C 103 dX11_contact_97 (by decide) (fun c_97 => ?_) (fun c_97 => ?_)
                    · have hcv : vp_in (gI σ 44 1) 10 := vp32 (N := 10) hN.1 (by have h1 := hN.2; have h2 := c_97; clear C; grind) (by decide)
                      refine h_aload_n C 2 dX11_contact_103 rfl rfl ?_
                      refine gfX11_16 C (ty_44 hY) dX11_contact_104 ?_
                      refine h_tref (b := 45) (rf_44_2 hY) ?_
                      refine h_aload_n C 2 dX11_contact_107 rfl rfl ?_
                      refine gfX11_13 C (ty_44 hY) dX11_contact_108 ?_
                      refine h_iload C 1 dX11_contact_111 rfl ?_
                      refine h_iast C _ (ty_45 hY) hcv dX11_contact_113 rfl ?_
                      refine h_aload_n C 2 dX11_contact_114 rfl rfl ?_
                      refine gfX11_20 C (ty_44 hY) dX11_contact_115 ?_
                      refine h_tref (b := 46) (rf_44_3 hY) ?_
                      refine h_aload_n C 2 dX11_contact_118 rfl rfl ?_
                      refine gfX11_13 C (ty_44 hY) dX11_contact_119 ?_
                      refine h_iload_n C 3 dX11_contact_122 rfl rfl ?_
                      refine h_bipush C 10 dX11_contact_123 (by decide) ?_
                      refine h_irem C dX11_contact_125 (by decide) ?_
                      refine h_iast C _ (ty_46 hY) hcv dX11_contact_126 rfl ?_
                      refine h_aload_n C 2 dX11_contact_127 rfl rfl ?_
                      refine gfX11_23 C (ty_44 hY) dX11_contact_128 ?_
                      refine h_tref (b := 47) (rf_44_4 hY) ?_
                      refine h_aload_n C 2 dX11_contact_131 rfl rfl ?_
                      refine gfX11_13 C (ty_44 hY) dX11_contact_132 ?_
                      refine h_iload_n C 4 dX11_contact_135 rfl rfl ?_
                      refine h_iast C _ (ty_47 hY) hcv dX11_contact_136 rfl ?_
                      refine h_aload_n C 2 dX11_contact_137 rfl rfl ?_
                      refine gfX11_26 C (ty_44 hY) dX11_contact_138 ?_
                      refine h_tref (b := 48) (rf_44_5 hY) ?_
                      refine h_aload_n C 2 dX11_contact_141 rfl rfl ?_
                      refine gfX11_13 C (ty_44 hY) dX11_contact_142 ?_
                      refine h_iload_n C 5 dX11_contact_145 rfl rfl ?_
                      refine h_iast C _ (ty_48 hY) hcv dX11_contact_146 rfl ?_
                      refine h_aload_n C 2 dX11_contact_147 rfl rfl ?_
                      refine gfX11_29 C (ty_44 hY) dX11_contact_148 ?_
                      refine h_tref (b := 49) (rf_44_6 hY) ?_
                      refine h_aload_n C 2 dX11_contact_151 rfl rfl ?_
                      refine gfX11_13 C (ty_44 hY) dX11_contact_152 ?_
                      refine h_aload_n C 2 dX11_contact_155 rfl rfl ?_
                      refine h_iload C 1 dX11_contact_156 rfl ?_
                      refine h_callV C m_X11_hasGrip caX11_138 kX11 (ty_44 hY) ⟨by decide, by decide, by decide, by decide⟩ rfl rfl (Nat.le_of_ble_eq_true rfl) dX11_contact_158 ?_
                      rintro v σ' ⟨rfl, h2⟩; rw [h2]; clear h2
                      show hW _ _ _ _ _ _ _ _ _ _ _ _ _ 161 [(6, .int 1), (5, .int (told / 10)), (0, .ref (ad G 44)), (1, .int told), (2, .int x), (3, .int y), (4, .int more)] [.int (hgV (told / 10)), .int (gI (sI (sI (sI (sI σ 45 (gI σ 44 1).toNatClampNeg (told / 10)) 46 (gI (sI σ 45 (gI σ 44 1).toNatClampNeg (told / 10)) 44 1).toNatClampNeg (told - told / 10 * 10)) 47 (gI (sI (sI σ 45 (gI σ 44 1).toNatClampNeg (told / 10)) 46 (gI (sI σ 45 (gI σ 44 1).toNatClampNeg (told / 10)) 44 1).toNatClampNeg (told - told / 10 * 10)) 44 1).toNatClampNeg x) 48 (gI (sI (sI (sI σ 45 (gI σ 44 1).toNatClampNeg (told / 10)) 46 (gI (sI σ 45 (gI σ 44 1).toNatClampNeg (told / 10)) 44 1).toNatClampNeg (told - told / 10 * 10)) 47 (gI (sI (sI σ 45 (gI σ 44 1).toNatClampNeg (told / 10)) 46 (gI (sI σ 45 (gI σ 44 1).toNatClampNeg (told / 10)) 44 1).toNatClampNeg (told - told / 10 * 10)) 44 1).toNatClampNeg x) 44 1).toNatClampNeg y) 44 1), .ref (ad G 49)] (sI (sI (sI (sI σ 45 (gI σ 44 1).toNatClampNeg (told / 10)) 46 (gI (sI σ 45 (gI σ 44 1).toNatClampNeg (told / 10)) 44 1).toNatClampNeg (told - told / 10 * 10)) 47 (gI (sI (sI σ 45 (gI σ 44 1).toNatClampNeg (told / 10)) 46 (gI (sI σ 45 (gI σ 44 1).toNatClampNeg (told / 10)) 44 1).toNatClampNeg (told - told / 10 * 10)) 44 1).toNatClampNeg x) 48 (gI (sI (sI (sI σ 45 (gI σ 44 1).toNatClampNeg (told / 10)) 46 (gI (sI σ 45 (gI σ 44 1).toNatClampNeg (told / 10)) 44 1).toNatClampNeg (told - told / 10 * 10)) 47 (gI (sI (sI σ 45 (gI σ 44 1).toNatClampNeg (told / 10)) 46 (gI (sI σ 45 (gI σ 44 1).toNatClampNeg (told / 10)) 44 1).toNatClampNeg (told - told / 10 * 10)) 44 1).toNatClampNeg x) 44 1).toNatClampNeg y) 0 0
                      refine h_if_eq C 172 dX11_contact_161 (by decide) (fun c_161 => ?_) (fun c_161 => ?_)
                      · refine h_iconst C 0 dX11_contact_172 (by decide) ?_
                        refine h_iast C _ (ty_49 hY) hcv dX11_contact_173 rfl ?_
                        refine h_aload_n C 2 dX11_contact_174 rfl rfl ?_
                        refine gfX11_32 C (ty_44 hY) dX11_contact_175 ?_
                        refine h_tref (b := 50) (rf_44_7 hY) ?_
                        refine h_aload_n C 2 dX11_contact_178 rfl rfl ?_
                        refine gfX11_13 C (ty_44 hY) dX11_contact_179 ?_
                        refine h_iload C 6 dX11_contact_182 rfl ?_
                        refine h_bipush C 100 dX11_contact_184 (by decide) ?_
                        refine h_irem C dX11_contact_186 (by decide) ?_
                        refine h_iast C _ (ty_50 hY) hcv dX11_contact_187 rfl ?_
                        refine h_aload_n C 2 dX11_contact_188 rfl rfl ?_
                        refine gfX11_35 C (ty_44 hY) dX11_contact_189 ?_
                        refine h_tref (b := 51) (rf_44_8 hY) ?_
                        refine h_aload_n C 2 dX11_contact_192 rfl rfl ?_
                        refine gfX11_13 C (ty_44 hY) dX11_contact_193 ?_
                        refine h_iconst C 0 dX11_contact_196 (by decide) ?_
                        refine h_iast C _ (ty_51 hY) hcv dX11_contact_197 rfl ?_
                        refine h_aload_n C 2 dX11_contact_198 rfl rfl ?_
                        refine h_dup C dX11_contact_199 rfl ?_
                        refine gfX11_13 C (ty_44 hY) dX11_contact_200 ?_
                        refine h_iconst C 1 dX11_contact_203 (by decide) ?_
                        refine h_iadd C dX11_contact_204 ?_
                        refine pfX11_13 C (ty_44 hY) dX11_contact_205 ?_
                        refine h_aload_n C 2 dX11_contact_208 rfl rfl ?_
                        refine gfX11_13 C (ty_44 hY) dX11_contact_209 ?_
                        refine h_iconst C 1 dX11_contact_212 (by decide) ?_
                        refine h_isub C dX11_contact_213 ?_
                        refine h_iret C rfl (Nat.zero_le _) (Nat.zero_le _) dX11_contact_214 ?_
                        exact absurd c_161 c_61
                      · refine h_iload C 6 dX11_contact_164 rfl ?_
                        refine h_bipush C 100 dX11_contact_166 (by decide) ?_
                        refine h_idiv C dX11_contact_168 (by decide) ?_
                        refine h_goto C 173 dX11_contact_169 (by decide) ?_
                        refine h_iast C _ (ty_49 hY) hcv dX11_contact_173 rfl ?_
                        refine h_aload_n C 2 dX11_contact_174 rfl rfl ?_
                        refine gfX11_32 C (ty_44 hY) dX11_contact_175 ?_
                        refine h_tref (b := 50) (rf_44_7 hY) ?_
                        refine h_aload_n C 2 dX11_contact_178 rfl rfl ?_
                        refine gfX11_13 C (ty_44 hY) dX11_contact_179 ?_
                        refine h_iload C 6 dX11_contact_182 rfl ?_
                        refine h_bipush C 100 dX11_contact_184 (by decide) ?_
                        refine h_irem C dX11_contact_186 (by decide) ?_
                        refine h_iast C _ (ty_50 hY) hcv dX11_contact_187 rfl ?_
                        refine h_aload_n C 2 dX11_contact_188 rfl rfl ?_
                        refine gfX11_35 C (ty_44 hY) dX11_contact_189 ?_
                        refine h_tref (b := 51) (rf_44_8 hY) ?_
                        refine h_aload_n C 2 dX11_contact_192 rfl rfl ?_
                        refine gfX11_13 C (ty_44 hY) dX11_contact_193 ?_
                        refine h_iconst C 0 dX11_contact_196 (by decide) ?_
                        refine h_iast C _ (ty_51 hY) hcv dX11_contact_197 rfl ?_
                        refine h_aload_n C 2 dX11_contact_198 rfl rfl ?_
                        refine h_dup C dX11_contact_199 rfl ?_
                        refine gfX11_13 C (ty_44 hY) dX11_contact_200 ?_
                        refine h_iconst C 1 dX11_contact_203 (by decide) ?_
                        refine h_iadd C dX11_contact_204 ?_
                        refine pfX11_13 C (ty_44 hY) dX11_contact_205 ?_
                        refine h_aload_n C 2 dX11_contact_208 rfl rfl ?_
                        refine gfX11_13 C (ty_44 hY) dX11_contact_209 ?_
                        refine h_iconst C 1 dX11_contact_212 (by decide) ?_
                        refine h_isub C dX11_contact_213 ?_
                        refine h_iret C rfl (Nat.zero_le _) (Nat.zero_le _) dX11_contact_214 ?_
                        have hgx : hgV (told / 10) = 1 := by
                          have := c_61
                          unfold hgV at *
                          split at this
                          · rw [if_pos (by assumption)]
                          · exact absurd rfl this
                        have hok : okM told x y more := ⟨Int32.not_lt.mp c_7, Int32.not_le.mp c_13, Int32.not_le.mp c_22, c_31, Int32.not_lt.mp c_36, Int32.not_le.mp c_46, by rw [hgx]; exact c_74⟩
                        refine ⟨_, rfl, Or.inr (Or.inr ⟨hok, c_97, ?_, ?_⟩)⟩
                        · show gI σ 44 1 + 1 - 1 = gI σ 44 1
                          clear C
                          grind
                        · unfold mCont
                          rw [if_neg c_161]
                          rfl
                    · refine h_bipush C (-2) dX11_contact_100 (by decide) ?_
                      refine h_iret C rfl (Nat.zero_le _) (Nat.zero_le _) dX11_contact_102 ?_
                      have hgx : hgV (told / 10) = 1 := by
                        have := c_61
                        unfold hgV at *
                        split at this
                        · rw [if_pos (by assumption)]
                        · exact absurd rfl this
                      have hok : okM told x y more := ⟨Int32.not_lt.mp c_7, Int32.not_le.mp c_13, Int32.not_le.mp c_22, c_31, Int32.not_lt.mp c_36, Int32.not_le.mp c_46, by rw [hgx]; exact c_74⟩
                      exact ⟨_, rfl, Or.inr (Or.inl ⟨hok, c_97, rfl, rfl⟩)⟩
                  · exact absurd c_86 (by decide)
set_option maxRecDepth 100000 in
set_option maxHeartbeats 4000000 in
theorem m_X11_undo {G : ha_G} {l : Launch} {σ : ha_St} (hY : LY σ) (hN : MN σ) : hM G l yX11_undo cX11_undo 1 (some .int) { frames := 0, cells := 0, slots := 0, locals := 0 } [.ref (ad G 44)] σ (fun v σ' => (gI σ 44 1 = 0 ∧ v = some (.int (-3)) ∧ σ' = σ) ∨ (gI σ 44 1 ≠ 0 ∧ v = some (.int (gI σ 44 1 - 1)) ∧ σ' = sI σ 44 1 (gI σ 44 1 - 1))) := by
  refine hM_ofF [(0, .ref (ad G 44))] (by decide +kernel) (Nat.le_of_ble_eq_true rfl) rfl ?_
  intro p e s m args below meth c0 C hin
  refine h_aload_n C 0 dX11_undo_0 rfl rfl ?_
  refine gfX11_13 C (ty_44 hY) dX11_undo_1 ?_
  refine h_if_ne C 10 dX11_undo_4 (by decide) (fun c_4 => ?_) (fun c_4 => ?_)
  · refine h_aload_n C 0 dX11_undo_10 rfl rfl ?_
    refine h_dup C dX11_undo_11 rfl ?_
    refine gfX11_13 C (ty_44 hY) dX11_undo_12 ?_
    refine h_iconst C 1 dX11_undo_15 (by decide) ?_
    refine h_isub C dX11_undo_16 ?_
    refine pfX11_13 C (ty_44 hY) dX11_undo_17 ?_
    refine h_aload_n C 0 dX11_undo_20 rfl rfl ?_
    refine gfX11_13 C (ty_44 hY) dX11_undo_21 ?_
    refine h_iret C rfl (Nat.zero_le _) (Nat.zero_le _) dX11_undo_24 ?_
    exact Or.inr ⟨c_4, rfl, rfl⟩
  · refine h_bipush C (-3) dX11_undo_7 (by decide) ?_
    refine h_iret C rfl (Nat.zero_le _) (Nat.zero_le _) dX11_undo_9 ?_
    exact Or.inl ⟨c_4, rfl, rfl⟩
theorem icv {σ : ha_St} (hN : MN σ) {c : Int32} (h : ¬ icV σ c = 0) : vp_in c 10 := by
  unfold icV at h
  have h1 := if_one h
  exact vp32 (N := 10) h1.1 (Int32.lt_of_lt_of_le h1.2 hN.2) (by decide)
def mMoveQ (σ : ha_St) (c x y r : Int32) (σ' : ha_St) : Prop := ((icV σ c = 0 ∨ plcV x y = 0) ∧ r = -1 ∧ σ' = σ) ∨ (¬ (icV σ c = 0 ∨ plcV x y = 0) ∧ (r = if gI σ 47 c.toNatClampNeg = x ∧ gI σ 48 c.toNatClampNeg = y then 0 else 1) ∧ σ' = sI (sI σ 47 c.toNatClampNeg x) 48 c.toNatClampNeg y)
def mMissQ (σ : ha_St) (c n r : Int32) (σ' : ha_St) : Prop := ((icV σ c = 0 ∨ inV n 0 50 = 0) ∧ r = -1 ∧ σ' = σ) ∨ (¬ (icV σ c = 0 ∨ inV n 0 50 = 0) ∧ gI σ 45 c.toNatClampNeg = 2 ∧ r = -4 ∧ σ' = σ) ∨ (¬ (icV σ c = 0 ∨ inV n 0 50 = 0) ∧ gI σ 45 c.toNatClampNeg ≠ 2 ∧ r = gI σ 51 c.toNatClampNeg ∧ σ' = sI σ 51 c.toNatClampNeg n)
def mLook (σ : ha_St) (c w : Int32) : Int32 := if icV σ c = 0 ∨ inV w 0 5 = 0 then -1 else if w = 0 then gI σ 45 c.toNatClampNeg else if w = 1 then gI σ 46 c.toNatClampNeg else if w = 2 then gI σ 49 c.toNatClampNeg else if w = 3 then gI σ 50 c.toNatClampNeg else if w = 4 then (if gI σ 45 c.toNatClampNeg = 2 then -2 else gI σ 51 c.toNatClampNeg) else mPc σ c.toNatClampNeg
set_option maxRecDepth 100000 in
set_option maxHeartbeats 4000000 in
theorem m_X11_move {G : ha_G} {l : Launch} {σ : ha_St} {c x y : Int32} (hY : LY σ) (hN : MN σ) : hM G l yX11_move cX11_move 5 (some .int) { frames := 2, cells := 0, slots := 0, locals := 45 } [.ref (ad G 44), .int c, .int x, .int y] σ (fun v σ' => ∃ r, v = some (.int r) ∧ mMoveQ σ c x y r σ') := by
  refine hM_ofF [(0, .ref (ad G 44)), (1, .int c), (2, .int x), (3, .int y)] (by decide +kernel) (Nat.le_of_ble_eq_true rfl) rfl ?_
  intro p e s m args below meth c0 C hin
  refine h_aload_n C 0 dX11_move_0 rfl rfl ?_
  refine h_iload_n C 1 dX11_move_1 rfl rfl ?_
  refine h_callV C (m_X11_isContact hY hN) caX11_142 kX11 (ty_44 hY) ⟨by decide, by decide, by decide, by decide⟩ rfl rfl (Nat.le_of_ble_eq_true rfl) dX11_move_2 ?_
  rintro v σ' ⟨rfl, h2⟩; rw [h2]; clear h2
  show hW _ _ _ _ _ _ _ _ _ _ _ _ _ 5 [(0, .ref (ad G 44)), (1, .int c), (2, .int x), (3, .int y)] [.int (icV σ c)] σ 0 0
  refine h_if_eq C 17 dX11_move_5 (by decide) (fun c_5 => ?_) (fun c_5 => ?_)
  · refine h_iconst C (-1) dX11_move_17 (by decide) ?_
    refine h_iret C rfl (Nat.zero_le _) (Nat.zero_le _) dX11_move_18 ?_
    exact ⟨_, rfl, Or.inl ⟨Or.inl c_5, rfl, rfl⟩⟩
  · refine h_aload_n C 0 dX11_move_8 rfl rfl ?_
    refine h_iload_n C 2 dX11_move_9 rfl rfl ?_
    refine h_iload_n C 3 dX11_move_10 rfl rfl ?_
    refine h_callV C (m_X11_isPlace hY) caX11_134 kX11 (ty_44 hY) ⟨by decide, by decide, by decide, by decide⟩ rfl rfl (Nat.le_of_ble_eq_true rfl) dX11_move_11 ?_
    rintro v σ' ⟨rfl, h2⟩; rw [h2]; clear h2
    show hW _ _ _ _ _ _ _ _ _ _ _ _ _ 14 [(0, .ref (ad G 44)), (1, .int c), (2, .int x), (3, .int y)] [.int (plcV x y)] σ 0 0
    refine h_if_ne C 19 dX11_move_14 (by decide) (fun c_14 => ?_) (fun c_14 => ?_)
    · refine h_aload_n C 0 dX11_move_19 rfl rfl ?_
      refine gfX11_23 C (ty_44 hY) dX11_move_20 ?_
      refine h_tref (b := 47) (rf_44_4 hY) ?_
      refine h_iload_n C 1 dX11_move_23 rfl rfl ?_
      refine h_iald C (ty_47 hY) (icv hN c_5) dX11_move_24 ?_
      refine h_iload_n C 2 dX11_move_25 rfl rfl ?_
      refine h_icmp_ne C 43 dX11_move_26 (by decide) (fun c_26 => ?_) (fun c_26 => ?_)
      · refine h_iconst C 1 dX11_move_43 (by decide) ?_
        refine h_istore C [(4, .int 1), (0, .ref (ad G 44)), (1, .int c), (2, .int x), (3, .int y)] dX11_move_44 (by decide) rfl ?_
        refine h_aload_n C 1 dX11_move_46 rfl rfl ?_
        refine gfX11_23 C (ty_44 hY) dX11_move_47 ?_
        refine h_tref (b := 47) (rf_44_4 hY) ?_
        refine h_iload_n C 2 dX11_move_50 rfl rfl ?_
        refine h_iload_n C 3 dX11_move_51 rfl rfl ?_
        refine h_iast C _ (ty_47 hY) (icv hN c_5) dX11_move_52 rfl ?_
        refine h_aload_n C 1 dX11_move_53 rfl rfl ?_
        refine gfX11_26 C (ty_44 hY) dX11_move_54 ?_
        refine h_tref (b := 48) (rf_44_5 hY) ?_
        refine h_iload_n C 2 dX11_move_57 rfl rfl ?_
        refine h_iload_n C 4 dX11_move_58 rfl rfl ?_
        refine h_iast C _ (ty_48 hY) (icv hN c_5) dX11_move_59 rfl ?_
        refine h_iload C 0 dX11_move_60 rfl ?_
        refine h_iret C rfl (Nat.zero_le _) (Nat.zero_le _) dX11_move_62 ?_
        refine ⟨_, rfl, Or.inr ⟨fun q => q.elim c_5 c_14, ?_, rfl⟩⟩
        rw [if_neg (fun q => c_26 q.1)]
      · refine h_aload_n C 0 dX11_move_29 rfl rfl ?_
        refine gfX11_26 C (ty_44 hY) dX11_move_30 ?_
        refine h_tref (b := 48) (rf_44_5 hY) ?_
        refine h_iload_n C 1 dX11_move_33 rfl rfl ?_
        refine h_iald C (ty_48 hY) (icv hN c_5) dX11_move_34 ?_
        refine h_iload_n C 3 dX11_move_35 rfl rfl ?_
        refine h_icmp_ne C 43 dX11_move_36 (by decide) (fun c_36 => ?_) (fun c_36 => ?_)
        · refine h_iconst C 1 dX11_move_43 (by decide) ?_
          refine h_istore C [(4, .int 1), (0, .ref (ad G 44)), (1, .int c), (2, .int x), (3, .int y)] dX11_move_44 (by decide) rfl ?_
          refine h_aload_n C 1 dX11_move_46 rfl rfl ?_
          refine gfX11_23 C (ty_44 hY) dX11_move_47 ?_
          refine h_tref (b := 47) (rf_44_4 hY) ?_
          refine h_iload_n C 2 dX11_move_50 rfl rfl ?_
          refine h_iload_n C 3 dX11_move_51 rfl rfl ?_
          refine h_iast C _ (ty_47 hY) (icv hN c_5) dX11_move_52 rfl ?_
          refine h_aload_n C 1 dX11_move_53 rfl rfl ?_
          refine gfX11_26 C (ty_44 hY) dX11_move_54 ?_
          refine h_tref (b := 48) (rf_44_5 hY) ?_
          refine h_iload_n C 2 dX11_move_57 rfl rfl ?_
          refine h_iload_n C 4 dX11_move_58 rfl rfl ?_
          refine h_iast C _ (ty_48 hY) (icv hN c_5) dX11_move_59 rfl ?_
          refine h_iload C 0 dX11_move_60 rfl ?_
          refine h_iret C rfl (Nat.zero_le _) (Nat.zero_le _) dX11_move_62 ?_
          refine ⟨_, rfl, Or.inr ⟨fun q => q.elim c_5 c_14, ?_, rfl⟩⟩
          rw [if_neg (fun q => c_36 q.2)]
        · refine h_iconst C 0 dX11_move_39 (by decide) ?_
          refine h_goto C 44 dX11_move_40 (by decide) ?_
          refine h_istore C [(4, .int 0), (0, .ref (ad G 44)), (1, .int c), (2, .int x), (3, .int y)] dX11_move_44 (by decide) rfl ?_
          refine h_aload_n C 1 dX11_move_46 rfl rfl ?_
          refine gfX11_23 C (ty_44 hY) dX11_move_47 ?_
          refine h_tref (b := 47) (rf_44_4 hY) ?_
          refine h_iload_n C 2 dX11_move_50 rfl rfl ?_
          refine h_iload_n C 3 dX11_move_51 rfl rfl ?_
          refine h_iast C _ (ty_47 hY) (icv hN c_5) dX11_move_52 rfl ?_
          refine h_aload_n C 1 dX11_move_53 rfl rfl ?_
          refine gfX11_26 C (ty_44 hY) dX11_move_54 ?_
          refine h_tref (b := 48) (rf_44_5 hY) ?_
          refine h_iload_n C 2 dX11_move_57 rfl rfl ?_
          refine h_iload_n C 4 dX11_move_58 rfl rfl ?_
          refine h_iast C _ (ty_48 hY) (icv hN c_5) dX11_move_59 rfl ?_
          refine h_iload C 0 dX11_move_60 rfl ?_
          refine h_iret C rfl (Nat.zero_le _) (Nat.zero_le _) dX11_move_62 ?_
          refine ⟨_, rfl, Or.inr ⟨fun q => q.elim c_5 c_14, ?_, rfl⟩⟩
          rw [if_pos ⟨c_26, c_36⟩]
    · refine h_iconst C (-1) dX11_move_17 (by decide) ?_
      refine h_iret C rfl (Nat.zero_le _) (Nat.zero_le _) dX11_move_18 ?_
      exact ⟨_, rfl, Or.inl ⟨Or.inr c_14, rfl, rfl⟩⟩
set_option maxRecDepth 100000 in
set_option maxHeartbeats 4000000 in
theorem m_X11_miss {G : ha_G} {l : Launch} {σ : ha_St} {c n : Int32} (hY : LY σ) (hN : MN σ) : hM G l yX11_miss cX11_miss 4 (some .int) { frames := 2, cells := 0, slots := 0, locals := 44 } [.ref (ad G 44), .int c, .int n] σ (fun v σ' => ∃ r, v = some (.int r) ∧ mMissQ σ c n r σ') := by
  refine hM_ofF [(0, .ref (ad G 44)), (1, .int c), (2, .int n)] (by decide +kernel) (Nat.le_of_ble_eq_true rfl) rfl ?_
  intro p e s m args below meth c0 C hin
  refine h_aload_n C 0 dX11_miss_0 rfl rfl ?_
  refine h_iload_n C 1 dX11_miss_1 rfl rfl ?_
  refine h_callV C (m_X11_isContact hY hN) caX11_142 kX11 (ty_44 hY) ⟨by decide, by decide, by decide, by decide⟩ rfl rfl (Nat.le_of_ble_eq_true rfl) dX11_miss_2 ?_
  rintro v σ' ⟨rfl, h2⟩; rw [h2]; clear h2
  show hW _ _ _ _ _ _ _ _ _ _ _ _ _ 5 [(0, .ref (ad G 44)), (1, .int c), (2, .int n)] [.int (icV σ c)] σ 0 0
  refine h_if_eq C 19 dX11_miss_5 (by decide) (fun c_5 => ?_) (fun c_5 => ?_)
  · refine h_iconst C (-1) dX11_miss_19 (by decide) ?_
    refine h_iret C rfl (Nat.zero_le _) (Nat.zero_le _) dX11_miss_20 ?_
    exact ⟨_, rfl, Or.inl ⟨Or.inl c_5, rfl, rfl⟩⟩
  · refine h_aload_n C 0 dX11_miss_8 rfl rfl ?_
    refine h_iload_n C 2 dX11_miss_9 rfl rfl ?_
    refine h_iconst C 0 dX11_miss_10 (by decide) ?_
    refine h_bipush C 50 dX11_miss_11 (by decide) ?_
    refine h_callV C m_X11_in caX11_130 kX11 (ty_44 hY) ⟨by decide, by decide, by decide, by decide⟩ rfl rfl (Nat.le_of_ble_eq_true rfl) dX11_miss_13 ?_
    rintro v σ' ⟨rfl, h2⟩; rw [h2]; clear h2
    show hW _ _ _ _ _ _ _ _ _ _ _ _ _ 16 [(0, .ref (ad G 44)), (1, .int c), (2, .int n)] [.int (inV n 0 50)] σ 0 0
    refine h_if_ne C 21 dX11_miss_16 (by decide) (fun c_16 => ?_) (fun c_16 => ?_)
    · refine h_aload_n C 0 dX11_miss_21 rfl rfl ?_
      refine gfX11_16 C (ty_44 hY) dX11_miss_22 ?_
      refine h_tref (b := 45) (rf_44_2 hY) ?_
      refine h_iload_n C 1 dX11_miss_25 rfl rfl ?_
      refine h_iald C (ty_45 hY) (icv hN c_5) dX11_miss_26 ?_
      refine h_iconst C 2 dX11_miss_27 (by decide) ?_
      refine h_icmp_ne C 34 dX11_miss_28 (by decide) (fun c_28 => ?_) (fun c_28 => ?_)
      · refine h_aload_n C 0 dX11_miss_34 rfl rfl ?_
        refine gfX11_35 C (ty_44 hY) dX11_miss_35 ?_
        refine h_tref (b := 51) (rf_44_8 hY) ?_
        refine h_iload_n C 1 dX11_miss_38 rfl rfl ?_
        refine h_iald C (ty_51 hY) (icv hN c_5) dX11_miss_39 ?_
        refine h_istore_n C [(3, .int (gI σ 51 c.toNatClampNeg)), (0, .ref (ad G 44)), (1, .int c), (2, .int n)] dX11_miss_40 rfl (by decide) rfl ?_
        refine h_aload_n C 1 dX11_miss_41 rfl rfl ?_
        refine gfX11_35 C (ty_44 hY) dX11_miss_42 ?_
        refine h_tref (b := 51) (rf_44_8 hY) ?_
        refine h_iload_n C 2 dX11_miss_45 rfl rfl ?_
        refine h_iload_n C 3 dX11_miss_46 rfl rfl ?_
        refine h_iast C _ (ty_51 hY) (icv hN c_5) dX11_miss_47 rfl ?_
        refine h_iload_n C 0 dX11_miss_48 rfl rfl ?_
        refine h_iret C rfl (Nat.zero_le _) (Nat.zero_le _) dX11_miss_49 ?_
        exact ⟨_, rfl, Or.inr (Or.inr ⟨fun q => q.elim c_5 c_16, c_28, rfl, rfl⟩)⟩
      · refine h_bipush C (-4) dX11_miss_31 (by decide) ?_
        refine h_iret C rfl (Nat.zero_le _) (Nat.zero_le _) dX11_miss_33 ?_
        exact ⟨_, rfl, Or.inr (Or.inl ⟨fun q => q.elim c_5 c_16, c_28, rfl, rfl⟩)⟩
    · refine h_iconst C (-1) dX11_miss_19 (by decide) ?_
      refine h_iret C rfl (Nat.zero_le _) (Nat.zero_le _) dX11_miss_20 ?_
      exact ⟨_, rfl, Or.inl ⟨Or.inr c_16, rfl, rfl⟩⟩
set_option maxRecDepth 100000 in
set_option maxHeartbeats 4000000 in
theorem m_X11_look {G : ha_G} {l : Launch} {σ : ha_St} {c w : Int32} (hY : LY σ) (hN : MN σ) : hM G l yX11_look cX11_look 3 (some .int) { frames := 2, cells := 0, slots := 0, locals := 44 } [.ref (ad G 44), .int c, .int w] σ (fun v σ' => v = some (.int (mLook σ c w)) ∧ σ' = σ) := by
  refine hM_ofF [(0, .ref (ad G 44)), (1, .int c), (2, .int w)] (by decide +kernel) (Nat.le_of_ble_eq_true rfl) rfl ?_
  intro p e s m args below meth c0 C hin
  refine h_aload_n C 0 dX11_look_0 rfl rfl ?_
  refine h_iload_n C 1 dX11_look_1 rfl rfl ?_
  refine h_callV C (m_X11_isContact hY hN) caX11_142 kX11 (ty_44 hY) ⟨by decide, by decide, by decide, by decide⟩ rfl rfl (Nat.le_of_ble_eq_true rfl) dX11_look_2 ?_
  rintro v σ' ⟨rfl, h2⟩; rw [h2]; clear h2
  show hW _ _ _ _ _ _ _ _ _ _ _ _ _ 5 [(0, .ref (ad G 44)), (1, .int c), (2, .int w)] [.int (icV σ c)] σ 0 0
  refine h_if_eq C 18 dX11_look_5 (by decide) (fun c_5 => ?_) (fun c_5 => ?_)
  · refine h_iconst C (-1) dX11_look_18 (by decide) ?_
    refine h_iret C rfl (Nat.zero_le _) (Nat.zero_le _) dX11_look_19 ?_
    refine ⟨vint ?_, rfl⟩
    unfold mLook
    rw [if_pos (Or.inl c_5)]
  · refine h_aload_n C 0 dX11_look_8 rfl rfl ?_
    refine h_iload_n C 2 dX11_look_9 rfl rfl ?_
    refine h_iconst C 0 dX11_look_10 (by decide) ?_
    refine h_iconst C 5 dX11_look_11 (by decide) ?_
    refine h_callV C m_X11_in caX11_130 kX11 (ty_44 hY) ⟨by decide, by decide, by decide, by decide⟩ rfl rfl (Nat.le_of_ble_eq_true rfl) dX11_look_12 ?_
    rintro v σ' ⟨rfl, h2⟩; rw [h2]; clear h2
    show hW _ _ _ _ _ _ _ _ _ _ _ _ _ 15 [(0, .ref (ad G 44)), (1, .int c), (2, .int w)] [.int (inV w 0 5)] σ 0 0
    refine h_if_ne C 20 dX11_look_15 (by decide) (fun c_15 => ?_) (fun c_15 => ?_)
    · refine h_iload_n C 2 dX11_look_20 rfl rfl ?_
      by_cases q_21_0 : w = 0
      · refine h_tableIn C 56 dX11_look_21 (by rw [q_21_0]; decide) (by rw [q_21_0]; decide) (by rw [q_21_0]; rfl) (by decide) ?_
        refine h_aload_n C 0 dX11_look_56 rfl rfl ?_
        refine gfX11_16 C (ty_44 hY) dX11_look_57 ?_
        refine h_tref (b := 45) (rf_44_2 hY) ?_
        refine h_iload_n C 1 dX11_look_60 rfl rfl ?_
        refine h_iald C (ty_45 hY) (icv hN c_5) dX11_look_61 ?_
        refine h_iret C rfl (Nat.zero_le _) (Nat.zero_le _) dX11_look_62 ?_
        refine ⟨vint ?_, rfl⟩
        unfold mLook
        rw [if_neg (fun q => q.elim c_5 c_15), if_pos q_21_0]
      by_cases q_21_1 : w = 1
      · refine h_tableIn C 63 dX11_look_21 (by rw [q_21_1]; decide) (by rw [q_21_1]; decide) (by rw [q_21_1]; rfl) (by decide) ?_
        refine h_aload_n C 0 dX11_look_63 rfl rfl ?_
        refine gfX11_20 C (ty_44 hY) dX11_look_64 ?_
        refine h_tref (b := 46) (rf_44_3 hY) ?_
        refine h_iload_n C 1 dX11_look_67 rfl rfl ?_
        refine h_iald C (ty_46 hY) (icv hN c_5) dX11_look_68 ?_
        refine h_iret C rfl (Nat.zero_le _) (Nat.zero_le _) dX11_look_69 ?_
        refine ⟨vint ?_, rfl⟩
        unfold mLook
        rw [if_neg (fun q => q.elim c_5 c_15), if_neg q_21_0, if_pos q_21_1]
      by_cases q_21_2 : w = 2
      · refine h_tableIn C 70 dX11_look_21 (by rw [q_21_2]; decide) (by rw [q_21_2]; decide) (by rw [q_21_2]; rfl) (by decide) ?_
        refine h_aload_n C 0 dX11_look_70 rfl rfl ?_
        refine gfX11_29 C (ty_44 hY) dX11_look_71 ?_
        refine h_tref (b := 49) (rf_44_6 hY) ?_
        refine h_iload_n C 1 dX11_look_74 rfl rfl ?_
        refine h_iald C (ty_49 hY) (icv hN c_5) dX11_look_75 ?_
        refine h_iret C rfl (Nat.zero_le _) (Nat.zero_le _) dX11_look_76 ?_
        refine ⟨vint ?_, rfl⟩
        unfold mLook
        rw [if_neg (fun q => q.elim c_5 c_15), if_neg q_21_0, if_neg q_21_1, if_pos q_21_2]
      by_cases q_21_3 : w = 3
      · refine h_tableIn C 77 dX11_look_21 (by rw [q_21_3]; decide) (by rw [q_21_3]; decide) (by rw [q_21_3]; rfl) (by decide) ?_
        refine h_aload_n C 0 dX11_look_77 rfl rfl ?_
        refine gfX11_32 C (ty_44 hY) dX11_look_78 ?_
        refine h_tref (b := 50) (rf_44_7 hY) ?_
        refine h_iload_n C 1 dX11_look_81 rfl rfl ?_
        refine h_iald C (ty_50 hY) (icv hN c_5) dX11_look_82 ?_
        refine h_iret C rfl (Nat.zero_le _) (Nat.zero_le _) dX11_look_83 ?_
        refine ⟨vint ?_, rfl⟩
        unfold mLook
        rw [if_neg (fun q => q.elim c_5 c_15), if_neg q_21_0, if_neg q_21_1, if_neg q_21_2, if_pos q_21_3]
      by_cases q_21_4 : w = 4
      · refine h_tableIn C 84 dX11_look_21 (by rw [q_21_4]; decide) (by rw [q_21_4]; decide) (by rw [q_21_4]; rfl) (by decide) ?_
        refine h_aload_n C 0 dX11_look_84 rfl rfl ?_
        refine gfX11_16 C (ty_44 hY) dX11_look_85 ?_
        refine h_tref (b := 45) (rf_44_2 hY) ?_
        refine h_iload_n C 1 dX11_look_88 rfl rfl ?_
        refine h_iald C (ty_45 hY) (icv hN c_5) dX11_look_89 ?_
        refine h_iconst C 2 dX11_look_90 (by decide) ?_
        refine h_icmp_ne C 99 dX11_look_91 (by decide) (fun c_91 => ?_) (fun c_91 => ?_)
        · refine h_aload_n C 0 dX11_look_99 rfl rfl ?_
          refine gfX11_35 C (ty_44 hY) dX11_look_100 ?_
          refine h_tref (b := 51) (rf_44_8 hY) ?_
          refine h_iload_n C 1 dX11_look_103 rfl rfl ?_
          refine h_iald C (ty_51 hY) (icv hN c_5) dX11_look_104 ?_
          refine h_iret C rfl (Nat.zero_le _) (Nat.zero_le _) dX11_look_105 ?_
          refine ⟨vint ?_, rfl⟩
          unfold mLook
          rw [if_neg (fun q => q.elim c_5 c_15), if_neg q_21_0, if_neg q_21_1, if_neg q_21_2, if_neg q_21_3, if_pos q_21_4, if_neg c_91]
        · refine h_bipush C (-2) dX11_look_94 (by decide) ?_
          refine h_goto C 105 dX11_look_96 (by decide) ?_
          refine h_iret C rfl (Nat.zero_le _) (Nat.zero_le _) dX11_look_105 ?_
          refine ⟨vint ?_, rfl⟩
          unfold mLook
          rw [if_neg (fun q => q.elim c_5 c_15), if_neg q_21_0, if_neg q_21_1, if_neg q_21_2, if_neg q_21_3, if_pos q_21_4, if_pos c_91]
      refine h_tableOut C 106 dX11_look_21 (by have e_0 := lv_neT q_21_0 (a := 0) (by decide); have e_1 := lv_neT q_21_1 (a := 1) (by decide); have e_2 := lv_neT q_21_2 (a := 2) (by decide); have e_3 := lv_neT q_21_3 (a := 3) (by decide); have e_4 := lv_neT q_21_4 (a := 4) (by decide); omega) (by decide) ?_
      refine h_aload_n C 0 dX11_look_106 rfl rfl ?_
      refine h_iload_n C 1 dX11_look_107 rfl rfl ?_
      refine h_callV C (m_X11_pushesOf hY (icv hN c_5)) caX11_145 kX11 (ty_44 hY) ⟨by decide, by decide, by decide, by decide⟩ rfl rfl (Nat.le_of_ble_eq_true rfl) dX11_look_108 ?_
      rintro v σ' ⟨rfl, h2⟩; rw [h2]; clear h2
      show hW _ _ _ _ _ _ _ _ _ _ _ _ _ 111 [(0, .ref (ad G 44)), (1, .int c), (2, .int w)] [.int (mPc σ c.toNatClampNeg)] σ 0 0
      refine h_iret C rfl (Nat.zero_le _) (Nat.zero_le _) dX11_look_111 ?_
      refine ⟨vint ?_, rfl⟩
      unfold mLook
      rw [if_neg (fun q => q.elim c_5 c_15), if_neg q_21_0, if_neg q_21_1, if_neg q_21_2, if_neg q_21_3, if_neg q_21_4]
    · refine h_iconst C (-1) dX11_look_18 (by decide) ?_
      refine h_iret C rfl (Nat.zero_le _) (Nat.zero_le _) dX11_look_19 ?_
      refine ⟨vint ?_, rfl⟩
      unfold mLook
      rw [if_pos (Or.inr c_15)]
def wokM (σ : ha_St) (c p k : Int32) : Prop := icV σ c ≠ 0 ∧ inV k 0 2 ≠ 0 ∧ inV p (-1) (mPc σ c.toNatClampNeg - 1) ≠ 0
def mWrenQ (σ : ha_St) (c p k : Int32) (x : Int64) (σ' : ha_St) : Prop := (¬ wokM σ c p k ∧ σ' = sI σ 44 0 1) ∨ (wokM σ c p k ∧ σ' = sI σ 44 0 0 ∧ x = if p < 0 then dirV σ c.toNatClampNeg k else psV σ c.toNatClampNeg p k)
set_option maxRecDepth 100000 in
set_option maxHeartbeats 4000000 in
theorem m_X11_wrench {G : ha_G} {l : Launch} {σ : ha_St} {c pu k : Int32} (hY : LY σ) (hN : MN σ) : hM G l yX11_wrench cX11_wrench 4 (some .long) { frames := 2, cells := 0, slots := 0, locals := 55 } [.ref (ad G 44), .int c, .int pu, .int k] σ (fun v σ' => ∃ x, v = some (.long x) ∧ mWrenQ σ c pu k x σ') := by
  refine hM_ofF [(0, .ref (ad G 44)), (1, .int c), (2, .int pu), (3, .int k)] (by decide +kernel) (Nat.le_of_ble_eq_true rfl) rfl ?_
  intro p e s m args below meth c0 C hin
  refine h_aload_n C 0 dX11_wrench_0 rfl rfl ?_
  refine h_aload_n C 0 dX11_wrench_1 rfl rfl ?_
  refine h_iload_n C 1 dX11_wrench_2 rfl rfl ?_
  refine h_callV C (m_X11_isContact hY hN) caX11_142 kX11 (ty_44 hY) ⟨by decide, by decide, by decide, by decide⟩ rfl rfl (Nat.le_of_ble_eq_true rfl) dX11_wrench_3 ?_
  rintro v σ' ⟨rfl, h2⟩; rw [h2]; clear h2
  show hW _ _ _ _ _ _ _ _ _ _ _ _ _ 6 [(0, .ref (ad G 44)), (1, .int c), (2, .int pu), (3, .int k)] [.int (icV σ c), .ref (ad G 44)] σ 0 0
  refine h_if_eq C 39 dX11_wrench_6 (by decide) (fun c_6 => ?_) (fun c_6 => ?_)
  · refine h_iconst C 1 dX11_wrench_39 (by decide) ?_
    refine pfX11_7 C (ty_44 hY) dX11_wrench_40 ?_
    have hY : LY (sI σ 44 0 1) := hY.same rfl rfl rfl
    refine h_aload_n C 0 dX11_wrench_43 rfl rfl ?_
    refine gfX11_7 C (ty_44 hY) dX11_wrench_44 ?_
    refine h_if_le C 54 dX11_wrench_47 (by decide) (fun c_47 => ?_) (fun c_47 => ?_)
    · exact absurd (show ((1 : Int32) ≤ 0) from c_47) (by decide)
    · refine h_lconst C 0 dX11_wrench_50 rfl ?_
      refine h_goto C 74 dX11_wrench_51 (by decide) ?_
      refine h_lret C rfl (Nat.zero_le _) (Nat.zero_le _) dX11_wrench_74 ?_
      exact ⟨_, rfl, Or.inl ⟨fun q => q.1 c_6, rfl⟩⟩
  · refine h_aload_n C 0 dX11_wrench_9 rfl rfl ?_
    refine h_iload_n C 3 dX11_wrench_10 rfl rfl ?_
    refine h_iconst C 0 dX11_wrench_11 (by decide) ?_
    refine h_iconst C 2 dX11_wrench_12 (by decide) ?_
    refine h_callV C m_X11_in caX11_130 kX11 (ty_44 hY) ⟨by decide, by decide, by decide, by decide⟩ rfl rfl (Nat.le_of_ble_eq_true rfl) dX11_wrench_13 ?_
    rintro v σ' ⟨rfl, h2⟩; rw [h2]; clear h2
    show hW _ _ _ _ _ _ _ _ _ _ _ _ _ 16 [(0, .ref (ad G 44)), (1, .int c), (2, .int pu), (3, .int k)] [.int (inV k 0 2), .ref (ad G 44)] σ 0 0
    refine h_if_eq C 39 dX11_wrench_16 (by decide) (fun c_16 => ?_) (fun c_16 => ?_)
    · refine h_iconst C 1 dX11_wrench_39 (by decide) ?_
      refine pfX11_7 C (ty_44 hY) dX11_wrench_40 ?_
      have hY : LY (sI σ 44 0 1) := hY.same rfl rfl rfl
      refine h_aload_n C 0 dX11_wrench_43 rfl rfl ?_
      refine gfX11_7 C (ty_44 hY) dX11_wrench_44 ?_
      refine h_if_le C 54 dX11_wrench_47 (by decide) (fun c_47 => ?_) (fun c_47 => ?_)
      · exact absurd (show ((1 : Int32) ≤ 0) from c_47) (by decide)
      · refine h_lconst C 0 dX11_wrench_50 rfl ?_
        refine h_goto C 74 dX11_wrench_51 (by decide) ?_
        refine h_lret C rfl (Nat.zero_le _) (Nat.zero_le _) dX11_wrench_74 ?_
        exact ⟨_, rfl, Or.inl ⟨fun q => q.2.1 c_16, rfl⟩⟩
    · refine h_aload_n C 0 dX11_wrench_19 rfl rfl ?_
      refine h_iload_n C 2 dX11_wrench_20 rfl rfl ?_
      refine h_iconst C (-1) dX11_wrench_21 (by decide) ?_
      refine h_aload_n C 0 dX11_wrench_22 rfl rfl ?_
      refine h_iload_n C 1 dX11_wrench_23 rfl rfl ?_
      refine h_callV C (m_X11_pushesOf hY (icv hN c_6)) caX11_145 kX11 (ty_44 hY) ⟨by decide, by decide, by decide, by decide⟩ rfl rfl (Nat.le_of_ble_eq_true rfl) dX11_wrench_24 ?_
      rintro v σ' ⟨rfl, h2⟩; rw [h2]; clear h2
      show hW _ _ _ _ _ _ _ _ _ _ _ _ _ 27 [(0, .ref (ad G 44)), (1, .int c), (2, .int pu), (3, .int k)] [.int (mPc σ c.toNatClampNeg), .int (-1), .int pu, .ref (ad G 44), .ref (ad G 44)] σ 0 0
      refine h_iconst C 1 dX11_wrench_27 (by decide) ?_
      refine h_isub C dX11_wrench_28 ?_
      refine h_callV C m_X11_in caX11_130 kX11 (ty_44 hY) ⟨by decide, by decide, by decide, by decide⟩ rfl rfl (Nat.le_of_ble_eq_true rfl) dX11_wrench_29 ?_
      rintro v σ' ⟨rfl, h2⟩; rw [h2]; clear h2
      show hW _ _ _ _ _ _ _ _ _ _ _ _ _ 32 [(0, .ref (ad G 44)), (1, .int c), (2, .int pu), (3, .int k)] [.int (inV pu (-1) ((mPc σ c.toNatClampNeg) - 1)), .ref (ad G 44)] σ 0 0
      refine h_if_eq C 39 dX11_wrench_32 (by decide) (fun c_32 => ?_) (fun c_32 => ?_)
      · refine h_iconst C 1 dX11_wrench_39 (by decide) ?_
        refine pfX11_7 C (ty_44 hY) dX11_wrench_40 ?_
        have hY : LY (sI σ 44 0 1) := hY.same rfl rfl rfl
        refine h_aload_n C 0 dX11_wrench_43 rfl rfl ?_
        refine gfX11_7 C (ty_44 hY) dX11_wrench_44 ?_
        refine h_if_le C 54 dX11_wrench_47 (by decide) (fun c_47 => ?_) (fun c_47 => ?_)
        · exact absurd (show ((1 : Int32) ≤ 0) from c_47) (by decide)
        · refine h_lconst C 0 dX11_wrench_50 rfl ?_
          refine h_goto C 74 dX11_wrench_51 (by decide) ?_
          refine h_lret C rfl (Nat.zero_le _) (Nat.zero_le _) dX11_wrench_74 ?_
          exact ⟨_, rfl, Or.inl ⟨fun q => q.2.2 c_32, rfl⟩⟩
      · refine h_iconst C 0 dX11_wrench_35 (by decide) ?_
        refine h_goto C 40 dX11_wrench_36 (by decide) ?_
        refine pfX11_7 C (ty_44 hY) dX11_wrench_40 ?_
        have hY : LY (sI σ 44 0 0) := hY.same rfl rfl rfl
        refine h_aload_n C 0 dX11_wrench_43 rfl rfl ?_
        refine gfX11_7 C (ty_44 hY) dX11_wrench_44 ?_
        refine h_if_le C 54 dX11_wrench_47 (by decide) (fun c_47 => ?_) (fun c_47 => ?_)
        · refine h_iload_n C 2 dX11_wrench_54 rfl rfl ?_
          refine h_if_ge C 67 dX11_wrench_55 (by decide) (fun c_55 => ?_) (fun c_55 => ?_)
          · refine h_aload_n C 0 dX11_wrench_67 rfl rfl ?_
            refine h_iload_n C 1 dX11_wrench_68 rfl rfl ?_
            refine h_iload_n C 2 dX11_wrench_69 rfl rfl ?_
            refine h_iload_n C 3 dX11_wrench_70 rfl rfl ?_
            refine h_callV C (m_X11_pushed hY (icv hN c_6)) caX11_165 kX11 (ty_44 hY) ⟨by decide, by decide, by decide, by decide⟩ rfl rfl (Nat.le_of_ble_eq_true rfl) dX11_wrench_71 ?_
            rintro v σ' ⟨rfl, h2⟩; rw [h2]; clear h2
            show hW _ _ _ _ _ _ _ _ _ _ _ _ _ 74 [(0, .ref (ad G 44)), (1, .int c), (2, .int pu), (3, .int k)] [.long (psV σ c.toNatClampNeg pu k)] (sI σ 44 0 0) 0 0
            refine h_lret C rfl (Nat.zero_le _) (Nat.zero_le _) dX11_wrench_74 ?_
            refine ⟨_, rfl, Or.inr ⟨⟨c_6, c_16, c_32⟩, rfl, ?_⟩⟩
            rw [if_neg (Int32.not_lt.mpr c_55)]
          · refine h_aload_n C 0 dX11_wrench_58 rfl rfl ?_
            refine h_iload_n C 1 dX11_wrench_59 rfl rfl ?_
            refine h_iload_n C 3 dX11_wrench_60 rfl rfl ?_
            refine h_callV C (m_X11_direct hY (icv hN c_6)) caX11_161 kX11 (ty_44 hY) ⟨by decide, by decide, by decide, by decide⟩ rfl rfl (Nat.le_of_ble_eq_true rfl) dX11_wrench_61 ?_
            rintro v σ' ⟨rfl, h2⟩; rw [h2]; clear h2
            show hW _ _ _ _ _ _ _ _ _ _ _ _ _ 64 [(0, .ref (ad G 44)), (1, .int c), (2, .int pu), (3, .int k)] [.long (dirV σ c.toNatClampNeg k)] (sI σ 44 0 0) 0 0
            refine h_goto C 74 dX11_wrench_64 (by decide) ?_
            refine h_lret C rfl (Nat.zero_le _) (Nat.zero_le _) dX11_wrench_74 ?_
            refine ⟨_, rfl, Or.inr ⟨⟨c_6, c_16, c_32⟩, rfl, ?_⟩⟩
            rw [if_pos (Int32.not_le.mp c_55)]
        · refine h_lconst C 0 dX11_wrench_50 rfl ?_
          refine h_goto C 74 dX11_wrench_51 (by decide) ?_
          refine h_lret C rfl (Nat.zero_le _) (Nat.zero_le _) dX11_wrench_74 ?_
          exact absurd (show ((0 : Int32) ≤ 0) from by decide) c_47
