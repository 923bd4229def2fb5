/-! ===== the reference: loads, pull ===== -/
def ldV (p q m : Int32) : Int32 := if isLd p q m then 1 else 0
theorem ldV_1 {p q m : Int32} (h : ¬ ldV p q m = 0) : isLd p q m := by unfold ldV at h; exact if_one h
theorem ldV_0 {p q m : Int32} (h : ldV p q m = 0) : ¬ isLd p q m := by
  unfold ldV at h
  intro q
  rw [if_pos q] at h
  exact absurd h (by decide)
theorem t16 {i : Int32} (h0 : 0 ≤ i) (h1 : i < 16) : vp_in (3 * i) 48 ∧ vp_in (3 * i + 1) 48 ∧ vp_in (3 * i + 2) 48 := by
  have e := t900_i h0 (Int32.lt_of_lt_of_le h1 (by decide))
  have a0 := Int32.le_iff_toInt_le.mp h0
  have a1 := Int32.lt_iff_toInt_lt.mp h1
  rw [Int32.toInt_zero] at a0
  rw [show (16 : Int32).toInt = 16 by decide] at a1
  rw [vp_in_iff, vp_in_iff, vp_in_iff, e.1, e.2.1, e.2.2]
  omega
def mLd (σ : ha_St) (p q m : Int32) : ha_St := sI (sI (sI (sI σ 57 (3 * gI σ 44 17).toNatClampNeg p) 57 (3 * gI σ 44 17 + 1).toNatClampNeg q) 57 (3 * gI σ 44 17 + 2).toNatClampNeg m) 44 17 (gI σ 44 17 + 1)
def mLoadQ (σ : ha_St) (p q m r : Int32) (σ' : ha_St) : Prop := (¬ isLd p q m ∧ r = -1 ∧ σ' = σ) ∨ (isLd p q m ∧ gI σ 44 17 = 16 ∧ r = -2 ∧ σ' = σ) ∨ (isLd p q m ∧ gI σ 44 17 ≠ 16 ∧ r = gI σ 44 17 ∧ σ' = mLd σ p q m)
def mHeldQ (σ : ha_St) (p q m f r : Int32) (σ' : ha_St) : Prop := (¬ (isLd p q m ∧ 0 ≤ f ∧ f ≤ 200) ∧ r = -1 ∧ σ' = σ) ∨ ((isLd p q m ∧ 0 ≤ f ∧ f ≤ 200) ∧ frJ σ σ' ∧ ∃ σ1, prQ σ σ1 ∧ isB r (gInG σ1 (mGoal σ1 p q m f)))
def mHL (σ : ha_St) (f : Int32) (l : Nat) : Prop := gInG σ (mGoal σ (gI σ 57 (3 * l)) (gI σ 57 (3 * l + 1)) (gI σ 57 (3 * l + 2)) f)
def mLoadsQ (σ : ha_St) (f r : Int32) (σ' : ha_St) : Prop := (¬ (0 ≤ f ∧ f ≤ 200) ∧ r = -1 ∧ σ' = σ) ∨ ((0 ≤ f ∧ f ≤ 200) ∧ frJ σ σ' ∧ ∃ σ1, prQ σ σ1 ∧ bitsP (mHL σ1 f) (gI σ1 44 17).toNatClampNeg r)
def alH (σ : ha_St) (g : Int32) : Prop := bitsP (mHL σ g) (gI σ 44 17).toNatClampNeg (1 <<< (gI σ 44 17 &&& 31) - 1)
def mPullQ (σ : ha_St) (r : Int32) (σ' : ha_St) : Prop := frJ σ σ' ∧ ∃ σ1, prQ σ σ1 ∧ ((0 ≤ r ∧ r ≤ 200 ∧ alH σ1 r ∧ ∀ g, 0 ≤ g → g < r → ¬ alH σ1 g) ∨ (r = -4 ∧ ∀ g, 0 ≤ g → g ≤ 200 → ¬ alH σ1 g))
theorem bitsP_det {P : Nat → Prop} : ∀ {n : Nat} {a b : Int32}, bitsP P n a → bitsP P n b → a = b
  | 0, a, b, h, g => by rw [show a = 0 from h, show b = 0 from g]
  | n + 1, a, b, ⟨a0, h, h2⟩, ⟨b0, g, g2⟩ => by
    have e := bitsP_det h g
    subst e
    rcases h2 with ⟨q, h2⟩ | ⟨q, h2⟩ <;> rcases g2 with ⟨q', g2⟩ | ⟨q', g2⟩
    · rw [h2, g2]
    · exact absurd q q'
    · exact absurd q' q
    · rw [h2, g2]
theorem frK_HL {σ σ' : ha_St} (h : frK σ σ') (f : Int32) : mHL σ' f = mHL σ f := by
  funext l
  unfold mHL
  rw [frK_goal h, (h.2.2.2 57 (by omega) (by omega)).1]
  exact propext (frK_gIn h)
theorem frJ_17 {σ σ' : ha_St} (h : frJ σ σ') : gI σ' 44 17 = gI σ 44 17 := h.2.2.2.1 44 17 (by unfold scJ; omega)
theorem frK_44 {σ σ' : ha_St} (h : frK σ σ') : gI σ' 44 = gI σ 44 := (h.2.2.2 44 (by omega) (by omega)).1
set_option maxRecDepth 100000 in
set_option maxHeartbeats 4000000 in
theorem m_X11_isLoad {G : ha_G} {l : Launch} {σ : ha_St} {pp qq mm : Int32} (hY : LY σ) : hM G l yX11_isLoad cX11_isLoad 4 (some .boolean) { frames := 1, cells := 0, slots := 0, locals := 23 } [.ref (ad G 44), .int pp, .int qq, .int mm] σ (fun v σ' => v = some (.int (ldV pp qq mm)) ∧ σ' = σ) := by
  refine hM_ofF [(0, .ref (ad G 44)), (1, .int pp), (2, .int qq), (3, .int mm)] (by decide +kernel) (Nat.le_of_ble_eq_true rfl) rfl ?_
  intro p e s m args below meth c0 C hin
  refine h_aload_n C 0 dX11_isLoad_0 rfl rfl ?_
  refine h_iload_n C 1 dX11_isLoad_1 rfl rfl ?_
  refine h_sipush C (-1000) dX11_isLoad_2 (by decide) ?_
  refine h_sipush C 1000 dX11_isLoad_5 (by decide) ?_
  refine h_callV C m_X11_in caX11_130 kX11 (ty_44 hY) ⟨by decide, by decide, by decide, by decide⟩ rfl rfl (Nat.le_of_ble_eq_true rfl) dX11_isLoad_8 ?_
  rintro v σ' ⟨rfl, h2⟩; rw [h2]; clear h2
  show hW _ _ _ _ _ _ _ _ _ _ _ _ _ 11 [(0, .ref (ad G 44)), (1, .int pp), (2, .int qq), (3, .int mm)] [.int (inV pp (-1000) 1000)] σ 0 0
  refine h_if_eq C 46 dX11_isLoad_11 (by decide) (fun c_11 => ?_) (fun c_11 => ?_)
  · refine h_iconst C 0 dX11_isLoad_46 (by decide) ?_
    refine h_zret C rfl (by decide) (Nat.zero_le _) (Nat.zero_le _) dX11_isLoad_47 ?_
    refine ⟨vint ?_, rfl⟩
    clear C
    unfold inV at *
    unfold ldV isLd
    grind
  · refine h_aload_n C 0 dX11_isLoad_14 rfl rfl ?_
    refine h_iload_n C 2 dX11_isLoad_15 rfl rfl ?_
    refine h_sipush C (-1000) dX11_isLoad_16 (by decide) ?_
    refine h_sipush C 1000 dX11_isLoad_19 (by decide) ?_
    refine h_callV C m_X11_in caX11_130 kX11 (ty_44 hY) ⟨by decide, by decide, by decide, by decide⟩ rfl rfl (Nat.le_of_ble_eq_true rfl) dX11_isLoad_22 ?_
    rintro v σ' ⟨rfl, h2⟩; rw [h2]; clear h2
    show hW _ _ _ _ _ _ _ _ _ _ _ _ _ 25 [(0, .ref (ad G 44)), (1, .int pp), (2, .int qq), (3, .int mm)] [.int (inV qq (-1000) 1000)] σ 0 0
    refine h_if_eq C 46 dX11_isLoad_25 (by decide) (fun c_25 => ?_) (fun c_25 => ?_)
    · refine h_iconst C 0 dX11_isLoad_46 (by decide) ?_
      refine h_zret C rfl (by decide) (Nat.zero_le _) (Nat.zero_le _) dX11_isLoad_47 ?_
      refine ⟨vint ?_, rfl⟩
      clear C
      unfold inV at *
      unfold ldV isLd
      grind
    · refine h_aload_n C 0 dX11_isLoad_28 rfl rfl ?_
      refine h_iload_n C 3 dX11_isLoad_29 rfl rfl ?_
      refine h_sipush C (-1000) dX11_isLoad_30 (by decide) ?_
      refine h_sipush C 1000 dX11_isLoad_33 (by decide) ?_
      refine h_callV C m_X11_in caX11_130 kX11 (ty_44 hY) ⟨by decide, by decide, by decide, by decide⟩ rfl rfl (Nat.le_of_ble_eq_true rfl) dX11_isLoad_36 ?_
      rintro v σ' ⟨rfl, h2⟩; rw [h2]; clear h2
      show hW _ _ _ _ _ _ _ _ _ _ _ _ _ 39 [(0, .ref (ad G 44)), (1, .int pp), (2, .int qq), (3, .int mm)] [.int (inV mm (-1000) 1000)] σ 0 0
      refine h_if_eq C 46 dX11_isLoad_39 (by decide) (fun c_39 => ?_) (fun c_39 => ?_)
      · refine h_iconst C 0 dX11_isLoad_46 (by decide) ?_
        refine h_zret C rfl (by decide) (Nat.zero_le _) (Nat.zero_le _) dX11_isLoad_47 ?_
        refine ⟨vint ?_, rfl⟩
        clear C
        unfold inV at *
        unfold ldV isLd
        grind
      · refine h_iconst C 1 dX11_isLoad_42 (by decide) ?_
        refine h_goto C 47 dX11_isLoad_43 (by decide) ?_
        refine h_zret C rfl (by decide) (Nat.zero_le _) (Nat.zero_le _) dX11_isLoad_47 ?_
        refine ⟨vint ?_, rfl⟩
        clear C
        unfold inV at *
        unfold ldV isLd
        grind
set_option maxRecDepth 100000 in
set_option maxHeartbeats 4000000 in
theorem m_X11_held {G : ha_G} {l : Launch} {σ : ha_St} {pp qq mm f : Int32} (hY : LY σ) (hN : MN σ) : hM G l yX11_held cX11_held 5 (some .int) { frames := 3, cells := 0, slots := 0, locals := 79 } [.ref (ad G 44), .int pp, .int qq, .int mm, .int f] σ (fun v σ' => ∃ r, v = some (.int r) ∧ mHeldQ σ pp qq mm f r σ') := by
  refine hM_ofF [(0, .ref (ad G 44)), (1, .int pp), (2, .int qq), (3, .int mm), (4, .int f)] (by decide +kernel) (Nat.le_of_ble_eq_true rfl) rfl ?_
  intro p e s m args below meth c0 C hin
  refine h_aload_n C 0 dX11_held_0 rfl rfl ?_
  refine h_iload_n C 1 dX11_held_1 rfl rfl ?_
  refine h_iload_n C 2 dX11_held_2 rfl rfl ?_
  refine h_iload_n C 3 dX11_held_3 rfl rfl ?_
  refine h_callV C (m_X11_isLoad hY) caX11_224 kX11 (ty_44 hY) ⟨by decide, by decide, by decide, by decide⟩ rfl rfl (Nat.le_of_ble_eq_true rfl) dX11_held_4 ?_
  rintro v σ' ⟨rfl, h2⟩; rw [h2]; clear h2
  show hW _ _ _ _ _ _ _ _ _ _ _ _ _ 7 [(0, .ref (ad G 44)), (1, .int pp), (2, .int qq), (3, .int mm), (4, .int f)] [.int (ldV pp qq mm)] σ 0 0
  refine h_if_eq C 23 dX11_held_7 (by decide) (fun c_7 => ?_) (fun c_7 => ?_)
  · refine h_iconst C (-1) dX11_held_23 (by decide) ?_
    refine h_iret C rfl (Nat.zero_le _) (Nat.zero_le _) dX11_held_24 ?_
    exact ⟨_, rfl, Or.inl ⟨fun q => ldV_0 c_7 q.1, rfl, rfl⟩⟩
  · refine h_aload_n C 0 dX11_held_10 rfl rfl ?_
    refine h_iload C 4 dX11_held_11 rfl ?_
    refine h_iconst C 0 dX11_held_13 (by decide) ?_
    refine h_sipush C 200 dX11_held_14 (by decide) ?_
    refine h_callV C m_X11_in caX11_130 kX11 (ty_44 hY) ⟨by decide, by decide, by decide, by decide⟩ rfl rfl (Nat.le_of_ble_eq_true rfl) dX11_held_17 ?_
    rintro v σ' ⟨rfl, h2⟩; rw [h2]; clear h2
    show hW _ _ _ _ _ _ _ _ _ _ _ _ _ 20 [(0, .ref (ad G 44)), (1, .int pp), (2, .int qq), (3, .int mm), (4, .int f)] [.int (inV f 0 200)] σ 0 0
    refine h_if_ne C 25 dX11_held_20 (by decide) (fun c_20 => ?_) (fun c_20 => ?_)
    · refine h_aload_n C 0 dX11_held_25 rfl rfl ?_
      refine h_callV C (m_X11_prepare hY hN) caX11_227 kX11 (ty_44 hY) ⟨by decide, by decide, by decide, by decide⟩ rfl rfl (Nat.le_of_ble_eq_true rfl) dX11_held_26 ?_
      rintro v σ1 ⟨rfl, hp⟩
      have hY : LY σ1 := hp.1.LY hY
      show hW _ _ _ _ _ _ _ _ _ _ _ _ _ 29 [(0, .ref (ad G 44)), (1, .int pp), (2, .int qq), (3, .int mm), (4, .int f)] [] σ1 0 0
      refine h_aload_n C 0 dX11_held_29 rfl rfl ?_
      refine h_iload_n C 1 dX11_held_30 rfl rfl ?_
      refine h_iload_n C 2 dX11_held_31 rfl rfl ?_
      refine h_iload_n C 3 dX11_held_32 rfl rfl ?_
      refine h_iload C 4 dX11_held_33 rfl ?_
      refine h_callV C (m_X11_isHeld hY hp.2.1.b.1 hp.2.1.b.2 hp.2.2.2.2.1.1 hp.2.2.2.2.1.2) caX11_230 kX11 (ty_44 hY) ⟨by decide, by decide, by decide, by decide⟩ rfl rfl (Nat.le_of_ble_eq_true rfl) dX11_held_35 ?_
      rintro v σ2 ⟨⟨r, rfl, hr⟩, hk⟩
      show hW _ _ _ _ _ _ _ _ _ _ _ _ _ 38 [(0, .ref (ad G 44)), (1, .int pp), (2, .int qq), (3, .int mm), (4, .int f)] [.int r] σ2 0 0
      refine h_if_eq C 45 dX11_held_38 (by decide) (fun c_38 => ?_) (fun c_38 => ?_)
      · refine h_iconst C 0 dX11_held_45 (by decide) ?_
        refine h_iret C rfl (Nat.zero_le _) (Nat.zero_le _) dX11_held_46 ?_
        have e : r = 0 := c_38
        subst e
        exact ⟨_, rfl, Or.inr ⟨⟨ldV_1 c_7, inV_1 c_20⟩, hp.1.tr hk.J, σ1, hp, hr⟩⟩
      · refine h_iconst C 1 dX11_held_41 (by decide) ?_
        refine h_goto C 46 dX11_held_42 (by decide) ?_
        refine h_iret C rfl (Nat.zero_le _) (Nat.zero_le _) dX11_held_46 ?_
        have e : r = 1 := (isB01 hr).resolve_left c_38
        subst e
        exact ⟨_, rfl, Or.inr ⟨⟨ldV_1 c_7, inV_1 c_20⟩, hp.1.tr hk.J, σ1, hp, hr⟩⟩
    · refine h_iconst C (-1) dX11_held_23 (by decide) ?_
      refine h_iret C rfl (Nat.zero_le _) (Nat.zero_le _) dX11_held_24 ?_
      exact ⟨_, rfl, Or.inl ⟨fun q => inV_0 c_20 q.2, rfl, rfl⟩⟩
set_option maxRecDepth 100000 in
set_option maxHeartbeats 4000000 in
theorem m_X11_load {G : ha_G} {l : Launch} {σ : ha_St} {pp qq mm : Int32} (hY : LY σ) (hl0 : 0 ≤ gI σ 44 17) (hl1 : gI σ 44 17 ≤ 16) : hM G l yX11_load cX11_load 4 (some .int) { frames := 2, cells := 0, slots := 0, locals := 46 } [.ref (ad G 44), .int pp, .int qq, .int mm] σ (fun v σ' => ∃ r, v = some (.int r) ∧ mLoadQ σ pp qq mm r σ') := by
  refine hM_ofF [(0, .ref (ad G 44)), (1, .int pp), (2, .int qq), (3, .int mm)] (by decide +kernel) (Nat.le_of_ble_eq_true rfl) rfl ?_
  intro p e s m args below meth c0 C hin
  refine h_aload_n C 0 dX11_load_0 rfl rfl ?_
  refine h_iload_n C 1 dX11_load_1 rfl rfl ?_
  refine h_iload_n C 2 dX11_load_2 rfl rfl ?_
  refine h_iload_n C 3 dX11_load_3 rfl rfl ?_
  refine h_callV C (m_X11_isLoad hY) caX11_224 kX11 (ty_44 hY) ⟨by decide, by decide, by decide, by decide⟩ rfl rfl (Nat.le_of_ble_eq_true rfl) dX11_load_4 ?_
  rintro v σ' ⟨rfl, h2⟩; rw [h2]; clear h2
  show hW _ _ _ _ _ _ _ _ _ _ _ _ _ 7 [(0, .ref (ad G 44)), (1, .int pp), (2, .int qq), (3, .int mm)] [.int (ldV pp qq mm)] σ 0 0
  refine h_if_ne C 12 dX11_load_7 (by decide) (fun c_7 => ?_) (fun c_7 => ?_)
  · refine h_aload_n C 0 dX11_load_12 rfl rfl ?_
    refine gfX11_63 C (ty_44 hY) dX11_load_13 ?_
    refine h_bipush C 16 dX11_load_16 (by decide) ?_
    refine h_icmp_ne C 24 dX11_load_18 (by decide) (fun c_18 => ?_) (fun c_18 => ?_)
    · have hnb : 0 ≤ gI σ 44 17 ∧ gI σ 44 17 < 16 := ⟨hl0, by have h1 := hl1; have h2 := c_18; clear C; grind⟩
      refine h_aload_n C 0 dX11_load_24 rfl rfl ?_
      refine gfX11_66 C (ty_44 hY) dX11_load_25 ?_
      refine h_tref (b := 57) (rf_44_18 hY) ?_
      refine h_iconst C 3 dX11_load_28 (by decide) ?_
      refine h_aload_n C 0 dX11_load_29 rfl rfl ?_
      refine gfX11_63 C (ty_44 hY) dX11_load_30 ?_
      refine h_imul C dX11_load_33 ?_
      refine h_iload_n C 1 dX11_load_34 rfl rfl ?_
      refine h_iast C _ (ty_57 hY) (t16 hnb.1 hnb.2).1 dX11_load_35 rfl ?_
      refine h_aload_n C 0 dX11_load_36 rfl rfl ?_
      refine gfX11_66 C (ty_44 hY) dX11_load_37 ?_
      refine h_tref (b := 57) (rf_44_18 hY) ?_
      refine h_iconst C 3 dX11_load_40 (by decide) ?_
      refine h_aload_n C 0 dX11_load_41 rfl rfl ?_
      refine gfX11_63 C (ty_44 hY) dX11_load_42 ?_
      show hW _ _ _ _ _ _ _ _ _ _ _ _ _ 45 [(0, .ref (ad G 44)), (1, .int pp), (2, .int qq), (3, .int mm)] [.int (gI σ 44 17), .int 3, .ref (ad G 57)] (sI σ 57 (3 * (gI σ 44 17)).toNatClampNeg pp) 0 0
      refine h_imul C dX11_load_45 ?_
      refine h_iconst C 1 dX11_load_46 (by decide) ?_
      refine h_iadd C dX11_load_47 ?_
      refine h_iload_n C 2 dX11_load_48 rfl rfl ?_
      refine h_iast C _ (ty_57 hY) (t16 hnb.1 hnb.2).2.1 dX11_load_49 rfl ?_
      refine h_aload_n C 0 dX11_load_50 rfl rfl ?_
      refine gfX11_66 C (ty_44 hY) dX11_load_51 ?_
      refine h_tref (b := 57) (rf_44_18 hY) ?_
      refine h_iconst C 3 dX11_load_54 (by decide) ?_
      refine h_aload_n C 0 dX11_load_55 rfl rfl ?_
      refine gfX11_63 C (ty_44 hY) dX11_load_56 ?_
      show hW _ _ _ _ _ _ _ _ _ _ _ _ _ 59 [(0, .ref (ad G 44)), (1, .int pp), (2, .int qq), (3, .int mm)] [.int (gI σ 44 17), .int 3, .ref (ad G 57)] (sI (sI σ 57 (3 * (gI σ 44 17)).toNatClampNeg pp) 57 ((3 * (gI σ 44 17)) + 1).toNatClampNeg qq) 0 0
      refine h_imul C dX11_load_59 ?_
      refine h_iconst C 2 dX11_load_60 (by decide) ?_
      refine h_iadd C dX11_load_61 ?_
      refine h_iload_n C 3 dX11_load_62 rfl rfl ?_
      refine h_iast C _ (ty_57 hY) (t16 hnb.1 hnb.2).2.2 dX11_load_63 rfl ?_
      refine h_aload_n C 0 dX11_load_64 rfl rfl ?_
      refine h_dup C dX11_load_65 rfl ?_
      refine gfX11_63 C (ty_44 hY) dX11_load_66 ?_
      show hW _ _ _ _ _ _ _ _ _ _ _ _ _ 69 [(0, .ref (ad G 44)), (1, .int pp), (2, .int qq), (3, .int mm)] [.int (gI σ 44 17), .ref (ad G 44)] (sI (sI (sI σ 57 (3 * (gI σ 44 17)).toNatClampNeg pp) 57 ((3 * (gI σ 44 17)) + 1).toNatClampNeg qq) 57 ((3 * (gI σ 44 17)) + 2).toNatClampNeg mm) 0 0
      refine h_iconst C 1 dX11_load_69 (by decide) ?_
      refine h_iadd C dX11_load_70 ?_
      refine pfX11_63 C (ty_44 hY) dX11_load_71 ?_
      refine h_aload_n C 0 dX11_load_74 rfl rfl ?_
      refine gfX11_63 C (ty_44 hY) dX11_load_75 ?_
      show hW _ _ _ _ _ _ _ _ _ _ _ _ _ 78 [(0, .ref (ad G 44)), (1, .int pp), (2, .int qq), (3, .int mm)] [.int ((gI σ 44 17) + 1)] (sI (sI (sI (sI σ 57 (3 * (gI σ 44 17)).toNatClampNeg pp) 57 ((3 * (gI σ 44 17)) + 1).toNatClampNeg qq) 57 ((3 * (gI σ 44 17)) + 2).toNatClampNeg mm) 44 17 ((gI σ 44 17) + 1)) 0 0
      refine h_iconst C 1 dX11_load_78 (by decide) ?_
      refine h_isub C dX11_load_79 ?_
      refine h_iret C rfl (Nat.zero_le _) (Nat.zero_le _) dX11_load_80 ?_
      refine ⟨_, rfl, Or.inr (Or.inr ⟨ldV_1 c_7, c_18, ?_, rfl⟩)⟩
      clear C
      grind
    · refine h_bipush C (-2) dX11_load_21 (by decide) ?_
      refine h_iret C rfl (Nat.zero_le _) (Nat.zero_le _) dX11_load_23 ?_
      exact ⟨_, rfl, Or.inr (Or.inl ⟨ldV_1 c_7, c_18, rfl, rfl⟩)⟩
  · refine h_iconst C (-1) dX11_load_10 (by decide) ?_
    refine h_iret C rfl (Nat.zero_le _) (Nat.zero_le _) dX11_load_11 ?_
    exact ⟨_, rfl, Or.inl ⟨ldV_0 c_7, rfl, rfl⟩⟩
set_option maxRecDepth 100000 in
set_option maxHeartbeats 4000000 in
theorem m_X11_unload {G : ha_G} {l : Launch} {σ : ha_St} (hY : LY σ) : hM G l yX11_unload cX11_unload 2 (some .int) { frames := 0, cells := 0, slots := 0, locals := 0 } [.ref (ad G 44)] σ (fun v σ' => v = some (.int (gI σ 44 17)) ∧ σ' = sI σ 44 17 0) := by
  refine hM_ofF [(0, .ref (ad G 44))] (by decide +kernel) (Nat.le_of_ble_eq_true rfl) rfl ?_
  intro p e s m args below meth c0 C hin
  refine h_aload_n C 0 dX11_unload_0 rfl rfl ?_
  refine gfX11_63 C (ty_44 hY) dX11_unload_1 ?_
  refine h_istore_n C [(1, .int (gI σ 44 17)), (0, .ref (ad G 44))] dX11_unload_4 rfl (by decide) rfl ?_
  refine h_aload_n C 1 dX11_unload_5 rfl rfl ?_
  refine h_iconst C 0 dX11_unload_6 (by decide) ?_
  refine pfX11_63 C (ty_44 hY) dX11_unload_7 ?_
  refine h_iload_n C 0 dX11_unload_10 rfl rfl ?_
  refine h_iret C rfl (Nat.zero_le _) (Nat.zero_le _) dX11_unload_11 ?_
  exact ⟨rfl, rfl⟩
set_option maxRecDepth 100000 in
set_option maxHeartbeats 4000000 in
theorem m_X11_heldLoads {G : ha_G} {l : Launch} {σ : ha_St} {f : Int32} (hY : LY σ) (hm0 : 0 ≤ gI σ 44 9) (hm1 : gI σ 44 9 ≤ 30) (hF0 : 0 ≤ gI σ 44 13) (hF1 : gI σ 44 13 ≤ 900) (hl0 : 0 ≤ gI σ 44 17) (hl1 : gI σ 44 17 ≤ 16) : hM G l yX11_heldLoads cX11_heldLoads 4 (some .int) { frames := 3, cells := 0, slots := 0, locals := 75 } [.ref (ad G 44), .int f] σ (fun v σ' => ∃ r, v = some (.int r) ∧ bitsP (mHL σ f) (gI σ 44 17).toNatClampNeg r ∧ frK σ σ') := by
  have hY0 := hY
  refine hM_ofF [(0, .ref (ad G 44)), (1, .int f)] (by decide +kernel) (Nat.le_of_ble_eq_true rfl) rfl ?_
  intro p e s m args below meth c0 C hin
  refine h_iconst C 0 dX11_heldLoads_0 (by decide) ?_
  refine h_istore_n C [(2, .int 0), (0, .ref (ad G 44)), (1, .int f)] dX11_heldLoads_1 rfl (by decide) rfl ?_
  refine h_iconst C 0 dX11_heldLoads_2 (by decide) ?_
  refine h_istore_n C [(3, .int 0), (2, .int 0), (0, .ref (ad G 44)), (1, .int f)] dX11_heldLoads_3 rfl (by decide) rfl ?_
  refine h_sub [2, 3, 1, 0] rfl ?_
  refine h_loop (α := Int32 × Int32 × ha_St) (fun (b, l, σ2) => 0 ≤ l ∧ l ≤ gI σ 44 17 ∧ frK σ σ2 ∧ bitsP (mHL σ f) l.toNatClampNeg b) (fun (b, l, σ2) => tm (gI σ 44 17) l) (fun (b, l, σ2) => [(0, .ref (ad G 44)), (1, .int f), (2, .int b), (3, .int l)]) (fun (b, l, σ2) => []) (fun (b, l, σ2) => σ2) (fun (b, l, σ2) => 0) (fun (b, l, σ2) => 0) ?_ (0, 0, σ) ?_
  · rintro ⟨b, l, σ2⟩ hI ih
    show hW _ _ _ _ _ _ _ _ _ _ _ _ _ 4 [(0, .ref (ad G 44)), (1, .int f), (2, .int b), (3, .int l)] [] σ2 0 0
    have hY : LY σ2 := hI.2.2.1.LY hY0
    have h44 : gI σ2 44 = gI σ 44 := frK_44 hI.2.2.1
    refine h_iload_n C 3 dX11_heldLoads_4 rfl rfl ?_
    refine h_aload_n C 0 dX11_heldLoads_5 rfl rfl ?_
    refine gfX11_63 C (ty_44 hY) dX11_heldLoads_6 ?_
    refine h_icmp_ge C 64 dX11_heldLoads_9 (by decide) (fun c_9 => ?_) (fun c_9 => ?_)
    · refine h_iload_n C 2 dX11_heldLoads_64 rfl rfl ?_
      refine h_iret C rfl (Nat.zero_le _) (Nat.zero_le _) dX11_heldLoads_65 ?_
      have he := eq_end hI.2.1 (by rw [← h44]; exact Int32.not_lt.mpr c_9)
      have hq := hI.2.2.2
      rw [he] at hq
      exact ⟨_, rfl, hq, hI.2.2.1⟩
    · have hll : l < gI σ 44 17 := by rw [← h44]; exact Int32.not_le.mp c_9
      have hlb : 0 ≤ l ∧ l < 16 := ⟨hI.1, Int32.lt_of_lt_of_le hll hl1⟩
      refine h_join (α := Int32 × ha_St) 56 (fun (t, σ3) => frK σ σ3 ∧ ((mHL σ f l.toNatClampNeg ∧ t = 1 <<< (l &&& 31)) ∨ (¬ mHL σ f l.toNatClampNeg ∧ t = 0))) (fun (t, σ3) => [(0, .ref (ad G 44)), (1, .int f), (3, .int l)]) (fun (t, σ3) => [.int t, .int b]) (fun (t, σ3) => σ3) (fun (t, σ3) => 0) (fun (t, σ3) => 0) ?_ (fun J_1 => ?_)
      · rintro ⟨t, σ3⟩ hJ
        show hW _ _ _ _ _ _ _ _ _ _ _ _ _ 56 [(0, .ref (ad G 44)), (1, .int f), (3, .int l)] [.int t, .int b] σ3 0 0
        refine h_ior C dX11_heldLoads_56 ?_
        refine h_istore_n C [(2, .int (b ||| t)), (0, .ref (ad G 44)), (1, .int f), (3, .int l)] dX11_heldLoads_57 rfl (by decide) rfl ?_
        refine h_iinc C [(3, .int (l + 1)), (2, .int (b ||| t)), (0, .ref (ad G 44)), (1, .int f)] 3 (l + 1) dX11_heldLoads_58 rfl rfl (by decide) rfl ?_
        refine h_goto C 4 dX11_heldLoads_61 (by decide) ?_
        refine h_sub [2, 3, 1, 0] rfl ?_
        refine ih ((b ||| t), (l + 1), σ3) ?_ ?_
        · refine ⟨(le_succ hI.1 hll).1, (le_succ hI.1 hll).2, hJ.1, ?_⟩
          rw [tn_succ hI.1 hll]
          refine ⟨b, hI.2.2.2, ?_⟩
          rcases hJ.2 with ⟨a, e⟩ | ⟨a, e⟩
          · exact Or.inl ⟨a, by rw [e, nI_tn hI.1]⟩
          · exact Or.inr ⟨a, by rw [e]; exact Int32.or_zero⟩
        · exact tm_lt hll
      · refine h_iload_n C 2 dX11_heldLoads_12 rfl rfl ?_
        refine h_aload_n C 0 dX11_heldLoads_13 rfl rfl ?_
        refine h_aload_n C 0 dX11_heldLoads_14 rfl rfl ?_
        refine gfX11_66 C (ty_44 hY) dX11_heldLoads_15 ?_
        refine h_tref (b := 57) (rf_44_18 hY) ?_
        refine h_iconst C 3 dX11_heldLoads_18 (by decide) ?_
        refine h_iload_n C 3 dX11_heldLoads_19 rfl rfl ?_
        refine h_imul C dX11_heldLoads_20 ?_
        refine h_iald C (ty_57 hY) (t16 hlb.1 hlb.2).1 dX11_heldLoads_21 ?_
        refine h_aload_n C 0 dX11_heldLoads_22 rfl rfl ?_
        refine gfX11_66 C (ty_44 hY) dX11_heldLoads_23 ?_
        refine h_tref (b := 57) (rf_44_18 hY) ?_
        refine h_iconst C 3 dX11_heldLoads_26 (by decide) ?_
        refine h_iload_n C 3 dX11_heldLoads_27 rfl rfl ?_
        refine h_imul C dX11_heldLoads_28 ?_
        refine h_iconst C 1 dX11_heldLoads_29 (by decide) ?_
        refine h_iadd C dX11_heldLoads_30 ?_
        refine h_iald C (ty_57 hY) (t16 hlb.1 hlb.2).2.1 dX11_heldLoads_31 ?_
        refine h_aload_n C 0 dX11_heldLoads_32 rfl rfl ?_
        refine gfX11_66 C (ty_44 hY) dX11_heldLoads_33 ?_
        refine h_tref (b := 57) (rf_44_18 hY) ?_
        refine h_iconst C 3 dX11_heldLoads_36 (by decide) ?_
        refine h_iload_n C 3 dX11_heldLoads_37 rfl rfl ?_
        refine h_imul C dX11_heldLoads_38 ?_
        refine h_iconst C 2 dX11_heldLoads_39 (by decide) ?_
        refine h_iadd C dX11_heldLoads_40 ?_
        refine h_iald C (ty_57 hY) (t16 hlb.1 hlb.2).2.2 dX11_heldLoads_41 ?_
        refine h_iload_n C 1 dX11_heldLoads_42 rfl rfl ?_
        refine h_callV C (m_X11_isHeld hY (by rw [h44]; exact hm0) (by rw [h44]; exact hm1) (by rw [h44]; exact hF0) (by rw [h44]; exact hF1)) caX11_230 kX11 (ty_44 hY) ⟨by decide, by decide, by decide, by decide⟩ rfl rfl (Nat.le_of_ble_eq_true rfl) dX11_heldLoads_43 ?_
        rintro v σ4 ⟨⟨r, rfl, hr⟩, hk3⟩
        have hn := t900_n hlb.1 (Int32.lt_of_lt_of_le hlb.2 (by decide))
        rw [hn.1, hn.2.1, hn.2.2] at hr
        have hr : isB r (mHL σ2 f l.toNatClampNeg) := hr
        rw [frK_HL hI.2.2.1] at hr
        show hW _ _ _ _ _ _ _ _ _ _ _ _ _ 46 [(0, .ref (ad G 44)), (1, .int f), (2, .int b), (3, .int l)] [.int r, .int b] σ4 0 0
        refine h_if_eq C 55 dX11_heldLoads_46 (by decide) (fun c_46 => ?_) (fun c_46 => ?_)
        · refine h_iconst C 0 dX11_heldLoads_55 (by decide) ?_
          refine h_sub [0, 1, 3] rfl ?_
          refine J_1 (0, σ4) ?_
          exact ⟨hI.2.2.1.tr hk3, Or.inr ⟨isB_0 hr c_46, rfl⟩⟩
        · refine h_iconst C 1 dX11_heldLoads_49 (by decide) ?_
          refine h_iload_n C 3 dX11_heldLoads_50 rfl rfl ?_
          refine h_ishl C dX11_heldLoads_51 ?_
          refine h_goto C 56 dX11_heldLoads_52 (by decide) ?_
          refine h_sub [0, 1, 3] rfl ?_
          refine J_1 ((1 <<< (l &&& 31)), σ4) ?_
          exact ⟨hI.2.2.1.tr hk3, Or.inl ⟨isB_1 hr c_46, rfl⟩⟩
  · exact ⟨by decide, hl0, frK.rf, by rw [tn_0]; rfl⟩
set_option maxRecDepth 100000 in
set_option maxHeartbeats 4000000 in
theorem m_X11_loads {G : ha_G} {l : Launch} {σ : ha_St} {f : Int32} (hY : LY σ) (hN : MN σ) (hl0 : 0 ≤ gI σ 44 17) (hl1 : gI σ 44 17 ≤ 16) : hM G l yX11_loads cX11_loads 2 (some .int) { frames := 4, cells := 0, slots := 0, locals := 98 } [.ref (ad G 44), .int f] σ (fun v σ' => ∃ r, v = some (.int r) ∧ mLoadsQ σ f r σ') := by
  refine hM_ofF [(0, .ref (ad G 44)), (1, .int f)] (by decide +kernel) (Nat.le_of_ble_eq_true rfl) rfl ?_
  intro p e s m args below meth c0 C hin
  refine h_aload_n C 0 dX11_loads_0 rfl rfl ?_
  refine h_iload_n C 1 dX11_loads_1 rfl rfl ?_
  refine h_iconst C 0 dX11_loads_2 (by decide) ?_
  refine h_sipush C 200 dX11_loads_3 (by decide) ?_
  refine h_callV C m_X11_in caX11_130 kX11 (ty_44 hY) ⟨by decide, by decide, by decide, by decide⟩ rfl rfl (Nat.le_of_ble_eq_true rfl) dX11_loads_6 ?_
  rintro v σ' ⟨rfl, h2⟩; rw [h2]; clear h2
  show hW _ _ _ _ _ _ _ _ _ _ _ _ _ 9 [(0, .ref (ad G 44)), (1, .int f)] [.int (inV f 0 200)] σ 0 0
  refine h_if_ne C 14 dX11_loads_9 (by decide) (fun c_9 => ?_) (fun c_9 => ?_)
  · refine h_aload_n C 0 dX11_loads_14 rfl rfl ?_
    refine h_callV C (m_X11_prepare hY hN) caX11_227 kX11 (ty_44 hY) ⟨by decide, by decide, by decide, by decide⟩ rfl rfl (Nat.le_of_ble_eq_true rfl) dX11_loads_15 ?_
    rintro v σ1 ⟨rfl, hp⟩
    have hY : LY σ1 := hp.1.LY hY
    show hW _ _ _ _ _ _ _ _ _ _ _ _ _ 18 [(0, .ref (ad G 44)), (1, .int f)] [] σ1 0 0
    refine h_aload_n C 0 dX11_loads_18 rfl rfl ?_
    refine h_iload_n C 1 dX11_loads_19 rfl rfl ?_
    refine h_callV C (m_X11_heldLoads hY hp.2.1.b.1 hp.2.1.b.2 hp.2.2.2.2.1.1 hp.2.2.2.2.1.2 (by rw [frJ_17 hp.1]; exact hl0) (by rw [frJ_17 hp.1]; exact hl1)) caX11_234 kX11 (ty_44 hY) ⟨by decide, by decide, by decide, by decide⟩ rfl rfl (Nat.le_of_ble_eq_true rfl) dX11_loads_20 ?_
    rintro v σ2 ⟨r, rfl, hr, hk⟩
    show hW _ _ _ _ _ _ _ _ _ _ _ _ _ 23 [(0, .ref (ad G 44)), (1, .int f)] [.int r] σ2 0 0
    refine h_iret C rfl (Nat.zero_le _) (Nat.zero_le _) dX11_loads_23 ?_
    exact ⟨_, rfl, Or.inr ⟨inV_1 c_9, hp.1.tr hk.J, σ1, hp, hr⟩⟩
  · refine h_iconst C (-1) dX11_loads_12 (by decide) ?_
    refine h_iret C rfl (Nat.zero_le _) (Nat.zero_le _) dX11_loads_13 ?_
    exact ⟨_, rfl, Or.inl ⟨inV_0 c_9, rfl, rfl⟩⟩
set_option maxRecDepth 100000 in
set_option maxHeartbeats 4000000 in
theorem m_X11_pull {G : ha_G} {l : Launch} {σ : ha_St} (hY : LY σ) (hN : MN σ) (hl0 : 0 ≤ gI σ 44 17) (hl1 : gI σ 44 17 ≤ 16) : hM G l yX11_pull cX11_pull 2 (some .int) { frames := 4, cells := 0, slots := 0, locals := 98 } [.ref (ad G 44)] σ (fun v σ' => ∃ r, v = some (.int r) ∧ mPullQ σ r σ') := by
  refine hM_ofF [(0, .ref (ad G 44))] (by decide +kernel) (Nat.le_of_ble_eq_true rfl) rfl ?_
  intro p e s m args below meth c0 C hin
  refine h_aload_n C 0 dX11_pull_0 rfl rfl ?_
  refine h_callV C (m_X11_prepare hY hN) caX11_227 kX11 (ty_44 hY) ⟨by decide, by decide, by decide, by decide⟩ rfl rfl (Nat.le_of_ble_eq_true rfl) dX11_pull_1 ?_
  rintro v σ1 ⟨rfl, hp⟩
  have hY1 : LY σ1 := hp.1.LY hY
  show hW _ _ _ _ _ _ _ _ _ _ _ _ _ 4 [(0, .ref (ad G 44))] [] σ1 0 0
  refine h_iconst C 0 dX11_pull_4 (by decide) ?_
  refine h_istore_n C [(1, .int 0), (0, .ref (ad G 44))] dX11_pull_5 rfl (by decide) rfl ?_
  refine h_sub [1, 0] rfl ?_
  refine h_loop (α := Int32 × ha_St) (fun (f, σ2) => 0 ≤ f ∧ f ≤ 201 ∧ frK σ1 σ2 ∧ ∀ g, 0 ≤ g → g < f → ¬ alH σ1 g) (fun (f, σ2) => tm 201 f) (fun (f, σ2) => [(0, .ref (ad G 44)), (1, .int f)]) (fun (f, σ2) => []) (fun (f, σ2) => σ2) (fun (f, σ2) => 0) (fun (f, σ2) => 0) ?_ (0, σ1) ?_
  · rintro ⟨f, σ2⟩ hI ih
    show hW _ _ _ _ _ _ _ _ _ _ _ _ _ 6 [(0, .ref (ad G 44)), (1, .int f)] [] σ2 0 0
    have hY : LY σ2 := hI.2.2.1.LY hY1
    have h44 : gI σ2 44 = gI σ1 44 := frK_44 hI.2.2.1
    refine h_iload_n C 1 dX11_pull_6 rfl rfl ?_
    refine h_sipush C 200 dX11_pull_7 (by decide) ?_
    refine h_icmp_gt C 37 dX11_pull_10 (by decide) (fun c_10 => ?_) (fun c_10 => ?_)
    · refine h_bipush C (-4) dX11_pull_37 (by decide) ?_
      refine h_iret C rfl (Nat.zero_le _) (Nat.zero_le _) dX11_pull_39 ?_
      exact ⟨_, rfl, hp.1.tr hI.2.2.1.J, σ1, hp, Or.inr ⟨rfl, fun g h0 h1 => hI.2.2.2 g h0 (by have h2 := c_10; clear C; grind)⟩⟩
    · have hfl : f < 201 := by have h1 := c_10; clear C; grind
      refine h_aload_n C 0 dX11_pull_13 rfl rfl ?_
      refine h_iload_n C 1 dX11_pull_14 rfl rfl ?_
      refine h_callV C (m_X11_heldLoads hY (by rw [h44]; exact hp.2.1.b.1) (by rw [h44]; exact hp.2.1.b.2) (by rw [h44]; exact hp.2.2.2.2.1.1) (by rw [h44]; exact hp.2.2.2.2.1.2) (by rw [h44, frJ_17 hp.1]; exact hl0) (by rw [h44, frJ_17 hp.1]; exact hl1)) caX11_234 kX11 (ty_44 hY) ⟨by decide, by decide, by decide, by decide⟩ rfl rfl (Nat.le_of_ble_eq_true rfl) dX11_pull_15 ?_
      rintro v σ3 ⟨r, rfl, hr, hk⟩
      rw [frK_HL hI.2.2.1, h44] at hr
      have hY : LY σ3 := hk.LY hY
      have h44' : gI σ3 44 = gI σ1 44 := (frK_44 hk).trans h44
      show hW _ _ _ _ _ _ _ _ _ _ _ _ _ 18 [(0, .ref (ad G 44)), (1, .int f)] [.int r] σ3 0 0
      refine h_iconst C 1 dX11_pull_18 (by decide) ?_
      refine h_aload_n C 0 dX11_pull_19 rfl rfl ?_
      refine gfX11_63 C (ty_44 hY) dX11_pull_20 ?_
      refine h_ishl C dX11_pull_23 ?_
      refine h_iconst C 1 dX11_pull_24 (by decide) ?_
      refine h_isub C dX11_pull_25 ?_
      refine h_icmp_ne C 31 dX11_pull_26 (by decide) (fun c_26 => ?_) (fun c_26 => ?_)
      · refine h_iinc C [(1, .int (f + 1)), (0, .ref (ad G 44))] 1 (f + 1) dX11_pull_31 rfl rfl (by decide) rfl ?_
        refine h_goto C 6 dX11_pull_34 (by decide) ?_
        refine h_sub [1, 0] rfl ?_
        refine ih ((f + 1), σ3) ?_ ?_
        · refine ⟨(le_succ hI.1 hfl).1, (le_succ hI.1 hfl).2, hI.2.2.1.tr hk, fun g h0 h1 => ?_⟩
          by_cases e : g = f
          · subst e
            intro q
            refine c_26 ?_
            rw [h44']
            exact bitsP_det hr q
          · exact hI.2.2.2 g h0 (by clear C; grind)
        · exact tm_lt hfl
      · refine h_iload_n C 1 dX11_pull_29 rfl rfl ?_
        refine h_iret C rfl (Nat.zero_le _) (Nat.zero_le _) dX11_pull_30 ?_
        have hr2 : alH σ1 f := by
          have h1 := c_26
          rw [h44'] at h1
          rw [h1] at hr
          exact hr
        exact ⟨_, rfl, hp.1.tr (hI.2.2.1.tr hk).J, σ1, hp, Or.inl ⟨hI.1, by have h1 := hfl; clear C; grind, hr2, hI.2.2.2⟩⟩
  · exact ⟨by decide, by decide, frK.rf, fun g h0 h1 => by grind⟩
