/-! ===== the reference: shelves ===== -/
theorem t480 {d i : Int32} (h0 : 0 ≤ d) (h1 : d < 8) (g0 : 0 ≤ i) (g1 : i < 60) : vp_in (60 * d + i) 480 ∧ (60 * d + i).toNatClampNeg = 60 * d.toNatClampNeg + i.toNatClampNeg := by
  have a0 := Int32.le_iff_toInt_le.mp h0
  have a1 := Int32.lt_iff_toInt_lt.mp h1
  have b0 := Int32.le_iff_toInt_le.mp g0
  have b1 := Int32.lt_iff_toInt_lt.mp g1
  rw [Int32.toInt_zero] at a0 b0
  rw [show (8 : Int32).toInt = 8 by decide] at a1
  rw [show (60 : Int32).toInt = 60 by decide] at b1
  have e : (60 * d + i).toInt = 60 * d.toInt + i.toInt := by
    rw [Int32.toInt_add, Int32.toInt_mul, show (60 : Int32).toInt = 60 by decide, Int.bmod_eq_of_le (n := 60 * d.toInt) (by omega) (by omega), Int.bmod_eq_of_le (by omega) (by omega)]
  refine ⟨by rw [vp_in_iff, e]; omega, ?_⟩
  unfold Int32.toNatClampNeg
  rw [e]
  omega
/-- a stretch of an array of whole numbers written -/
def rgA (σ : ha_St) (a b n : Nat) (f : Nat → Int32) : ha_St := (fun x y => if x = a ∧ b ≤ y ∧ y < b + n then f (y - b) else σ.1 x y, σ.2)
theorem gI_rgA {σ : ha_St} {a b n : Nat} {f : Nat → Int32} (x y : Nat) : gI (rgA σ a b n f) x y = if x = a ∧ b ≤ y ∧ y < b + n then f (y - b) else gI σ x y := rfl
theorem gI_rgN {σ : ha_St} {a b n : Nat} {f : Nat → Int32} {x : Nat} (h : x ≠ a) : gI (rgA σ a b n f) x = gI σ x := by
  funext y
  rw [gI_rgA, if_neg (fun q => h q.1)]
theorem rgA_0 {σ : ha_St} {a b : Nat} {f : Nat → Int32} : rgA σ a b 0 f = σ := by
  refine Prod.ext (funext fun x => funext fun y => ?_) rfl
  show (if x = a ∧ b ≤ y ∧ y < b + 0 then _ else _) = _
  rw [if_neg (by omega)]
theorem rgA_s {σ : ha_St} {a b n : Nat} {f : Nat → Int32} {v : Int32} (h : v = f n) : sI (rgA σ a b n f) a (b + n) v = rgA σ a b (n + 1) f := by
  refine Prod.ext (funext fun x => funext fun y => ?_) rfl
  show (if x = a ∧ y = b + n then v else if x = a ∧ b ≤ y ∧ y < b + n then f (y - b) else _) = (if x = a ∧ b ≤ y ∧ y < b + (n + 1) then f (y - b) else _)
  by_cases hx : x = a
  · by_cases hy : y = b + n
    · rw [if_pos ⟨hx, hy⟩, if_pos (by omega), hy, h, Nat.add_sub_cancel_left]
    · rw [if_neg (fun q => hy q.2)]
      by_cases hz : b ≤ y ∧ y < b + n
      · rw [if_pos ⟨hx, hz⟩, if_pos (by omega)]
      · rw [if_neg (fun q => hz q.2), if_neg (by omega)]
  · rw [if_neg (fun q => hx q.1), if_neg (fun q => hx q.1), if_neg (fun q => hx q.1)]
theorem rgA_c {σ : ha_St} {a b n : Nat} {f g : Nat → Int32} (h : ∀ k, k < n → f k = g k) : rgA σ a b n f = rgA σ a b n g := by
  refine Prod.ext (funext fun x => funext fun y => ?_) rfl
  show (if x = a ∧ b ≤ y ∧ y < b + n then f (y - b) else _) = (if x = a ∧ b ≤ y ∧ y < b + n then g (y - b) else _)
  by_cases q : x = a ∧ b ≤ y ∧ y < b + n
  · rw [if_pos q, if_pos q, h _ (by omega)]
  · rw [if_neg q, if_neg q]
theorem rgA_Y {σ : ha_St} {a b n : Nat} {f : Nat → Int32} (hY : LY σ) : LY (rgA σ a b n f) := hY.same rfl rfl rfl
def shOK (d : Int32) : Prop := 0 ≤ d ∧ d ≤ 7
theorem shOK.v {d : Int32} (h : shOK d) : vp_in d 8 := vp32 (N := 8) h.1 (by have := h.2; grind) (by decide)
theorem shOK.l {d : Int32} (h : shOK d) : d < 8 := by have := h.2; grind
def wpF (σ : ha_St) (d : Int32) : ha_St := rgA σ 71 (60 * d.toNatClampNeg) 60 (fun _ => 0)
def SZ (σ : ha_St) : Prop := ∀ d, shOK d → 0 ≤ gI σ 70 d.toNatClampNeg ∧ gI σ 70 d.toNatClampNeg ≤ 60
set_option maxRecDepth 100000 in
set_option maxHeartbeats 4000000 in
theorem m_X11_isShelf {G : ha_G} {l : Launch} {σ : ha_St} {d : Int32} (hY : LY σ) : hM G l yX11_isShelf cX11_isShelf 2 (some .boolean) { frames := 1, cells := 0, slots := 0, locals := 23 } [.ref (ad G 44), .int d] σ (fun v σ' => v = some (.int (inV d 0 7)) ∧ σ' = σ) := by
  refine hM_ofF [(0, .ref (ad G 44)), (1, .int d)] (by decide +kernel) (Nat.le_of_ble_eq_true rfl) rfl ?_
  intro p e s m args below meth c0 C hin
  refine h_aload_n C 0 dX11_isShelf_0 rfl rfl ?_
  refine h_iload_n C 1 dX11_isShelf_1 rfl rfl ?_
  refine h_iconst C 0 dX11_isShelf_2 (by decide) ?_
  refine h_bipush C 7 dX11_isShelf_3 (by decide) ?_
  refine h_callV C m_X11_in caX11_130 kX11 (ty_44 hY) ⟨by decide, by decide, by decide, by decide⟩ rfl rfl (Nat.le_of_ble_eq_true rfl) dX11_isShelf_5 ?_
  rintro v σ' ⟨rfl, h2⟩; rw [h2]; clear h2
  show hW _ _ _ _ _ _ _ _ _ _ _ _ _ 8 [(0, .ref (ad G 44)), (1, .int d)] [.int (inV d 0 7)] σ 0 0
  refine h_zret C rfl (by unfold inV; split; exact Or.inr rfl; exact Or.inl rfl) (Nat.zero_le _) (Nat.zero_le _) dX11_isShelf_8 ?_
  exact ⟨rfl, rfl⟩
set_option maxRecDepth 100000 in
set_option maxHeartbeats 4000000 in
theorem m_X11_wipe {G : ha_G} {l : Launch} {σ : ha_St} {d : Int32} (hY : LY σ) (hd : shOK d) : hM G l yX11_wipe cX11_wipe 3 none { frames := 0, cells := 0, slots := 0, locals := 0 } [.ref (ad G 44), .int d] σ (fun v σ' => v = none ∧ σ' = wpF σ d) := by
  refine hM_ofF [(0, .ref (ad G 44)), (1, .int d)] (by decide +kernel) (Nat.le_of_ble_eq_true rfl) rfl ?_
  intro p e s m args below meth c0 C hin
  refine h_iconst C 0 dX11_wipe_0 (by decide) ?_
  refine h_istore_n C [(2, .int 0), (0, .ref (ad G 44)), (1, .int d)] dX11_wipe_1 rfl (by decide) rfl ?_
  refine h_sub [1, 2, 0] rfl ?_
  refine h_loop (α := Int32 × ha_St) (fun (i, σ1) => 0 ≤ i ∧ i ≤ 60 ∧ σ1 = rgA σ 71 (60 * d.toNatClampNeg) i.toNatClampNeg (fun _ => 0)) (fun (i, σ1) => tm 60 i) (fun (i, σ1) => [(0, .ref (ad G 44)), (1, .int d), (2, .int i)]) (fun (i, σ1) => []) (fun (i, σ1) => σ1) (fun (i, σ1) => 0) (fun (i, σ1) => 0) ?_ (0, σ) ?_
  · rintro ⟨i, σ1⟩ hI ih
    show hW _ _ _ _ _ _ _ _ _ _ _ _ _ 2 [(0, .ref (ad G 44)), (1, .int d), (2, .int i)] [] σ1 0 0
    have hY : LY σ1 := by rw [hI.2.2]; exact rgA_Y hY
    refine h_iload_n C 2 dX11_wipe_2 rfl rfl ?_
    refine h_bipush C 60 dX11_wipe_3 (by decide) ?_
    refine h_icmp_ge C 26 dX11_wipe_5 (by decide) (fun c_5 => ?_) (fun c_5 => ?_)
    · refine h_vret C rfl (Nat.zero_le _) (Nat.zero_le _) dX11_wipe_26 ?_
      have he := eq_end hI.2.1 (Int32.not_lt.mpr c_5)
      have hq := hI.2.2
      rw [he, show (60 : Int32).toNatClampNeg = 60 by decide] at hq
      exact ⟨rfl, hq⟩
    · have hil := Int32.not_le.mp c_5
      have hb := t480 hd.1 hd.l hI.1 hil
      refine h_aload_n C 0 dX11_wipe_8 rfl rfl ?_
      refine gfX11_124 C (ty_44 hY) dX11_wipe_9 ?_
      refine h_tref (b := 71) (rf_44_37 hY) ?_
      refine h_bipush C 60 dX11_wipe_12 (by decide) ?_
      refine h_iload_n C 1 dX11_wipe_14 rfl rfl ?_
      refine h_imul C dX11_wipe_15 ?_
      refine h_iload_n C 2 dX11_wipe_16 rfl rfl ?_
      refine h_iadd C dX11_wipe_17 ?_
      refine h_iconst C 0 dX11_wipe_18 (by decide) ?_
      refine h_iast C _ (ty_71 hY) hb.1 dX11_wipe_19 rfl ?_
      refine h_iinc C [(2, .int (i + 1)), (0, .ref (ad G 44)), (1, .int d)] 2 (i + 1) dX11_wipe_20 rfl rfl (by decide) rfl ?_
      refine h_goto C 2 dX11_wipe_23 (by decide) ?_
      refine h_sub [1, 2, 0] rfl ?_
      refine ih ((i + 1), (sI σ1 71 ((60 * d) + i).toNatClampNeg 0)) ?_ ?_
      · refine ⟨(le_succ hI.1 hil).1, (le_succ hI.1 hil).2, ?_⟩
        rw [tn_succ hI.1 hil, hb.2, hI.2.2]
        exact rgA_s rfl
      · exact tm_lt hil
  · exact ⟨by decide, by decide, by rw [tn_0]; exact rgA_0.symm⟩
def mkOK (d w n : Int32) : Prop := shOK d ∧ (3 ≤ w ∧ w ≤ 4) ∧ n ≤ 60
def mMakeQ (σ : ha_St) (d w n r : Int32) (σ' : ha_St) : Prop := (¬ mkOK d w n ∧ r = -1 ∧ σ' = σ) ∨ (mkOK d w n ∧ n < 0 ∧ r = -14 ∧ σ' = σ) ∨ (mkOK d w n ∧ 0 ≤ n ∧ r = 0 ∧ σ' = wpF (sI (sI σ 65 d.toNatClampNeg w) 70 d.toNatClampNeg n) d)
set_option maxRecDepth 100000 in
set_option maxHeartbeats 4000000 in
theorem m_X11_make {G : ha_G} {l : Launch} {σ : ha_St} {d w n : Int32} (hY : LY σ) : hM G l yX11_make cX11_make 4 (some .int) { frames := 2, cells := 0, slots := 0, locals := 44 } [.ref (ad G 44), .int d, .int w, .int n] σ (fun v σ' => ∃ r, v = some (.int r) ∧ mMakeQ σ d w n r σ') := by
  refine hM_ofF [(0, .ref (ad G 44)), (1, .int d), (2, .int w), (3, .int n)] (by decide +kernel) (Nat.le_of_ble_eq_true rfl) rfl ?_
  intro p e s m args below meth c0 C hin
  refine h_aload_n C 0 dX11_make_0 rfl rfl ?_
  refine h_iload_n C 1 dX11_make_1 rfl rfl ?_
  refine h_callV C (m_X11_isShelf (hY.same rfl rfl rfl)) caX11_272 kX11 (ty_44 hY) ⟨by decide, by decide, by decide, by decide⟩ rfl rfl (Nat.le_of_ble_eq_true rfl) dX11_make_2 ?_
  rintro v σ' ⟨rfl, h2⟩; rw [h2]; clear h2
  show hW _ _ _ _ _ _ _ _ _ _ _ _ _ 5 [(0, .ref (ad G 44)), (1, .int d), (2, .int w), (3, .int n)] [.int (inV d 0 7)] σ 0 0
  refine h_if_eq C 24 dX11_make_5 (by decide) (fun c_5 => ?_) (fun c_5 => ?_)
  · refine h_iconst C (-1) dX11_make_24 (by decide) ?_
    refine h_iret C rfl (Nat.zero_le _) (Nat.zero_le _) dX11_make_25 ?_
    exact ⟨_, rfl, Or.inl ⟨fun q => inV_0 c_5 q.1, rfl, rfl⟩⟩
  · refine h_aload_n C 0 dX11_make_8 rfl rfl ?_
    refine h_iload_n C 2 dX11_make_9 rfl rfl ?_
    refine h_iconst C 3 dX11_make_10 (by decide) ?_
    refine h_iconst C 4 dX11_make_11 (by decide) ?_
    refine h_callV C m_X11_in caX11_130 kX11 (ty_44 hY) ⟨by decide, by decide, by decide, by decide⟩ rfl rfl (Nat.le_of_ble_eq_true rfl) dX11_make_12 ?_
    rintro v σ' ⟨rfl, h2⟩; rw [h2]; clear h2
    show hW _ _ _ _ _ _ _ _ _ _ _ _ _ 15 [(0, .ref (ad G 44)), (1, .int d), (2, .int w), (3, .int n)] [.int (inV w 3 4)] σ 0 0
    refine h_if_eq C 24 dX11_make_15 (by decide) (fun c_15 => ?_) (fun c_15 => ?_)
    · refine h_iconst C (-1) dX11_make_24 (by decide) ?_
      refine h_iret C rfl (Nat.zero_le _) (Nat.zero_le _) dX11_make_25 ?_
      exact ⟨_, rfl, Or.inl ⟨fun q => inV_0 c_15 q.2.1, rfl, rfl⟩⟩
    · refine h_iload_n C 3 dX11_make_18 rfl rfl ?_
      refine h_bipush C 60 dX11_make_19 (by decide) ?_
      refine h_icmp_le C 26 dX11_make_21 (by decide) (fun c_21 => ?_) (fun c_21 => ?_)
      · refine h_iload_n C 3 dX11_make_26 rfl rfl ?_
        refine h_if_ge C 33 dX11_make_27 (by decide) (fun c_27 => ?_) (fun c_27 => ?_)
        · have hd : shOK d := inV_1 c_5
          refine h_aload_n C 0 dX11_make_33 rfl rfl ?_
          refine gfX11_106 C (ty_44 hY) dX11_make_34 ?_
          refine h_tref (b := 65) (rf_44_31 hY) ?_
          refine h_iload_n C 1 dX11_make_37 rfl rfl ?_
          refine h_iload_n C 2 dX11_make_38 rfl rfl ?_
          refine h_iast C _ (ty_65 hY) hd.v dX11_make_39 rfl ?_
          refine h_aload_n C 0 dX11_make_40 rfl rfl ?_
          refine gfX11_121 C (ty_44 hY) dX11_make_41 ?_
          refine h_tref (b := 70) (rf_44_36 hY) ?_
          refine h_iload_n C 1 dX11_make_44 rfl rfl ?_
          refine h_iload_n C 3 dX11_make_45 rfl rfl ?_
          refine h_iast C _ (ty_70 hY) hd.v dX11_make_46 rfl ?_
          refine h_aload_n C 0 dX11_make_47 rfl rfl ?_
          refine h_iload_n C 1 dX11_make_48 rfl rfl ?_
          refine h_callV C (m_X11_wipe (σ := (sI (sI σ 65 d.toNatClampNeg w) 70 d.toNatClampNeg n)) (hY.same rfl rfl rfl) hd) caX11_275 kX11 (ty_44 hY) ⟨by decide, by decide, by decide, by decide⟩ rfl rfl (Nat.le_of_ble_eq_true rfl) dX11_make_49 ?_
          rintro v σ' ⟨rfl, h2⟩; rw [h2]; clear h2
          show hW _ _ _ _ _ _ _ _ _ _ _ _ _ 52 [(0, .ref (ad G 44)), (1, .int d), (2, .int w), (3, .int n)] [] (wpF (sI (sI σ 65 d.toNatClampNeg w) 70 d.toNatClampNeg n) d) 0 0
          refine h_iconst C 0 dX11_make_52 (by decide) ?_
          refine h_iret C rfl (Nat.zero_le _) (Nat.zero_le _) dX11_make_53 ?_
          exact ⟨_, rfl, Or.inr (Or.inr ⟨⟨inV_1 c_5, inV_1 c_15, c_21⟩, c_27, rfl, rfl⟩)⟩
        · refine h_bipush C (-14) dX11_make_30 (by decide) ?_
          refine h_iret C rfl (Nat.zero_le _) (Nat.zero_le _) dX11_make_32 ?_
          exact ⟨_, rfl, Or.inr (Or.inl ⟨⟨inV_1 c_5, inV_1 c_15, c_21⟩, Int32.not_le.mp c_27, rfl, rfl⟩)⟩
      · refine h_iconst C (-1) dX11_make_24 (by decide) ?_
        refine h_iret C rfl (Nat.zero_le _) (Nat.zero_le _) dX11_make_25 ?_
        exact ⟨_, rfl, Or.inl ⟨fun q => c_21 q.2.2, rfl, rfl⟩⟩
def mElOK (σ : ha_St) (d i : Int32) : Prop := 3 ≤ gI σ 65 d.toNatClampNeg ∧ 0 ≤ i ∧ i ≤ gI σ 70 d.toNatClampNeg - 1
def mEleQ (σ : ha_St) (d i : Int32) (x : Int64) (σ' : ha_St) : Prop := (¬ shOK d ∧ σ' = sI σ 44 0 1) ∨ (shOK d ∧ ¬ mElOK σ d i ∧ σ' = sI σ 44 0 2) ∨ (shOK d ∧ mElOK σ d i ∧ σ' = sI σ 44 0 0 ∧ x = (gI σ 71 (60 * d.toNatClampNeg + i.toNatClampNeg)).toInt64)
set_option maxRecDepth 100000 in
set_option maxHeartbeats 4000000 in
theorem m_X11_element {G : ha_G} {l : Launch} {σ : ha_St} {d i : Int32} (hY : LY σ) (hZ : SZ σ) : hM G l yX11_element cX11_element 3 (some .long) { frames := 2, cells := 0, slots := 0, locals := 44 } [.ref (ad G 44), .int d, .int i] σ (fun v σ' => ∃ x, v = some (.long x) ∧ mEleQ σ d i x σ') := by
  refine hM_ofF [(0, .ref (ad G 44)), (1, .int d), (2, .int i)] (by decide +kernel) (Nat.le_of_ble_eq_true rfl) rfl ?_
  intro p e s m args below meth c0 C hin
  refine h_aload_n C 0 dX11_element_0 rfl rfl ?_
  refine h_aload_n C 0 dX11_element_1 rfl rfl ?_
  refine h_iload_n C 1 dX11_element_2 rfl rfl ?_
  refine h_callV C (m_X11_isShelf (hY.same rfl rfl rfl)) caX11_272 kX11 (ty_44 hY) ⟨by decide, by decide, by decide, by decide⟩ rfl rfl (Nat.le_of_ble_eq_true rfl) dX11_element_3 ?_
  rintro v σ' ⟨rfl, h2⟩; rw [h2]; clear h2
  show hW _ _ _ _ _ _ _ _ _ _ _ _ _ 6 [(0, .ref (ad G 44)), (1, .int d), (2, .int i)] [.int (inV d 0 7), .ref (ad G 44)] σ 0 0
  refine h_if_ne C 13 dX11_element_6 (by decide) (fun c_6 => ?_) (fun c_6 => ?_)
  · refine h_aload_n C 0 dX11_element_13 rfl rfl ?_
    refine gfX11_106 C (ty_44 hY) dX11_element_14 ?_
    refine h_tref (b := 65) (rf_44_31 hY) ?_
    refine h_iload_n C 1 dX11_element_17 rfl rfl ?_
    refine h_iald C (ty_65 hY) (shOK.v (inV_1 c_6)) dX11_element_18 ?_
    refine h_iconst C 3 dX11_element_19 (by decide) ?_
    refine h_icmp_lt C 40 dX11_element_20 (by decide) (fun c_20 => ?_) (fun c_20 => ?_)
    · refine h_iconst C 2 dX11_element_40 (by decide) ?_
      refine h_goto C 45 dX11_element_41 (by decide) ?_
      refine pfX11_7 C (ty_44 hY) dX11_element_45 ?_
      refine h_aload_n C 0 dX11_element_48 rfl rfl ?_
      refine gfX11_7 C (ty_44 hY) dX11_element_49 ?_
      refine h_if_le C 59 dX11_element_52 (by decide) (fun c_52 => ?_) (fun c_52 => ?_)
      · exact absurd (show ((2 : Int32) ≤ 0) from c_52) (by decide)
      · refine h_lconst C 0 dX11_element_55 rfl ?_
        refine h_goto C 71 dX11_element_56 (by decide) ?_
        refine h_lret C rfl (Nat.zero_le _) (Nat.zero_le _) dX11_element_71 ?_
        exact ⟨_, rfl, Or.inr (Or.inl ⟨inV_1 c_6, fun q => absurd q.1 (Int32.not_le.mpr c_20), rfl⟩)⟩
    · refine h_aload_n C 0 dX11_element_23 rfl rfl ?_
      refine h_iload_n C 2 dX11_element_24 rfl rfl ?_
      refine h_iconst C 0 dX11_element_25 (by decide) ?_
      refine h_aload_n C 0 dX11_element_26 rfl rfl ?_
      refine gfX11_121 C (ty_44 hY) dX11_element_27 ?_
      refine h_tref (b := 70) (rf_44_36 hY) ?_
      refine h_iload_n C 1 dX11_element_30 rfl rfl ?_
      refine h_iald C (ty_70 hY) (shOK.v (inV_1 c_6)) dX11_element_31 ?_
      refine h_iconst C 1 dX11_element_32 (by decide) ?_
      refine h_isub C dX11_element_33 ?_
      refine h_callV C m_X11_in caX11_130 kX11 (ty_44 hY) ⟨by decide, by decide, by decide, by decide⟩ rfl rfl (Nat.le_of_ble_eq_true rfl) dX11_element_34 ?_
      rintro v σ' ⟨rfl, h2⟩; rw [h2]; clear h2
      show hW _ _ _ _ _ _ _ _ _ _ _ _ _ 37 [(0, .ref (ad G 44)), (1, .int d), (2, .int i)] [.int (inV i 0 ((gI σ 70 d.toNatClampNeg) - 1)), .ref (ad G 44)] σ 0 0
      refine h_if_ne C 44 dX11_element_37 (by decide) (fun c_37 => ?_) (fun c_37 => ?_)
      · refine h_iconst C 0 dX11_element_44 (by decide) ?_
        refine pfX11_7 C (ty_44 hY) dX11_element_45 ?_
        refine h_aload_n C 0 dX11_element_48 rfl rfl ?_
        refine gfX11_7 C (ty_44 hY) dX11_element_49 ?_
        refine h_if_le C 59 dX11_element_52 (by decide) (fun c_52 => ?_) (fun c_52 => ?_)
        · have hd : shOK d := inV_1 c_6
          have hi := inV_1 c_37
          have hs := hZ d hd
          have hb := t480 hd.1 hd.l hi.1 (by have h1 := hi.2; have h2 := hs.2; have h3 := hs.1; clear C; grind)
          refine h_aload_n C 0 dX11_element_59 rfl rfl ?_
          refine gfX11_124 C (ty_44 hY) dX11_element_60 ?_
          refine h_tref (b := 71) (rf_44_37 hY) ?_
          refine h_bipush C 60 dX11_element_63 (by decide) ?_
          refine h_iload_n C 1 dX11_element_65 rfl rfl ?_
          refine h_imul C dX11_element_66 ?_
          refine h_iload_n C 2 dX11_element_67 rfl rfl ?_
          refine h_iadd C dX11_element_68 ?_
          refine h_iald C (ty_71 hY) hb.1 dX11_element_69 ?_
          refine h_i2l C dX11_element_70 ?_
          refine h_lret C rfl (Nat.zero_le _) (Nat.zero_le _) dX11_element_71 ?_
          refine ⟨_, rfl, Or.inr (Or.inr ⟨hd, ⟨Int32.not_lt.mp c_20, hi⟩, rfl, ?_⟩)⟩
          rw [hb.2]
          rfl
        · exact absurd (show ((0 : Int32) ≤ 0) from by decide) c_52
      · refine h_iconst C 2 dX11_element_40 (by decide) ?_
        refine h_goto C 45 dX11_element_41 (by decide) ?_
        refine pfX11_7 C (ty_44 hY) dX11_element_45 ?_
        refine h_aload_n C 0 dX11_element_48 rfl rfl ?_
        refine gfX11_7 C (ty_44 hY) dX11_element_49 ?_
        refine h_if_le C 59 dX11_element_52 (by decide) (fun c_52 => ?_) (fun c_52 => ?_)
        · exact absurd (show ((2 : Int32) ≤ 0) from c_52) (by decide)
        · refine h_lconst C 0 dX11_element_55 rfl ?_
          refine h_goto C 71 dX11_element_56 (by decide) ?_
          refine h_lret C rfl (Nat.zero_le _) (Nat.zero_le _) dX11_element_71 ?_
          exact ⟨_, rfl, Or.inr (Or.inl ⟨inV_1 c_6, fun q => inV_0 c_37 q.2, rfl⟩)⟩
  · refine h_iconst C 1 dX11_element_9 (by decide) ?_
    refine h_goto C 45 dX11_element_10 (by decide) ?_
    refine pfX11_7 C (ty_44 hY) dX11_element_45 ?_
    refine h_aload_n C 0 dX11_element_48 rfl rfl ?_
    refine gfX11_7 C (ty_44 hY) dX11_element_49 ?_
    refine h_if_le C 59 dX11_element_52 (by decide) (fun c_52 => ?_) (fun c_52 => ?_)
    · exact absurd (show ((1 : Int32) ≤ 0) from c_52) (by decide)
    · refine h_lconst C 0 dX11_element_55 rfl ?_
      refine h_goto C 71 dX11_element_56 (by decide) ?_
      refine h_lret C rfl (Nat.zero_le _) (Nat.zero_le _) dX11_element_71 ?_
      exact ⟨_, rfl, Or.inl ⟨inV_0 c_6, rfl⟩⟩
def lcV (σ : ha_St) (d : Int32) : Int32 := if inV d 0 7 = 0 then -1 else if gI σ 65 d.toNatClampNeg = 0 then -11 else if gI σ 65 d.toNatClampNeg = 1 then 0 else -12
theorem lcV_0 {σ : ha_St} {d : Int32} (h : lcV σ d = 0) : shOK d ∧ gI σ 65 d.toNatClampNeg = 1 := by
  unfold lcV at h
  by_cases h1 : inV d 0 7 = 0
  · rw [if_pos h1] at h; exact absurd h (by decide)
  · rw [if_neg h1] at h
    by_cases h2 : gI σ 65 d.toNatClampNeg = 0
    · rw [if_pos h2] at h; exact absurd h (by decide)
    · rw [if_neg h2] at h
      by_cases h3 : gI σ 65 d.toNatClampNeg = 1
      · exact ⟨inV_1 h1, h3⟩
      · rw [if_neg h3] at h; exact absurd h (by decide)
def mWgS (σ : ha_St) (d : Nat) : Int32 := 10 + gI σ 69 d + (if hgV (gI σ 67 d) = 0 then 0 else gI σ 68 d + 100) + (if gI σ 67 d = 2 then 1000 else 0)
def mWeight (σ : ha_St) (d : Int32) : Int32 := if lcV σ d = 0 then (if gI σ 67 d.toNatClampNeg = 3 then 2 * mWgS σ d.toNatClampNeg else mWgS σ d.toNatClampNeg) else lcV σ d
def mToss (σ : ha_St) (d : Int32) : Int32 := if lcV σ d = 0 then (if hgV (gI σ 67 d.toNatClampNeg) = 0 then -15 else gI σ 66 d.toNatClampNeg) else lcV σ d
set_option maxRecDepth 100000 in
set_option maxHeartbeats 4000000 in
theorem m_X11_lacksContact {G : ha_G} {l : Launch} {σ : ha_St} {d : Int32} (hY : LY σ) : hM G l yX11_lacksContact cX11_lacksContact 2 (some .int) { frames := 2, cells := 0, slots := 0, locals := 44 } [.ref (ad G 44), .int d] σ (fun v σ' => v = some (.int (lcV σ d)) ∧ σ' = σ) := by
  refine hM_ofF [(0, .ref (ad G 44)), (1, .int d)] (by decide +kernel) (Nat.le_of_ble_eq_true rfl) rfl ?_
  intro p e s m args below meth c0 C hin
  refine h_aload_n C 0 dX11_lacksContact_0 rfl rfl ?_
  refine h_iload_n C 1 dX11_lacksContact_1 rfl rfl ?_
  refine h_callV C (m_X11_isShelf (hY.same rfl rfl rfl)) caX11_272 kX11 (ty_44 hY) ⟨by decide, by decide, by decide, by decide⟩ rfl rfl (Nat.le_of_ble_eq_true rfl) dX11_lacksContact_2 ?_
  rintro v σ' ⟨rfl, h2⟩; rw [h2]; clear h2
  show hW _ _ _ _ _ _ _ _ _ _ _ _ _ 5 [(0, .ref (ad G 44)), (1, .int d)] [.int (inV d 0 7)] σ 0 0
  refine h_if_ne C 12 dX11_lacksContact_5 (by decide) (fun c_5 => ?_) (fun c_5 => ?_)
  · refine h_aload_n C 0 dX11_lacksContact_12 rfl rfl ?_
    refine gfX11_106 C (ty_44 hY) dX11_lacksContact_13 ?_
    refine h_tref (b := 65) (rf_44_31 hY) ?_
    refine h_iload_n C 1 dX11_lacksContact_16 rfl rfl ?_
    refine h_iald C (ty_65 hY) (shOK.v (inV_1 c_5)) dX11_lacksContact_17 ?_
    refine h_if_ne C 26 dX11_lacksContact_18 (by decide) (fun c_18 => ?_) (fun c_18 => ?_)
    · refine h_aload_n C 0 dX11_lacksContact_26 rfl rfl ?_
      refine gfX11_106 C (ty_44 hY) dX11_lacksContact_27 ?_
      refine h_tref (b := 65) (rf_44_31 hY) ?_
      refine h_iload_n C 1 dX11_lacksContact_30 rfl rfl ?_
      refine h_iald C (ty_65 hY) (shOK.v (inV_1 c_5)) dX11_lacksContact_31 ?_
      refine h_iconst C 1 dX11_lacksContact_32 (by decide) ?_
      refine h_icmp_eq C 41 dX11_lacksContact_33 (by decide) (fun c_33 => ?_) (fun c_33 => ?_)
      · refine h_iconst C 0 dX11_lacksContact_41 (by decide) ?_
        refine h_iret C rfl (Nat.zero_le _) (Nat.zero_le _) dX11_lacksContact_42 ?_
        refine ⟨vint ?_, rfl⟩
        unfold lcV
        rw [if_neg c_5, if_neg c_18, if_pos c_33]
      · refine h_bipush C (-12) dX11_lacksContact_36 (by decide) ?_
        refine h_goto C 42 dX11_lacksContact_38 (by decide) ?_
        refine h_iret C rfl (Nat.zero_le _) (Nat.zero_le _) dX11_lacksContact_42 ?_
        refine ⟨vint ?_, rfl⟩
        unfold lcV
        rw [if_neg c_5, if_neg c_18, if_neg c_33]
    · refine h_bipush C (-11) dX11_lacksContact_21 (by decide) ?_
      refine h_goto C 42 dX11_lacksContact_23 (by decide) ?_
      refine h_iret C rfl (Nat.zero_le _) (Nat.zero_le _) dX11_lacksContact_42 ?_
      refine ⟨vint ?_, rfl⟩
      unfold lcV
      rw [if_neg c_5, if_pos c_18]
  · refine h_iconst C (-1) dX11_lacksContact_8 (by decide) ?_
    refine h_goto C 42 dX11_lacksContact_9 (by decide) ?_
    refine h_iret C rfl (Nat.zero_le _) (Nat.zero_le _) dX11_lacksContact_42 ?_
    refine ⟨vint ?_, rfl⟩
    unfold lcV
    rw [if_pos c_5]
set_option maxRecDepth 100000 in
set_option maxHeartbeats 4000000 in
theorem m_X11_weight {G : ha_G} {l : Launch} {σ : ha_St} {d : Int32} (hY : LY σ) : hM G l yX11_weight cX11_weight 4 (some .int) { frames := 3, cells := 0, slots := 0, locals := 65 } [.ref (ad G 44), .int d] σ (fun v σ' => v = some (.int (mWeight σ d)) ∧ σ' = σ) := by
  refine hM_ofF [(0, .ref (ad G 44)), (1, .int d)] (by decide +kernel) (Nat.le_of_ble_eq_true rfl) rfl ?_
  intro p e s m args below meth c0 C hin
  refine h_aload_n C 0 dX11_weight_0 rfl rfl ?_
  refine h_iload_n C 1 dX11_weight_1 rfl rfl ?_
  refine h_callV C (m_X11_lacksContact hY) caX11_279 kX11 (ty_44 hY) ⟨by decide, by decide, by decide, by decide⟩ rfl rfl (Nat.le_of_ble_eq_true rfl) dX11_weight_2 ?_
  rintro v σ' ⟨rfl, h2⟩; rw [h2]; clear h2
  show hW _ _ _ _ _ _ _ _ _ _ _ _ _ 5 [(0, .ref (ad G 44)), (1, .int d)] [.int (lcV σ d)] σ 0 0
  refine h_if_eq C 14 dX11_weight_5 (by decide) (fun c_5 => ?_) (fun c_5 => ?_)
  · refine h_aload_n C 0 dX11_weight_14 rfl rfl ?_
    refine gfX11_112 C (ty_44 hY) dX11_weight_15 ?_
    refine h_tref (b := 67) (rf_44_33 hY) ?_
    refine h_iload_n C 1 dX11_weight_18 rfl rfl ?_
    refine h_iald C (ty_67 hY) (lcV_0 c_5).1.v dX11_weight_19 ?_
    refine h_istore_n C [(2, .int (gI σ 67 d.toNatClampNeg)), (0, .ref (ad G 44)), (1, .int d)] dX11_weight_20 rfl (by decide) rfl ?_
    refine h_bipush C 10 dX11_weight_21 (by decide) ?_
    refine h_aload_n C 1 dX11_weight_23 rfl rfl ?_
    refine gfX11_118 C (ty_44 hY) dX11_weight_24 ?_
    refine h_tref (b := 69) (rf_44_35 hY) ?_
    refine h_iload_n C 2 dX11_weight_27 rfl rfl ?_
    refine h_iald C (ty_69 hY) (lcV_0 c_5).1.v dX11_weight_28 ?_
    refine h_iadd C dX11_weight_29 ?_
    refine h_aload_n C 1 dX11_weight_30 rfl rfl ?_
    refine h_iload_n C 0 dX11_weight_31 rfl rfl ?_
    refine h_callV C m_X11_hasGrip caX11_138 kX11 (ty_44 hY) ⟨by decide, by decide, by decide, by decide⟩ rfl rfl (Nat.le_of_ble_eq_true rfl) dX11_weight_32 ?_
    rintro v σ' ⟨rfl, h2⟩; rw [h2]; clear h2
    show hW _ _ _ _ _ _ _ _ _ _ _ _ _ 35 [(2, .int (gI σ 67 d.toNatClampNeg)), (0, .ref (ad G 44)), (1, .int d)] [.int (hgV (gI σ 67 d.toNatClampNeg)), .int (10 + (gI σ 69 d.toNatClampNeg))] σ 0 0
    refine h_if_eq C 50 dX11_weight_35 (by decide) (fun c_35 => ?_) (fun c_35 => ?_)
    · refine h_iconst C 0 dX11_weight_50 (by decide) ?_
      refine h_iadd C dX11_weight_51 ?_
      refine h_iload_n C 0 dX11_weight_52 rfl rfl ?_
      refine h_iconst C 2 dX11_weight_53 (by decide) ?_
      refine h_icmp_ne C 63 dX11_weight_54 (by decide) (fun c_54 => ?_) (fun c_54 => ?_)
      · refine h_iconst C 0 dX11_weight_63 (by decide) ?_
        refine h_iadd C dX11_weight_64 ?_
        refine h_istore_n C [(3, .int (((10 + (gI σ 69 d.toNatClampNeg)) + 0) + 0)), (2, .int (gI σ 67 d.toNatClampNeg)), (0, .ref (ad G 44)), (1, .int d)] dX11_weight_65 rfl (by decide) rfl ?_
        refine h_iload_n C 1 dX11_weight_66 rfl rfl ?_
        refine h_iconst C 3 dX11_weight_67 (by decide) ?_
        refine h_icmp_ne C 77 dX11_weight_68 (by decide) (fun c_68 => ?_) (fun c_68 => ?_)
        · refine h_iload_n C 0 dX11_weight_77 rfl rfl ?_
          refine h_iret C rfl (Nat.zero_le _) (Nat.zero_le _) dX11_weight_78 ?_
          refine ⟨vint ?_, rfl⟩
          unfold mWeight
          rw [if_pos c_5, if_neg c_68]
          unfold mWgS
          rw [if_pos c_35, if_neg c_54]
        · refine h_iconst C 2 dX11_weight_71 (by decide) ?_
          refine h_iload_n C 0 dX11_weight_72 rfl rfl ?_
          refine h_imul C dX11_weight_73 ?_
          refine h_goto C 78 dX11_weight_74 (by decide) ?_
          refine h_iret C rfl (Nat.zero_le _) (Nat.zero_le _) dX11_weight_78 ?_
          refine ⟨vint ?_, rfl⟩
          unfold mWeight
          rw [if_pos c_5, if_pos c_68]
          unfold mWgS
          rw [if_pos c_35, if_neg c_54]
      · refine h_sipush C 1000 dX11_weight_57 (by decide) ?_
        refine h_goto C 64 dX11_weight_60 (by decide) ?_
        refine h_iadd C dX11_weight_64 ?_
        refine h_istore_n C [(3, .int (((10 + (gI σ 69 d.toNatClampNeg)) + 0) + 1000)), (2, .int (gI σ 67 d.toNatClampNeg)), (0, .ref (ad G 44)), (1, .int d)] dX11_weight_65 rfl (by decide) rfl ?_
        refine h_iload_n C 1 dX11_weight_66 rfl rfl ?_
        refine h_iconst C 3 dX11_weight_67 (by decide) ?_
        refine h_icmp_ne C 77 dX11_weight_68 (by decide) (fun c_68 => ?_) (fun c_68 => ?_)
        · refine h_iload_n C 0 dX11_weight_77 rfl rfl ?_
          refine h_iret C rfl (Nat.zero_le _) (Nat.zero_le _) dX11_weight_78 ?_
          refine ⟨vint ?_, rfl⟩
          unfold mWeight
          rw [if_pos c_5, if_neg c_68]
          unfold mWgS
          rw [if_pos c_35, if_pos c_54]
        · refine h_iconst C 2 dX11_weight_71 (by decide) ?_
          refine h_iload_n C 0 dX11_weight_72 rfl rfl ?_
          refine h_imul C dX11_weight_73 ?_
          refine h_goto C 78 dX11_weight_74 (by decide) ?_
          refine h_iret C rfl (Nat.zero_le _) (Nat.zero_le _) dX11_weight_78 ?_
          refine ⟨vint ?_, rfl⟩
          unfold mWeight
          rw [if_pos c_5, if_pos c_68]
          unfold mWgS
          rw [if_pos c_35, if_pos c_54]
    · refine h_aload_n C 1 dX11_weight_38 rfl rfl ?_
      refine gfX11_115 C (ty_44 hY) dX11_weight_39 ?_
      refine h_tref (b := 68) (rf_44_34 hY) ?_
      refine h_iload_n C 2 dX11_weight_42 rfl rfl ?_
      refine h_iald C (ty_68 hY) (lcV_0 c_5).1.v dX11_weight_43 ?_
      refine h_bipush C 100 dX11_weight_44 (by decide) ?_
      refine h_iadd C dX11_weight_46 ?_
      refine h_goto C 51 dX11_weight_47 (by decide) ?_
      refine h_iadd C dX11_weight_51 ?_
      refine h_iload_n C 0 dX11_weight_52 rfl rfl ?_
      refine h_iconst C 2 dX11_weight_53 (by decide) ?_
      refine h_icmp_ne C 63 dX11_weight_54 (by decide) (fun c_54 => ?_) (fun c_54 => ?_)
      · refine h_iconst C 0 dX11_weight_63 (by decide) ?_
        refine h_iadd C dX11_weight_64 ?_
        refine h_istore_n C [(3, .int (((10 + (gI σ 69 d.toNatClampNeg)) + ((gI σ 68 d.toNatClampNeg) + 100)) + 0)), (2, .int (gI σ 67 d.toNatClampNeg)), (0, .ref (ad G 44)), (1, .int d)] dX11_weight_65 rfl (by decide) rfl ?_
        refine h_iload_n C 1 dX11_weight_66 rfl rfl ?_
        refine h_iconst C 3 dX11_weight_67 (by decide) ?_
        refine h_icmp_ne C 77 dX11_weight_68 (by decide) (fun c_68 => ?_) (fun c_68 => ?_)
        · refine h_iload_n C 0 dX11_weight_77 rfl rfl ?_
          refine h_iret C rfl (Nat.zero_le _) (Nat.zero_le _) dX11_weight_78 ?_
          refine ⟨vint ?_, rfl⟩
          unfold mWeight
          rw [if_pos c_5, if_neg c_68]
          unfold mWgS
          rw [if_neg c_35, if_neg c_54]
        · refine h_iconst C 2 dX11_weight_71 (by decide) ?_
          refine h_iload_n C 0 dX11_weight_72 rfl rfl ?_
          refine h_imul C dX11_weight_73 ?_
          refine h_goto C 78 dX11_weight_74 (by decide) ?_
          refine h_iret C rfl (Nat.zero_le _) (Nat.zero_le _) dX11_weight_78 ?_
          refine ⟨vint ?_, rfl⟩
          unfold mWeight
          rw [if_pos c_5, if_pos c_68]
          unfold mWgS
          rw [if_neg c_35, if_neg c_54]
      · refine h_sipush C 1000 dX11_weight_57 (by decide) ?_
        refine h_goto C 64 dX11_weight_60 (by decide) ?_
        refine h_iadd C dX11_weight_64 ?_
        refine h_istore_n C [(3, .int (((10 + (gI σ 69 d.toNatClampNeg)) + ((gI σ 68 d.toNatClampNeg) + 100)) + 1000)), (2, .int (gI σ 67 d.toNatClampNeg)), (0, .ref (ad G 44)), (1, .int d)] dX11_weight_65 rfl (by decide) rfl ?_
        refine h_iload_n C 1 dX11_weight_66 rfl rfl ?_
        refine h_iconst C 3 dX11_weight_67 (by decide) ?_
        refine h_icmp_ne C 77 dX11_weight_68 (by decide) (fun c_68 => ?_) (fun c_68 => ?_)
        · refine h_iload_n C 0 dX11_weight_77 rfl rfl ?_
          refine h_iret C rfl (Nat.zero_le _) (Nat.zero_le _) dX11_weight_78 ?_
          refine ⟨vint ?_, rfl⟩
          unfold mWeight
          rw [if_pos c_5, if_neg c_68]
          unfold mWgS
          rw [if_neg c_35, if_pos c_54]
        · refine h_iconst C 2 dX11_weight_71 (by decide) ?_
          refine h_iload_n C 0 dX11_weight_72 rfl rfl ?_
          refine h_imul C dX11_weight_73 ?_
          refine h_goto C 78 dX11_weight_74 (by decide) ?_
          refine h_iret C rfl (Nat.zero_le _) (Nat.zero_le _) dX11_weight_78 ?_
          refine ⟨vint ?_, rfl⟩
          unfold mWeight
          rw [if_pos c_5, if_pos c_68]
          unfold mWgS
          rw [if_neg c_35, if_pos c_54]
  · refine h_aload_n C 0 dX11_weight_8 rfl rfl ?_
    refine h_iload_n C 1 dX11_weight_9 rfl rfl ?_
    refine h_callV C (m_X11_lacksContact hY) caX11_279 kX11 (ty_44 hY) ⟨by decide, by decide, by decide, by decide⟩ rfl rfl (Nat.le_of_ble_eq_true rfl) dX11_weight_10 ?_
    rintro v σ' ⟨rfl, h2⟩; rw [h2]; clear h2
    show hW _ _ _ _ _ _ _ _ _ _ _ _ _ 13 [(0, .ref (ad G 44)), (1, .int d)] [.int (lcV σ d)] σ 0 0
    refine h_iret C rfl (Nat.zero_le _) (Nat.zero_le _) dX11_weight_13 ?_
    refine ⟨vint ?_, rfl⟩
    unfold mWeight
    rw [if_neg c_5]
set_option maxRecDepth 100000 in
set_option maxHeartbeats 4000000 in
theorem m_X11_toss {G : ha_G} {l : Launch} {σ : ha_St} {d : Int32} (hY : LY σ) : hM G l yX11_toss cX11_toss 2 (some .int) { frames := 3, cells := 0, slots := 0, locals := 65 } [.ref (ad G 44), .int d] σ (fun v σ' => v = some (.int (mToss σ d)) ∧ σ' = σ) := by
  refine hM_ofF [(0, .ref (ad G 44)), (1, .int d)] (by decide +kernel) (Nat.le_of_ble_eq_true rfl) rfl ?_
  intro p e s m args below meth c0 C hin
  refine h_aload_n C 0 dX11_toss_0 rfl rfl ?_
  refine h_iload_n C 1 dX11_toss_1 rfl rfl ?_
  refine h_callV C (m_X11_lacksContact hY) caX11_279 kX11 (ty_44 hY) ⟨by decide, by decide, by decide, by decide⟩ rfl rfl (Nat.le_of_ble_eq_true rfl) dX11_toss_2 ?_
  rintro v σ' ⟨rfl, h2⟩; rw [h2]; clear h2
  show hW _ _ _ _ _ _ _ _ _ _ _ _ _ 5 [(0, .ref (ad G 44)), (1, .int d)] [.int (lcV σ d)] σ 0 0
  refine h_if_eq C 14 dX11_toss_5 (by decide) (fun c_5 => ?_) (fun c_5 => ?_)
  · refine h_aload_n C 0 dX11_toss_14 rfl rfl ?_
    refine h_aload_n C 0 dX11_toss_15 rfl rfl ?_
    refine gfX11_112 C (ty_44 hY) dX11_toss_16 ?_
    refine h_tref (b := 67) (rf_44_33 hY) ?_
    refine h_iload_n C 1 dX11_toss_19 rfl rfl ?_
    refine h_iald C (ty_67 hY) (lcV_0 c_5).1.v dX11_toss_20 ?_
    refine h_callV C m_X11_hasGrip caX11_138 kX11 (ty_44 hY) ⟨by decide, by decide, by decide, by decide⟩ rfl rfl (Nat.le_of_ble_eq_true rfl) dX11_toss_21 ?_
    rintro v σ' ⟨rfl, h2⟩; rw [h2]; clear h2
    show hW _ _ _ _ _ _ _ _ _ _ _ _ _ 24 [(0, .ref (ad G 44)), (1, .int d)] [.int (hgV (gI σ 67 d.toNatClampNeg))] σ 0 0
    refine h_if_eq C 36 dX11_toss_24 (by decide) (fun c_24 => ?_) (fun c_24 => ?_)
    · refine h_bipush C (-15) dX11_toss_36 (by decide) ?_
      refine h_iret C rfl (Nat.zero_le _) (Nat.zero_le _) dX11_toss_38 ?_
      refine ⟨vint ?_, rfl⟩
      unfold mToss
      rw [if_pos c_5, if_pos c_24]
    · refine h_aload_n C 0 dX11_toss_27 rfl rfl ?_
      refine gfX11_109 C (ty_44 hY) dX11_toss_28 ?_
      refine h_tref (b := 66) (rf_44_32 hY) ?_
      refine h_iload_n C 1 dX11_toss_31 rfl rfl ?_
      refine h_iald C (ty_66 hY) (lcV_0 c_5).1.v dX11_toss_32 ?_
      refine h_goto C 38 dX11_toss_33 (by decide) ?_
      refine h_iret C rfl (Nat.zero_le _) (Nat.zero_le _) dX11_toss_38 ?_
      refine ⟨vint ?_, rfl⟩
      unfold mToss
      rw [if_pos c_5, if_neg c_24]
  · refine h_aload_n C 0 dX11_toss_8 rfl rfl ?_
    refine h_iload_n C 1 dX11_toss_9 rfl rfl ?_
    refine h_callV C (m_X11_lacksContact hY) caX11_279 kX11 (ty_44 hY) ⟨by decide, by decide, by decide, by decide⟩ rfl rfl (Nat.le_of_ble_eq_true rfl) dX11_toss_10 ?_
    rintro v σ' ⟨rfl, h2⟩; rw [h2]; clear h2
    show hW _ _ _ _ _ _ _ _ _ _ _ _ _ 13 [(0, .ref (ad G 44)), (1, .int d)] [.int (lcV σ d)] σ 0 0
    refine h_iret C rfl (Nat.zero_le _) (Nat.zero_le _) dX11_toss_13 ?_
    refine ⟨vint ?_, rfl⟩
    unfold mToss
    rw [if_neg c_5]
def cyOK (σ : ha_St) (d i e j n : Int32) : Prop := 0 ≤ n ∧ 0 ≤ i ∧ 0 ≤ j ∧ i ≤ gI σ 70 d.toNatClampNeg - n ∧ j ≤ gI σ 70 e.toNatClampNeg - n
def cyF (σ : ha_St) (d i : Int32) (k : Nat) : Int32 := gI σ 71 (60 * d.toNatClampNeg + i.toNatClampNeg + k)
def mCopyQ (σ : ha_St) (d i e j n r : Int32) (σ' : ha_St) : Prop := (¬ (shOK d ∧ shOK e) ∧ r = -1 ∧ σ' = σ) ∨ ((shOK d ∧ shOK e) ∧ (((gI σ 65 d.toNatClampNeg = 0 ∨ gI σ 65 e.toNatClampNeg = 0) ∧ r = -11 ∧ σ' = σ) ∨ (¬ (gI σ 65 d.toNatClampNeg = 0 ∨ gI σ 65 e.toNatClampNeg = 0) ∧
  ((¬ (3 ≤ gI σ 65 d.toNatClampNeg ∧ gI σ 65 d.toNatClampNeg = gI σ 65 e.toNatClampNeg) ∧ r = -12 ∧ σ' = σ) ∨ ((3 ≤ gI σ 65 d.toNatClampNeg ∧ gI σ 65 d.toNatClampNeg = gI σ 65 e.toNatClampNeg) ∧
    ((¬ cyOK σ d i e j n ∧ r = -13 ∧ σ' = σ) ∨ (cyOK σ d i e j n ∧ r = n ∧ σ' = rgA (rgA σ 72 0 n.toNatClampNeg (cyF σ d i)) 71 (60 * e.toNatClampNeg + j.toNatClampNeg) n.toNatClampNeg (cyF σ d i))))))))
theorem t480c {d i k : Int32} (h0 : 0 ≤ d) (h1 : d < 8) (g0 : 0 ≤ i) (f0 : 0 ≤ k) (g1 : i + k < 60) (g2 : i ≤ 60) (g3 : k ≤ 60) : vp_in (60 * d + i + k) 480 ∧ (60 * d + i + k).toNatClampNeg = 60 * d.toNatClampNeg + i.toNatClampNeg + k.toNatClampNeg := by
  have h := t480 (i := i + k) h0 h1 (by grind) g1
  have e : 60 * d + i + k = 60 * d + (i + k) := by grind
  rw [e]
  refine ⟨h.1, h.2.trans ?_⟩
  have a : (i + k).toInt = i.toInt + k.toInt := by
    have b0 := Int32.le_iff_toInt_le.mp g0
    have b1 := Int32.le_iff_toInt_le.mp g2
    have b2 := Int32.le_iff_toInt_le.mp f0
    have b3 := Int32.le_iff_toInt_le.mp g3
    rw [Int32.toInt_zero] at b0 b2
    rw [show (60 : Int32).toInt = 60 by decide] at b1 b3
    rw [Int32.toInt_add, Int.bmod_eq_of_le (by omega) (by omega)]
  have c0 := tn_int g0
  have c1 := tn_int f0
  have c2 := tn_int (i := i + k) (by grind)
  omega
set_option maxRecDepth 100000 in
set_option maxHeartbeats 4000000 in
theorem m_X11_copy {G : ha_G} {l : Launch} {σ : ha_St} {d i d2 j n : Int32} (hY : LY σ) (hZ : SZ σ) : hM G l yX11_copy cX11_copy 7 (some .int) { frames := 2, cells := 0, slots := 0, locals := 44 } [.ref (ad G 44), .int d, .int i, .int d2, .int j, .int n] σ (fun v σ' => ∃ r, v = some (.int r) ∧ mCopyQ σ d i d2 j n r σ') := by
  have hY0 := hY
  refine hM_ofF [(0, .ref (ad G 44)), (1, .int d), (2, .int i), (3, .int d2), (4, .int j), (5, .int n)] (by decide +kernel) (Nat.le_of_ble_eq_true rfl) rfl ?_
  intro p e s m args below meth c0 C hin
  refine h_aload_n C 0 dX11_copy_0 rfl rfl ?_
  refine h_iload_n C 1 dX11_copy_1 rfl rfl ?_
  refine h_callV C (m_X11_isShelf (hY.same rfl rfl rfl)) caX11_272 kX11 (ty_44 hY) ⟨by decide, by decide, by decide, by decide⟩ rfl rfl (Nat.le_of_ble_eq_true rfl) dX11_copy_2 ?_
  rintro v σ' ⟨rfl, h2⟩; rw [h2]; clear h2
  show hW _ _ _ _ _ _ _ _ _ _ _ _ _ 5 [(0, .ref (ad G 44)), (1, .int d), (2, .int i), (3, .int d2), (4, .int j), (5, .int n)] [.int (inV d 0 7)] σ 0 0
  refine h_if_eq C 16 dX11_copy_5 (by decide) (fun c_5 => ?_) (fun c_5 => ?_)
  · refine h_iconst C (-1) dX11_copy_16 (by decide) ?_
    refine h_iret C rfl (Nat.zero_le _) (Nat.zero_le _) dX11_copy_17 ?_
    exact ⟨_, rfl, Or.inl ⟨fun q => inV_0 c_5 q.1, rfl, rfl⟩⟩
  · refine h_aload_n C 0 dX11_copy_8 rfl rfl ?_
    refine h_iload_n C 3 dX11_copy_9 rfl rfl ?_
    refine h_callV C (m_X11_isShelf (hY.same rfl rfl rfl)) caX11_272 kX11 (ty_44 hY) ⟨by decide, by decide, by decide, by decide⟩ rfl rfl (Nat.le_of_ble_eq_true rfl) dX11_copy_10 ?_
    rintro v σ' ⟨rfl, h2⟩; rw [h2]; clear h2
    show hW _ _ _ _ _ _ _ _ _ _ _ _ _ 13 [(0, .ref (ad G 44)), (1, .int d), (2, .int i), (3, .int d2), (4, .int j), (5, .int n)] [.int (inV d2 0 7)] σ 0 0
    refine h_if_ne C 18 dX11_copy_13 (by decide) (fun c_13 => ?_) (fun c_13 => ?_)
    · refine h_aload_n C 0 dX11_copy_18 rfl rfl ?_
      refine gfX11_106 C (ty_44 hY) dX11_copy_19 ?_
      refine h_tref (b := 65) (rf_44_31 hY) ?_
      refine h_iload_n C 1 dX11_copy_22 rfl rfl ?_
      refine h_iald C (ty_65 hY) (shOK.v (inV_1 c_5)) dX11_copy_23 ?_
      refine h_if_eq C 36 dX11_copy_24 (by decide) (fun c_24 => ?_) (fun c_24 => ?_)
      · refine h_bipush C (-11) dX11_copy_36 (by decide) ?_
        refine h_iret C rfl (Nat.zero_le _) (Nat.zero_le _) dX11_copy_38 ?_
        exact ⟨_, rfl, Or.inr ⟨⟨inV_1 c_5, inV_1 c_13⟩, Or.inl ⟨Or.inl c_24, rfl, rfl⟩⟩⟩
      · refine h_aload_n C 0 dX11_copy_27 rfl rfl ?_
        refine gfX11_106 C (ty_44 hY) dX11_copy_28 ?_
        refine h_tref (b := 65) (rf_44_31 hY) ?_
        refine h_iload_n C 3 dX11_copy_31 rfl rfl ?_
        refine h_iald C (ty_65 hY) (shOK.v (inV_1 c_13)) dX11_copy_32 ?_
        refine h_if_ne C 39 dX11_copy_33 (by decide) (fun c_33 => ?_) (fun c_33 => ?_)
        · refine h_aload_n C 0 dX11_copy_39 rfl rfl ?_
          refine gfX11_106 C (ty_44 hY) dX11_copy_40 ?_
          refine h_tref (b := 65) (rf_44_31 hY) ?_
          refine h_iload_n C 1 dX11_copy_43 rfl rfl ?_
          refine h_iald C (ty_65 hY) (shOK.v (inV_1 c_5)) dX11_copy_44 ?_
          refine h_iconst C 3 dX11_copy_45 (by decide) ?_
          refine h_icmp_lt C 64 dX11_copy_46 (by decide) (fun c_46 => ?_) (fun c_46 => ?_)
          · refine h_bipush C (-12) dX11_copy_64 (by decide) ?_
            refine h_iret C rfl (Nat.zero_le _) (Nat.zero_le _) dX11_copy_66 ?_
            exact ⟨_, rfl, Or.inr ⟨⟨inV_1 c_5, inV_1 c_13⟩, Or.inr ⟨fun q => q.elim c_24 c_33, Or.inl ⟨fun q => absurd q.1 (Int32.not_le.mpr c_46), rfl, rfl⟩⟩⟩⟩
          · refine h_aload_n C 0 dX11_copy_49 rfl rfl ?_
            refine gfX11_106 C (ty_44 hY) dX11_copy_50 ?_
            refine h_tref (b := 65) (rf_44_31 hY) ?_
            refine h_iload_n C 1 dX11_copy_53 rfl rfl ?_
            refine h_iald C (ty_65 hY) (shOK.v (inV_1 c_5)) dX11_copy_54 ?_
            refine h_aload_n C 0 dX11_copy_55 rfl rfl ?_
            refine gfX11_106 C (ty_44 hY) dX11_copy_56 ?_
            refine h_tref (b := 65) (rf_44_31 hY) ?_
            refine h_iload_n C 3 dX11_copy_59 rfl rfl ?_
            refine h_iald C (ty_65 hY) (shOK.v (inV_1 c_13)) dX11_copy_60 ?_
            refine h_icmp_eq C 67 dX11_copy_61 (by decide) (fun c_61 => ?_) (fun c_61 => ?_)
            · refine h_iload C 5 dX11_copy_67 rfl ?_
              refine h_if_lt C 108 dX11_copy_69 (by decide) (fun c_69 => ?_) (fun c_69 => ?_)
              · refine h_bipush C (-13) dX11_copy_108 (by decide) ?_
                refine h_iret C rfl (Nat.zero_le _) (Nat.zero_le _) dX11_copy_110 ?_
                exact ⟨_, rfl, Or.inr ⟨⟨inV_1 c_5, inV_1 c_13⟩, Or.inr ⟨fun q => q.elim c_24 c_33, Or.inr ⟨⟨Int32.not_lt.mp c_46, c_61⟩, Or.inl ⟨fun q => absurd q.1 (Int32.not_le.mpr c_69), rfl, rfl⟩⟩⟩⟩⟩
              · refine h_iload_n C 2 dX11_copy_72 rfl rfl ?_
                refine h_if_lt C 108 dX11_copy_73 (by decide) (fun c_73 => ?_) (fun c_73 => ?_)
                · refine h_bipush C (-13) dX11_copy_108 (by decide) ?_
                  refine h_iret C rfl (Nat.zero_le _) (Nat.zero_le _) dX11_copy_110 ?_
                  exact ⟨_, rfl, Or.inr ⟨⟨inV_1 c_5, inV_1 c_13⟩, Or.inr ⟨fun q => q.elim c_24 c_33, Or.inr ⟨⟨Int32.not_lt.mp c_46, c_61⟩, Or.inl ⟨fun q => absurd q.2.1 (Int32.not_le.mpr c_73), rfl, rfl⟩⟩⟩⟩⟩
                · refine h_iload C 4 dX11_copy_76 rfl ?_
                  refine h_if_lt C 108 dX11_copy_78 (by decide) (fun c_78 => ?_) (fun c_78 => ?_)
                  · refine h_bipush C (-13) dX11_copy_108 (by decide) ?_
                    refine h_iret C rfl (Nat.zero_le _) (Nat.zero_le _) dX11_copy_110 ?_
                    exact ⟨_, rfl, Or.inr ⟨⟨inV_1 c_5, inV_1 c_13⟩, Or.inr ⟨fun q => q.elim c_24 c_33, Or.inr ⟨⟨Int32.not_lt.mp c_46, c_61⟩, Or.inl ⟨fun q => absurd q.2.2.1 (Int32.not_le.mpr c_78), rfl, rfl⟩⟩⟩⟩⟩
                  · refine h_iload_n C 2 dX11_copy_81 rfl rfl ?_
                    refine h_aload_n C 0 dX11_copy_82 rfl rfl ?_
                    refine gfX11_121 C (ty_44 hY) dX11_copy_83 ?_
                    refine h_tref (b := 70) (rf_44_36 hY) ?_
                    refine h_iload_n C 1 dX11_copy_86 rfl rfl ?_
                    refine h_iald C (ty_70 hY) (shOK.v (inV_1 c_5)) dX11_copy_87 ?_
                    refine h_iload C 5 dX11_copy_88 rfl ?_
                    refine h_isub C dX11_copy_90 ?_
                    refine h_icmp_gt C 108 dX11_copy_91 (by decide) (fun c_91 => ?_) (fun c_91 => ?_)
                    · refine h_bipush C (-13) dX11_copy_108 (by decide) ?_
                      refine h_iret C rfl (Nat.zero_le _) (Nat.zero_le _) dX11_copy_110 ?_
                      exact ⟨_, rfl, Or.inr ⟨⟨inV_1 c_5, inV_1 c_13⟩, Or.inr ⟨fun q => q.elim c_24 c_33, Or.inr ⟨⟨Int32.not_lt.mp c_46, c_61⟩, Or.inl ⟨fun q => absurd q.2.2.2.1 (Int32.not_le.mpr c_91), rfl, rfl⟩⟩⟩⟩⟩
                    · refine h_iload C 4 dX11_copy_94 rfl ?_
                      refine h_aload_n C 0 dX11_copy_96 rfl rfl ?_
                      refine gfX11_121 C (ty_44 hY) dX11_copy_97 ?_
                      refine h_tref (b := 70) (rf_44_36 hY) ?_
                      refine h_iload_n C 3 dX11_copy_100 rfl rfl ?_
                      refine h_iald C (ty_70 hY) (shOK.v (inV_1 c_13)) dX11_copy_101 ?_
                      refine h_iload C 5 dX11_copy_102 rfl ?_
                      refine h_isub C dX11_copy_104 ?_
                      refine h_icmp_le C 111 dX11_copy_105 (by decide) (fun c_105 => ?_) (fun c_105 => ?_)
                      · have hsd : shOK d := inV_1 c_5
                        have hse : shOK d2 := inV_1 c_13
                        have hok : cyOK σ d i d2 j n := ⟨Int32.not_lt.mp c_69, Int32.not_lt.mp c_73, Int32.not_lt.mp c_78, Int32.not_lt.mp c_91, c_105⟩
                        refine h_iconst C 0 dX11_copy_111 (by decide) ?_
                        refine h_istore C [(6, .int 0), (0, .ref (ad G 44)), (1, .int d), (2, .int i), (3, .int d2), (4, .int j), (5, .int n)] dX11_copy_112 (by decide) rfl ?_
                        refine h_sub [1, 2, 3, 4, 5, 6, 0] rfl ?_
                        refine h_loop (α := Int32 × ha_St) (fun (k, σ1) => 0 ≤ k ∧ k ≤ n ∧ σ1 = rgA σ 72 0 k.toNatClampNeg (cyF σ d i)) (fun (k, σ1) => tm n k) (fun (k, σ1) => [(0, .ref (ad G 44)), (1, .int d), (2, .int i), (3, .int d2), (4, .int j), (5, .int n), (6, .int k)]) (fun (k, σ1) => []) (fun (k, σ1) => σ1) (fun (k, σ1) => 0) (fun (k, σ1) => 0) ?_ (0, σ) ?_
                        · rintro ⟨k, σ1⟩ hI1 ih1
                          show hW _ _ _ _ _ _ _ _ _ _ _ _ _ 114 [(0, .ref (ad G 44)), (1, .int d), (2, .int i), (3, .int d2), (4, .int j), (5, .int n), (6, .int k)] [] σ1 0 0
                          have hY : LY σ1 := by rw [hI1.2.2]; exact rgA_Y hY0
                          refine h_iload C 6 dX11_copy_114 rfl ?_
                          refine h_iload C 5 dX11_copy_116 rfl ?_
                          refine h_icmp_ge C 148 dX11_copy_118 (by decide) (fun c_118 => ?_) (fun c_118 => ?_)
                          · refine h_iconst C 0 dX11_copy_148 (by decide) ?_
                            refine h_istore C [(6, .int 0), (0, .ref (ad G 44)), (1, .int d), (2, .int i), (3, .int d2), (4, .int j), (5, .int n)] dX11_copy_149 (by decide) rfl ?_
                            refine h_sub [1, 4, 5, 6, 0] rfl ?_
                            refine h_loop (α := Int32 × ha_St) (fun (k, σ2) => 0 ≤ k ∧ k ≤ n ∧ σ2 = rgA (rgA σ 72 0 n.toNatClampNeg (cyF σ d i)) 71 (60 * d2.toNatClampNeg + j.toNatClampNeg) k.toNatClampNeg (cyF σ d i)) (fun (k, σ2) => tm n k) (fun (k, σ2) => [(0, .ref (ad G 44)), (3, .int d2), (4, .int j), (5, .int n), (6, .int k)]) (fun (k, σ2) => []) (fun (k, σ2) => σ2) (fun (k, σ2) => 0) (fun (k, σ2) => 0) ?_ (0, σ1) ?_
                            · rintro ⟨k, σ2⟩ hI2 ih2
                              show hW _ _ _ _ _ _ _ _ _ _ _ _ _ 151 [(0, .ref (ad G 44)), (3, .int d2), (4, .int j), (5, .int n), (6, .int k)] [] σ2 0 0
                              have hY : LY σ2 := by rw [hI2.2.2]; exact rgA_Y (rgA_Y hY0)
                              refine h_iload C 4 dX11_copy_151 rfl ?_
                              refine h_iload C 3 dX11_copy_153 rfl ?_
                              refine h_icmp_ge C 186 dX11_copy_155 (by decide) (fun c_155 => ?_) (fun c_155 => ?_)
                              · refine h_iload C 3 dX11_copy_186 rfl ?_
                                refine h_iret C rfl (Nat.zero_le _) (Nat.zero_le _) dX11_copy_188 ?_
                                have he := eq_end hI2.2.1 (Int32.not_lt.mpr c_155)
                                have hq := hI2.2.2
                                rw [he] at hq
                                exact ⟨_, rfl, Or.inr ⟨⟨inV_1 c_5, inV_1 c_13⟩, Or.inr ⟨fun q => q.elim c_24 c_33, Or.inr ⟨⟨Int32.not_lt.mp c_46, c_61⟩, Or.inr ⟨hok, rfl, hq⟩⟩⟩⟩⟩
                              · have hkl := Int32.not_le.mp c_155
                                have hb := t480c (k := k) hse.1 hse.l hok.2.2.1 hI2.1 (by have h1 := hok; have h2 := hZ d2 hse; have h3 := hI2.1; unfold cyOK at h1; clear C; grind) (by have h1 := hok; have h2 := hZ d2 hse; unfold cyOK at h1; clear C; grind) (by have h1 := hok; have h2 := hZ d2 hse; unfold cyOK at h1; clear C; grind)
                                have hvk : vp_in k 60 := vp32 (N := 60) hI2.1 (by have h1 := hok; have h2 := hZ d hsd; unfold cyOK at h1; clear C; grind) (by decide)
                                refine h_aload_n C 0 dX11_copy_158 rfl rfl ?_
                                refine gfX11_124 C (ty_44 hY) dX11_copy_159 ?_
                                refine h_tref (b := 71) (rf_44_37 hY) ?_
                                refine h_bipush C 60 dX11_copy_162 (by decide) ?_
                                refine h_iload_n C 1 dX11_copy_164 rfl rfl ?_
                                refine h_imul C dX11_copy_165 ?_
                                refine h_iload C 2 dX11_copy_166 rfl ?_
                                refine h_iadd C dX11_copy_168 ?_
                                refine h_iload C 4 dX11_copy_169 rfl ?_
                                refine h_iadd C dX11_copy_171 ?_
                                refine h_aload_n C 0 dX11_copy_172 rfl rfl ?_
                                refine gfX11_127 C (ty_44 hY) dX11_copy_173 ?_
                                refine h_tref (b := 72) (rf_44_38 hY) ?_
                                refine h_iload C 4 dX11_copy_176 rfl ?_
                                refine h_iald C (ty_72 hY) hvk dX11_copy_178 ?_
                                refine h_iast C _ (ty_71 hY) hb.1 dX11_copy_179 rfl ?_
                                refine h_iinc C [(6, .int (k + 1)), (0, .ref (ad G 44)), (3, .int d2), (4, .int j), (5, .int n)] 4 (k + 1) dX11_copy_180 rfl rfl (by decide) rfl ?_
                                refine h_goto C 151 dX11_copy_183 (by decide) ?_
                                refine h_sub [1, 2, 3, 4, 0] rfl ?_
                                refine ih2 ((k + 1), (sI σ2 71 (((60 * d2) + j) + k).toNatClampNeg (gI σ2 72 k.toNatClampNeg))) ?_ ?_
                                · refine ⟨(le_succ hI2.1 hkl).1, (le_succ hI2.1 hkl).2, ?_⟩
                                  have hlt := tn_lt hI2.1 hkl
                                  rw [tn_succ hI2.1 hkl, ← rgA_s (v := gI σ2 72 k.toNatClampNeg) (by rw [hI2.2.2, gI_rgN (by omega), gI_rgA, if_pos (by omega), Nat.sub_zero]), hb.2, hI2.2.2]
                                · exact tm_lt hkl
                            · have he := eq_end hI1.2.1 (Int32.not_lt.mpr c_118)
                              have hq := hI1.2.2
                              rw [he] at hq
                              exact ⟨by decide, hok.1, by rw [tn_0, hq]; exact rgA_0.symm⟩
                          · have hkl := Int32.not_le.mp c_118
                            have hb := t480c (k := k) hsd.1 hsd.l hok.2.1 hI1.1 (by have h1 := hok; have h2 := hZ d hsd; have h3 := hI1.1; unfold cyOK at h1; clear C; grind) (by have h1 := hok; have h2 := hZ d hsd; unfold cyOK at h1; clear C; grind) (by have h1 := hok; have h2 := hZ d hsd; unfold cyOK at h1; clear C; grind)
                            have hvk : vp_in k 60 := vp32 (N := 60) hI1.1 (by have h1 := hok; have h2 := hZ d hsd; unfold cyOK at h1; clear C; grind) (by decide)
                            refine h_aload_n C 0 dX11_copy_121 rfl rfl ?_
                            refine gfX11_127 C (ty_44 hY) dX11_copy_122 ?_
                            refine h_tref (b := 72) (rf_44_38 hY) ?_
                            refine h_iload C 6 dX11_copy_125 rfl ?_
                            refine h_aload_n C 0 dX11_copy_127 rfl rfl ?_
                            refine gfX11_124 C (ty_44 hY) dX11_copy_128 ?_
                            refine h_tref (b := 71) (rf_44_37 hY) ?_
                            refine h_bipush C 60 dX11_copy_131 (by decide) ?_
                            refine h_iload_n C 1 dX11_copy_133 rfl rfl ?_
                            refine h_imul C dX11_copy_134 ?_
                            refine h_iload_n C 2 dX11_copy_135 rfl rfl ?_
                            refine h_iadd C dX11_copy_136 ?_
                            refine h_iload C 6 dX11_copy_137 rfl ?_
                            refine h_iadd C dX11_copy_139 ?_
                            refine h_iald C (ty_71 hY) hb.1 dX11_copy_140 ?_
                            refine h_iast C _ (ty_72 hY) hvk dX11_copy_141 rfl ?_
                            refine h_iinc C [(6, .int (k + 1)), (0, .ref (ad G 44)), (1, .int d), (2, .int i), (3, .int d2), (4, .int j), (5, .int n)] 6 (k + 1) dX11_copy_142 rfl rfl (by decide) rfl ?_
                            refine h_goto C 114 dX11_copy_145 (by decide) ?_
                            refine h_sub [1, 2, 3, 4, 5, 6, 0] rfl ?_
                            refine ih1 ((k + 1), (sI σ1 72 k.toNatClampNeg (gI σ1 71 (((60 * d) + i) + k).toNatClampNeg))) ?_ ?_
                            · refine ⟨(le_succ hI1.1 hkl).1, (le_succ hI1.1 hkl).2, ?_⟩
                              rw [tn_succ hI1.1 hkl, ← rgA_s (v := gI σ1 71 (60 * d + i + k).toNatClampNeg) (by rw [hb.2, hI1.2.2, gI_rgN (by omega)]; rfl), Nat.zero_add, hI1.2.2]
                            · exact tm_lt hkl
                        · exact ⟨by decide, hok.1, by rw [tn_0]; exact rgA_0.symm⟩
                      · refine h_bipush C (-13) dX11_copy_108 (by decide) ?_
                        refine h_iret C rfl (Nat.zero_le _) (Nat.zero_le _) dX11_copy_110 ?_
                        exact ⟨_, rfl, Or.inr ⟨⟨inV_1 c_5, inV_1 c_13⟩, Or.inr ⟨fun q => q.elim c_24 c_33, Or.inr ⟨⟨Int32.not_lt.mp c_46, c_61⟩, Or.inl ⟨fun q => c_105 q.2.2.2.2, rfl, rfl⟩⟩⟩⟩⟩
            · refine h_bipush C (-12) dX11_copy_64 (by decide) ?_
              refine h_iret C rfl (Nat.zero_le _) (Nat.zero_le _) dX11_copy_66 ?_
              exact ⟨_, rfl, Or.inr ⟨⟨inV_1 c_5, inV_1 c_13⟩, Or.inr ⟨fun q => q.elim c_24 c_33, Or.inl ⟨fun q => c_61 q.2, rfl, rfl⟩⟩⟩⟩
        · refine h_bipush C (-11) dX11_copy_36 (by decide) ?_
          refine h_iret C rfl (Nat.zero_le _) (Nat.zero_le _) dX11_copy_38 ?_
          exact ⟨_, rfl, Or.inr ⟨⟨inV_1 c_5, inV_1 c_13⟩, Or.inl ⟨Or.inr c_33, rfl, rfl⟩⟩⟩
    · refine h_iconst C (-1) dX11_copy_16 (by decide) ?_
      refine h_iret C rfl (Nat.zero_le _) (Nat.zero_le _) dX11_copy_17 ?_
      exact ⟨_, rfl, Or.inl ⟨fun q => inV_0 c_13 q.2, rfl, rfl⟩⟩
