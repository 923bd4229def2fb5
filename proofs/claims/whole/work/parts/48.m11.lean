/-! ===== the reference: a set-up, a row of sides told ===== -/
def mPath (σ : ha_St) : Nat → Int32 → Prop
  | 0, d => d = 0
  | k + 1, d => ∃ d0 r, mPath σ k d0 ∧ sfQ σ d0 r ∧ d = WK σ d0 r
def mHE (σ : ha_St) : Prop := ∀ σ', mfQ σ σ' → ∀ d, 0 ≤ d → d < mAll σ → sfE σ' d
def mSetupQ (σ : ha_St) (i w r : Int32) (σ' : ha_St) : Prop := (¬ (0 ≤ i ∧ 0 ≤ w ∧ w ≤ 1) ∧ r = -1 ∧ σ' = σ) ∨ ((0 ≤ i ∧ 0 ≤ w ∧ w ≤ 1) ∧ mfQ σ σ' ∧ ((¬ i < gI σ' 62 0 ∧ r = -3) ∨ (i < gI σ' 62 0 ∧ ∃ d q, mPath σ' i.toNatClampNeg d ∧ sfQ σ' d q ∧ r = if w = 0 then q else WK σ' d q &&& (d ^^^ (-1)))))
set_option maxRecDepth 100000 in
set_option maxHeartbeats 4000000 in
theorem m_X11_setup {G : ha_G} {l : Launch} {σ : ha_St} {i w : Int32} (hY : LY σ) (hs0 : 0 ≤ gI σ 44 23) (hs1 : gI σ 44 23 ≤ 12) (hB : WB σ) (hE : mHE σ) : hM G l yX11_setup cX11_setup 5 (some .int) { frames := 2, cells := 0, slots := 0, locals := 48 } [.ref (ad G 44), .int i, .int w] σ (fun v σ' => ∃ r, v = some (.int r) ∧ mSetupQ σ i w r σ') := by
  refine hM_ofF [(0, .ref (ad G 44)), (1, .int i), (2, .int w)] (by decide +kernel) (Nat.le_of_ble_eq_true rfl) rfl ?_
  intro p e s m args below meth c0 C hin
  refine h_iload_n C 1 dX11_setup_0 rfl rfl ?_
  refine h_if_lt C 14 dX11_setup_1 (by decide) (fun c_1 => ?_) (fun c_1 => ?_)
  · refine h_iconst C (-1) dX11_setup_14 (by decide) ?_
    refine h_iret C rfl (Nat.zero_le _) (Nat.zero_le _) dX11_setup_15 ?_
    exact ⟨_, rfl, Or.inl ⟨fun q => absurd q.1 (Int32.not_le.mpr c_1), rfl, rfl⟩⟩
  · refine h_aload_n C 0 dX11_setup_4 rfl rfl ?_
    refine h_iload_n C 2 dX11_setup_5 rfl rfl ?_
    refine h_iconst C 0 dX11_setup_6 (by decide) ?_
    refine h_iconst C 1 dX11_setup_7 (by decide) ?_
    refine h_callV C m_X11_in caX11_130 kX11 (ty_44 hY) ⟨by decide, by decide, by decide, by decide⟩ rfl rfl (Nat.le_of_ble_eq_true rfl) dX11_setup_8 ?_
    rintro v σ' ⟨rfl, h2⟩; rw [h2]; clear h2
    show hW _ _ _ _ _ _ _ _ _ _ _ _ _ 11 [(0, .ref (ad G 44)), (1, .int i), (2, .int w)] [.int (inV w 0 1)] σ 0 0
    refine h_if_ne C 16 dX11_setup_11 (by decide) (fun c_11 => ?_) (fun c_11 => ?_)
    · refine h_aload_n C 0 dX11_setup_16 rfl rfl ?_
      refine h_callV C (m_X11_findFewest hY hs0 hs1 hB) caX11_260 kX11 (ty_44 hY) ⟨by decide, by decide, by decide, by decide⟩ rfl rfl (Nat.le_of_ble_eq_true rfl) dX11_setup_17 ?_
      rintro v σ1 ⟨rfl, hm⟩
      have hY : LY σ1 := hm.1.LY hY
      have hs0' : 0 ≤ gI σ1 44 23 := by rw [frM_n hm.1]; exact hs0
      have hs1' : gI σ1 44 23 ≤ 12 := by rw [frM_n hm.1]; exact hs1
      have hB' : WB σ1 := frM_WB hm.1 hB
      have hal : mAll σ1 = mAll σ := frM_all hm.1
      show hW _ _ _ _ _ _ _ _ _ _ _ _ _ 20 [(0, .ref (ad G 44)), (1, .int i), (2, .int w)] [] σ1 0 0
      refine h_iload_n C 1 dX11_setup_20 rfl rfl ?_
      refine h_aload_n C 0 dX11_setup_21 rfl rfl ?_
      refine gfX11_91 C (ty_44 hY) dX11_setup_22 ?_
      refine h_tref (b := 62) (rf_44_26 hY) ?_
      refine h_iconst C 0 dX11_setup_25 (by decide) ?_
      refine h_iald C (ty_62 hY) (vp32 (N := 4096) (by decide) (by decide) (by decide)) dX11_setup_26 ?_
      show hW _ _ _ _ _ _ _ _ _ _ _ _ _ 27 [(0, .ref (ad G 44)), (1, .int i), (2, .int w)] [.int (gI σ1 62 0), .int i] σ1 0 0
      refine h_icmp_lt C 33 dX11_setup_27 (by decide) (fun c_27 => ?_) (fun c_27 => ?_)
      · refine h_iconst C 0 dX11_setup_33 (by decide) ?_
        refine h_istore_n C [(3, .int 0), (0, .ref (ad G 44)), (1, .int i), (2, .int w)] dX11_setup_34 rfl (by decide) rfl ?_
        refine h_iconst C 0 dX11_setup_35 (by decide) ?_
        refine h_istore C [(4, .int 0), (3, .int 0), (0, .ref (ad G 44)), (1, .int i), (2, .int w)] dX11_setup_36 (by decide) rfl ?_
        refine h_sub [2, 3, 4, 1, 0] rfl ?_
        refine h_loop (α := Int32 × Int32) (fun (d, k) => 0 ≤ k ∧ k ≤ i ∧ mPath σ1 k.toNatClampNeg d ∧ (0 ≤ d ∧ d ≤ mAll σ) ∧ gI σ1 62 d.toNatClampNeg + k = gI σ1 62 0) (fun (d, k) => tm i k) (fun (d, k) => [(0, .ref (ad G 44)), (1, .int i), (2, .int w), (3, .int d), (4, .int k)]) (fun (d, k) => []) (fun (d, k) => σ1) (fun (d, k) => 0) (fun (d, k) => 0) ?_ (0, 0) ?_
        · rintro ⟨d, k⟩ hI ih
          show hW _ _ _ _ _ _ _ _ _ _ _ _ _ 38 [(0, .ref (ad G 44)), (1, .int i), (2, .int w), (3, .int d), (4, .int k)] [] σ1 0 0
          refine h_iload C 4 dX11_setup_38 rfl ?_
          refine h_iload_n C 1 dX11_setup_40 rfl rfl ?_
          refine h_icmp_ge C 61 dX11_setup_41 (by decide) (fun c_41 => ?_) (fun c_41 => ?_)
          · have hdl : d < mAll σ := by
              have hle := hI.2.2.2.1.2
              have hz : d ≠ mAll σ := by
                intro z
                have h1 := hI.2.2.2.2
                rw [z, hm.2.1] at h1
                have h2 := c_27
                have h3 := hI.2.1
                clear C
                grind
              clear C
              grind
            refine h_iload_n C 2 dX11_setup_61 rfl rfl ?_
            refine h_if_ne C 73 dX11_setup_62 (by decide) (fun c_62 => ?_) (fun c_62 => ?_)
            · refine h_aload_n C 0 dX11_setup_73 rfl rfl ?_
              refine h_iload_n C 3 dX11_setup_74 rfl rfl ?_
              refine h_aload_n C 0 dX11_setup_75 rfl rfl ?_
              refine h_iload_n C 3 dX11_setup_76 rfl rfl ?_
              refine h_callV C (m_X11_sideFor hY hs0' hs1' hB' hI.2.2.2.1.1 (by rw [hal]; exact hI.2.2.2.1.2) (hE σ1 hm d hI.2.2.2.1.1 hdl)) caX11_263 kX11 (ty_44 hY) ⟨by decide, by decide, by decide, by decide⟩ rfl rfl (Nat.le_of_ble_eq_true rfl) dX11_setup_77 ?_
              rintro v σ' ⟨⟨q, rfl, hq⟩, h2⟩; rw [h2]; clear h2
              show hW _ _ _ _ _ _ _ _ _ _ _ _ _ 80 [(0, .ref (ad G 44)), (1, .int i), (2, .int w), (3, .int d), (4, .int k)] [.int q, .int d, .ref (ad G 44)] σ1 0 0
              refine h_callV C (m_X11_work hY hs0' hs1') caX11_256 kX11 (ty_44 hY) ⟨by decide, by decide, by decide, by decide⟩ rfl rfl (Nat.le_of_ble_eq_true rfl) dX11_setup_80 ?_
              rintro v σ' ⟨rfl, h2⟩; rw [h2]; clear h2
              show hW _ _ _ _ _ _ _ _ _ _ _ _ _ 83 [(0, .ref (ad G 44)), (1, .int i), (2, .int w), (3, .int d), (4, .int k)] [.int (WK σ1 d q)] σ1 0 0
              refine h_iload_n C 3 dX11_setup_83 rfl rfl ?_
              refine h_iconst C (-1) dX11_setup_84 (by decide) ?_
              refine h_ixor C dX11_setup_85 ?_
              refine h_iand C dX11_setup_86 ?_
              refine h_iret C rfl (Nat.zero_le _) (Nat.zero_le _) dX11_setup_87 ?_
              have he := eq_end hI.2.1 (Int32.not_lt.mpr c_41)
              have hP := hI.2.2.1
              rw [he] at hP
              refine ⟨_, rfl, Or.inr ⟨⟨Int32.not_lt.mp c_1, inV_1 c_11⟩, hm, Or.inr ⟨c_27, d, q, hP, hq, ?_⟩⟩⟩
              rw [if_neg c_62]
            · refine h_aload_n C 0 dX11_setup_65 rfl rfl ?_
              refine h_iload_n C 3 dX11_setup_66 rfl rfl ?_
              refine h_callV C (m_X11_sideFor hY hs0' hs1' hB' hI.2.2.2.1.1 (by rw [hal]; exact hI.2.2.2.1.2) (hE σ1 hm d hI.2.2.2.1.1 hdl)) caX11_263 kX11 (ty_44 hY) ⟨by decide, by decide, by decide, by decide⟩ rfl rfl (Nat.le_of_ble_eq_true rfl) dX11_setup_67 ?_
              rintro v σ' ⟨⟨q, rfl, hq⟩, h2⟩; rw [h2]; clear h2
              show hW _ _ _ _ _ _ _ _ _ _ _ _ _ 70 [(0, .ref (ad G 44)), (1, .int i), (2, .int w), (3, .int d), (4, .int k)] [.int q] σ1 0 0
              refine h_goto C 87 dX11_setup_70 (by decide) ?_
              refine h_iret C rfl (Nat.zero_le _) (Nat.zero_le _) dX11_setup_87 ?_
              have he := eq_end hI.2.1 (Int32.not_lt.mpr c_41)
              have hP := hI.2.2.1
              rw [he] at hP
              refine ⟨_, rfl, Or.inr ⟨⟨Int32.not_lt.mp c_1, inV_1 c_11⟩, hm, Or.inr ⟨c_27, d, q, hP, hq, ?_⟩⟩⟩
              rw [if_pos c_62]
          · have hdl : d < mAll σ := by
              have hle := hI.2.2.2.1.2
              have hz : d ≠ mAll σ := by
                intro z
                have h1 := hI.2.2.2.2
                rw [z, hm.2.1] at h1
                have h2 := c_27
                have h3 := Int32.not_le.mp c_41
                clear C
                grind
              clear C
              grind
            refine h_aload_n C 0 dX11_setup_44 rfl rfl ?_
            refine h_iload_n C 3 dX11_setup_45 rfl rfl ?_
            refine h_aload_n C 0 dX11_setup_46 rfl rfl ?_
            refine h_iload_n C 3 dX11_setup_47 rfl rfl ?_
            refine h_callV C (m_X11_sideFor hY hs0' hs1' hB' hI.2.2.2.1.1 (by rw [hal]; exact hI.2.2.2.1.2) (hE σ1 hm d hI.2.2.2.1.1 hdl)) caX11_263 kX11 (ty_44 hY) ⟨by decide, by decide, by decide, by decide⟩ rfl rfl (Nat.le_of_ble_eq_true rfl) dX11_setup_48 ?_
            rintro v σ' ⟨⟨q, rfl, hq⟩, h2⟩; rw [h2]; clear h2
            show hW _ _ _ _ _ _ _ _ _ _ _ _ _ 51 [(0, .ref (ad G 44)), (1, .int i), (2, .int w), (3, .int d), (4, .int k)] [.int q, .int d, .ref (ad G 44)] σ1 0 0
            refine h_callV C (m_X11_work hY hs0' hs1') caX11_256 kX11 (ty_44 hY) ⟨by decide, by decide, by decide, by decide⟩ rfl rfl (Nat.le_of_ble_eq_true rfl) dX11_setup_51 ?_
            rintro v σ' ⟨rfl, h2⟩; rw [h2]; clear h2
            show hW _ _ _ _ _ _ _ _ _ _ _ _ _ 54 [(0, .ref (ad G 44)), (1, .int i), (2, .int w), (3, .int d), (4, .int k)] [.int (WK σ1 d q)] σ1 0 0
            refine h_istore_n C [(3, .int (WK σ1 d q)), (0, .ref (ad G 44)), (1, .int i), (2, .int w), (4, .int k)] dX11_setup_54 rfl (by decide) rfl ?_
            refine h_iinc C [(4, .int (k + 1)), (3, .int (WK σ1 d q)), (0, .ref (ad G 44)), (1, .int i), (2, .int w)] 4 (k + 1) dX11_setup_55 rfl rfl (by decide) rfl ?_
            refine h_goto C 38 dX11_setup_58 (by decide) ?_
            refine h_sub [2, 3, 4, 1, 0] rfl ?_
            refine ih ((WK σ1 d q), (k + 1)) ?_ ?_
            · have hkl := Int32.not_le.mp c_41
              have hWd := hB'.2 d q hI.2.2.2.1.1 (by rw [hal]; exact hI.2.2.2.1.2) hq.1.1 hq.1.2
              refine ⟨(le_succ hI.1 hkl).1, (le_succ hI.1 hkl).2, ?_, ⟨Int32.le_trans hI.2.2.2.1.1 hWd.1, by rw [← hal]; exact hWd.2⟩, ?_⟩
              · rw [tn_succ hI.1 hkl]
                exact ⟨d, q, hI.2.2.1, hq, rfl⟩
              · have h1 := hq.2.1.2
                have h2 := hI.2.2.2.2
                clear C
                grind
            · exact tm_lt (Int32.not_le.mp c_41)
        · refine ⟨by decide, Int32.not_lt.mp c_1, by rw [tn_0]; rfl, ⟨by decide, hB.1.1⟩, ?_⟩
          rw [tn_0]
          clear C
          grind
      · refine h_bipush C (-3) dX11_setup_30 (by decide) ?_
        refine h_iret C rfl (Nat.zero_le _) (Nat.zero_le _) dX11_setup_32 ?_
        exact ⟨_, rfl, Or.inr ⟨⟨Int32.not_lt.mp c_1, inV_1 c_11⟩, hm, Or.inl ⟨c_27, rfl⟩⟩⟩
    · refine h_iconst C (-1) dX11_setup_14 (by decide) ?_
      refine h_iret C rfl (Nat.zero_le _) (Nat.zero_le _) dX11_setup_15 ?_
      exact ⟨_, rfl, Or.inl ⟨fun q => inV_0 c_11 q.2, rfl, rfl⟩⟩
def pw6 : Nat → Int32
  | 0 => 1
  | n + 1 => pw6 n * 6
def mdR (σ : ha_St) (row : Int32) : Nat → Int32 × Int32
  | 0 => (0, row)
  | i + 1 => (WK σ (mdR σ row i).1 ((mdR σ row i).2 - (mdR σ row i).2 / 6 * 6), (mdR σ row i).2 / 6)
def mtP (σ : ha_St) (row n r : Int32) : Prop := (0 ≤ r ∧ r ≤ n ∧ (mdR σ row r.toNatClampNeg).1 = mAll σ ∧ ∀ i, i < r.toNatClampNeg → (mdR σ row i).1 ≠ mAll σ) ∨ (r = -4 ∧ ∀ i, i ≤ n.toNatClampNeg → (mdR σ row i).1 ≠ mAll σ)
def mToldQ (σ : ha_St) (x n r : Int32) : Prop := (¬ ((0 ≤ x ∧ 1 ≤ n ∧ n ≤ 10) ∧ x < pw6 n.toNatClampNeg) ∧ r = -1) ∨ (((0 ≤ x ∧ 1 ≤ n ∧ n ≤ 10) ∧ x < pw6 n.toNatClampNeg) ∧ mtP σ x n r)
set_option maxRecDepth 100000 in
set_option maxHeartbeats 4000000 in
theorem m_X11_told {G : ha_G} {l : Launch} {σ : ha_St} {x n : Int32} (hY : LY σ) (hs0 : 0 ≤ gI σ 44 23) (hs1 : gI σ 44 23 ≤ 12) : hM G l yX11_told cX11_told 8 (some .int) { frames := 1, cells := 0, slots := 0, locals := 24 } [.ref (ad G 44), .int x, .int n] σ (fun v σ' => (∃ r, v = some (.int r) ∧ mToldQ σ x n r) ∧ σ' = σ) := by
  refine hM_ofF [(0, .ref (ad G 44)), (1, .int x), (2, .int n)] (by decide +kernel) (Nat.le_of_ble_eq_true rfl) rfl ?_
  intro p e s m args below meth c0 C hin
  refine h_iload_n C 1 dX11_told_0 rfl rfl ?_
  refine h_if_lt C 15 dX11_told_1 (by decide) (fun c_1 => ?_) (fun c_1 => ?_)
  · refine h_iconst C (-1) dX11_told_15 (by decide) ?_
    refine h_iret C rfl (Nat.zero_le _) (Nat.zero_le _) dX11_told_16 ?_
    exact ⟨⟨_, rfl, Or.inl ⟨fun q => absurd q.1.1 (Int32.not_le.mpr c_1), rfl⟩⟩, rfl⟩
  · refine h_aload_n C 0 dX11_told_4 rfl rfl ?_
    refine h_iload_n C 2 dX11_told_5 rfl rfl ?_
    refine h_iconst C 1 dX11_told_6 (by decide) ?_
    refine h_bipush C 10 dX11_told_7 (by decide) ?_
    refine h_callV C m_X11_in caX11_130 kX11 (ty_44 hY) ⟨by decide, by decide, by decide, by decide⟩ rfl rfl (Nat.le_of_ble_eq_true rfl) dX11_told_9 ?_
    rintro v σ' ⟨rfl, h2⟩; rw [h2]; clear h2
    show hW _ _ _ _ _ _ _ _ _ _ _ _ _ 12 [(0, .ref (ad G 44)), (1, .int x), (2, .int n)] [.int (inV n 1 10)] σ 0 0
    refine h_if_ne C 17 dX11_told_12 (by decide) (fun c_12 => ?_) (fun c_12 => ?_)
    · refine h_iconst C 1 dX11_told_17 (by decide) ?_
      refine h_istore_n C [(3, .int 1), (0, .ref (ad G 44)), (1, .int x), (2, .int n)] dX11_told_18 rfl (by decide) rfl ?_
      refine h_iconst C 0 dX11_told_19 (by decide) ?_
      refine h_istore C [(4, .int 0), (3, .int 1), (0, .ref (ad G 44)), (1, .int x), (2, .int n)] dX11_told_20 (by decide) rfl ?_
      refine h_sub [2, 3, 4, 1, 0] rfl ?_
      refine h_loop (α := Int32 × Int32) (fun (pw, k) => 0 ≤ k ∧ k ≤ n ∧ pw = pw6 k.toNatClampNeg) (fun (pw, k) => tm n k) (fun (pw, k) => [(0, .ref (ad G 44)), (1, .int x), (2, .int n), (3, .int pw), (4, .int k)]) (fun (pw, k) => []) (fun (pw, k) => σ) (fun (pw, k) => 0) (fun (pw, k) => 0) ?_ (1, 0) ?_
      · rintro ⟨pw, k⟩ hI1 ih1
        show hW _ _ _ _ _ _ _ _ _ _ _ _ _ 22 [(0, .ref (ad G 44)), (1, .int x), (2, .int n), (3, .int pw), (4, .int k)] [] σ 0 0
        refine h_iload C 4 dX11_told_22 rfl ?_
        refine h_iload_n C 2 dX11_told_24 rfl rfl ?_
        refine h_icmp_ge C 39 dX11_told_25 (by decide) (fun c_25 => ?_) (fun c_25 => ?_)
        · refine h_iload_n C 1 dX11_told_39 rfl rfl ?_
          refine h_iload_n C 3 dX11_told_40 rfl rfl ?_
          refine h_icmp_lt C 46 dX11_told_41 (by decide) (fun c_41 => ?_) (fun c_41 => ?_)
          · refine h_iconst C 1 dX11_told_46 (by decide) ?_
            refine h_aload_n C 0 dX11_told_47 rfl rfl ?_
            refine gfX11_82 C (ty_44 hY) dX11_told_48 ?_
            refine h_ishl C dX11_told_51 ?_
            refine h_iconst C 1 dX11_told_52 (by decide) ?_
            refine h_isub C dX11_told_53 ?_
            refine h_istore C [(4, .int ((1 <<< ((gI σ 44 23) &&& 31)) - 1)), (0, .ref (ad G 44)), (1, .int x), (2, .int n), (3, .int pw)] dX11_told_54 (by decide) rfl ?_
            show hW _ _ _ _ _ _ _ _ _ _ _ _ _ 56 [(4, .int (mAll σ)), (0, .ref (ad G 44)), (1, .int x), (2, .int n), (3, .int pw)] [] σ 0 0
            have hpe := eq_end hI1.2.1 (Int32.not_lt.mpr c_25)
            have hpw := hI1.2.2
            rw [hpe] at hpw
            have hn0 : 0 ≤ n := by have h1 := inV_1 c_12; clear C; grind
            rw [hpw] at c_41
            refine h_iconst C 0 dX11_told_56 (by decide) ?_
            refine h_istore C [(5, .int 0), (4, .int (mAll σ)), (0, .ref (ad G 44)), (1, .int x), (2, .int n), (3, .int pw)] dX11_told_57 (by decide) rfl ?_
            refine h_iload_n C 3 dX11_told_59 rfl rfl ?_
            refine h_istore C [(6, .int x), (5, .int 0), (4, .int (mAll σ)), (0, .ref (ad G 44)), (1, .int x), (2, .int n), (3, .int pw)] dX11_told_60 (by decide) rfl ?_
            refine h_iconst C 0 dX11_told_62 (by decide) ?_
            refine h_istore C [(7, .int 0), (6, .int x), (5, .int 0), (4, .int (mAll σ)), (0, .ref (ad G 44)), (1, .int x), (2, .int n), (3, .int pw)] dX11_told_63 (by decide) rfl ?_
            refine h_sub [4, 6, 3, 2, 1, 0] rfl ?_
            refine h_loop (α := Int32 × Int32 × Int32) (fun (dn, rs, k) => 0 ≤ k ∧ k ≤ n ∧ (dn, rs) = mdR σ x k.toNatClampNeg ∧ ∀ i, i < k.toNatClampNeg → (mdR σ x i).1 ≠ mAll σ) (fun (dn, rs, k) => tm n k) (fun (dn, rs, k) => [(0, .ref (ad G 44)), (2, .int n), (4, .int (mAll σ)), (5, .int dn), (6, .int rs), (7, .int k)]) (fun (dn, rs, k) => []) (fun (dn, rs, k) => σ) (fun (dn, rs, k) => 0) (fun (dn, rs, k) => 0) ?_ (0, x, 0) ?_
            · rintro ⟨dn, rs, k⟩ hI2 ih2
              show hW _ _ _ _ _ _ _ _ _ _ _ _ _ 65 [(0, .ref (ad G 44)), (2, .int n), (4, .int (mAll σ)), (5, .int dn), (6, .int rs), (7, .int k)] [] σ 0 0
              refine h_iload C 5 dX11_told_65 rfl ?_
              refine h_iload_n C 1 dX11_told_67 rfl rfl ?_
              refine h_icmp_ge C 107 dX11_told_68 (by decide) (fun c_68 => ?_) (fun c_68 => ?_)
              · refine h_iload C 3 dX11_told_107 rfl ?_
                refine h_iload C 2 dX11_told_109 rfl ?_
                refine h_icmp_ne C 118 dX11_told_111 (by decide) (fun c_111 => ?_) (fun c_111 => ?_)
                · refine h_bipush C (-4) dX11_told_118 (by decide) ?_
                  refine h_iret C rfl (Nat.zero_le _) (Nat.zero_le _) dX11_told_120 ?_
                  have e1 : (mdR σ x k.toNatClampNeg).1 = dn := by rw [← hI2.2.2.1]
                  have hke := eq_end hI2.2.1 (Int32.not_lt.mpr c_68)
                  have hq := hI2.2.2.2
                  rw [hke] at hq e1
                  refine ⟨⟨_, rfl, Or.inr ⟨⟨⟨Int32.not_lt.mp c_1, inV_1 c_12⟩, c_41⟩, Or.inr ⟨rfl, fun i h => ?_⟩⟩⟩, rfl⟩
                  by_cases hi : i = n.toNatClampNeg
                  · rw [hi, e1]; exact c_111
                  · exact hq i (by omega)
                · refine h_iload_n C 1 dX11_told_114 rfl rfl ?_
                  refine h_goto C 120 dX11_told_115 (by decide) ?_
                  refine h_iret C rfl (Nat.zero_le _) (Nat.zero_le _) dX11_told_120 ?_
                  have e1 : (mdR σ x k.toNatClampNeg).1 = dn := by rw [← hI2.2.2.1]
                  have hke := eq_end hI2.2.1 (Int32.not_lt.mpr c_68)
                  have hq := hI2.2.2.2
                  rw [hke] at hq e1
                  exact ⟨⟨_, rfl, Or.inr ⟨⟨⟨Int32.not_lt.mp c_1, inV_1 c_12⟩, c_41⟩, Or.inl ⟨hn0, Int32.le_refl _, e1.trans c_111, hq⟩⟩⟩, rfl⟩
              · refine h_iload C 3 dX11_told_71 rfl ?_
                refine h_iload C 2 dX11_told_73 rfl ?_
                refine h_icmp_ne C 81 dX11_told_75 (by decide) (fun c_75 => ?_) (fun c_75 => ?_)
                · refine h_aload_n C 0 dX11_told_81 rfl rfl ?_
                  refine h_iload C 3 dX11_told_82 rfl ?_
                  refine h_iload C 4 dX11_told_84 rfl ?_
                  refine h_bipush C 6 dX11_told_86 (by decide) ?_
                  refine h_irem C dX11_told_88 (by decide) ?_
                  refine h_callV C (m_X11_work hY hs0 hs1) caX11_256 kX11 (ty_44 hY) ⟨by decide, by decide, by decide, by decide⟩ rfl rfl (Nat.le_of_ble_eq_true rfl) dX11_told_89 ?_
                  rintro v σ' ⟨rfl, h2⟩; rw [h2]; clear h2
                  show hW _ _ _ _ _ _ _ _ _ _ _ _ _ 92 [(0, .ref (ad G 44)), (2, .int n), (4, .int (mAll σ)), (5, .int dn), (6, .int rs), (7, .int k)] [.int (WK σ dn (rs - rs / 6 * 6))] σ 0 0
                  refine h_istore C [(5, .int (WK σ dn (rs - rs / 6 * 6))), (0, .ref (ad G 44)), (2, .int n), (4, .int (mAll σ)), (6, .int rs), (7, .int k)] dX11_told_92 (by decide) rfl ?_
                  refine h_iload C 4 dX11_told_94 rfl ?_
                  refine h_bipush C 6 dX11_told_96 (by decide) ?_
                  refine h_idiv C dX11_told_98 (by decide) ?_
                  refine h_istore C [(6, .int (rs / 6)), (5, .int (WK σ dn (rs - rs / 6 * 6))), (0, .ref (ad G 44)), (2, .int n), (4, .int (mAll σ)), (7, .int k)] dX11_told_99 (by decide) rfl ?_
                  refine h_iinc C [(7, .int (k + 1)), (6, .int (rs / 6)), (5, .int (WK σ dn (rs - rs / 6 * 6))), (0, .ref (ad G 44)), (2, .int n), (4, .int (mAll σ))] 5 (k + 1) dX11_told_101 rfl rfl (by decide) rfl ?_
                  refine h_goto C 65 dX11_told_104 (by decide) ?_
                  refine h_sub [3, 4, 5, 2, 1, 0] rfl ?_
                  refine ih2 ((WK σ dn (rs - rs / 6 * 6)), (rs / 6), (k + 1)) ?_ ?_
                  · have hkl := Int32.not_le.mp c_68
                    have e1 : (mdR σ x k.toNatClampNeg).1 = dn := by rw [← hI2.2.2.1]
                    have e2 : (mdR σ x k.toNatClampNeg).2 = rs := by rw [← hI2.2.2.1]
                    refine ⟨(le_succ hI2.1 hkl).1, (le_succ hI2.1 hkl).2, ?_, fun i h => ?_⟩
                    · rw [tn_succ hI2.1 hkl]
                      unfold mdR
                      rw [e1, e2]
                    · rw [tn_succ hI2.1 hkl] at h
                      by_cases hi : i = k.toNatClampNeg
                      · rw [hi, e1]; exact c_75
                      · exact hI2.2.2.2 i (by omega)
                  · exact tm_lt (Int32.not_le.mp c_68)
                · refine h_iload C 5 dX11_told_78 rfl ?_
                  refine h_iret C rfl (Nat.zero_le _) (Nat.zero_le _) dX11_told_80 ?_
                  have e1 : (mdR σ x k.toNatClampNeg).1 = dn := by rw [← hI2.2.2.1]
                  exact ⟨⟨_, rfl, Or.inr ⟨⟨⟨Int32.not_lt.mp c_1, inV_1 c_12⟩, c_41⟩, Or.inl ⟨hI2.1, hI2.2.1, e1.trans c_75, hI2.2.2.2⟩⟩⟩, rfl⟩
            · exact ⟨by decide, hn0, by rw [tn_0]; rfl, fun i h => by rw [tn_0] at h; omega⟩
          · refine h_iconst C (-1) dX11_told_44 (by decide) ?_
            refine h_iret C rfl (Nat.zero_le _) (Nat.zero_le _) dX11_told_45 ?_
            have hpe := eq_end hI1.2.1 (Int32.not_lt.mpr c_25)
            have hpw := hI1.2.2
            rw [hpe] at hpw
            rw [hpw] at c_41
            exact ⟨⟨_, rfl, Or.inl ⟨fun q => c_41 q.2, rfl⟩⟩, rfl⟩
        · refine h_iload_n C 3 dX11_told_28 rfl rfl ?_
          refine h_bipush C 6 dX11_told_29 (by decide) ?_
          refine h_imul C dX11_told_31 ?_
          refine h_istore_n C [(3, .int (pw * 6)), (0, .ref (ad G 44)), (1, .int x), (2, .int n), (4, .int k)] dX11_told_32 rfl (by decide) rfl ?_
          refine h_iinc C [(4, .int (k + 1)), (3, .int (pw * 6)), (0, .ref (ad G 44)), (1, .int x), (2, .int n)] 4 (k + 1) dX11_told_33 rfl rfl (by decide) rfl ?_
          refine h_goto C 22 dX11_told_36 (by decide) ?_
          refine h_sub [2, 3, 4, 1, 0] rfl ?_
          refine ih1 ((pw * 6), (k + 1)) ?_ ?_
          · have hkl := Int32.not_le.mp c_25
            refine ⟨(le_succ hI1.1 hkl).1, (le_succ hI1.1 hkl).2, ?_⟩
            rw [tn_succ hI1.1 hkl, hI1.2.2]
            rfl
          · exact tm_lt (Int32.not_le.mp c_25)
      · exact ⟨by decide, by have h1 := inV_1 c_12; clear C; grind, by rw [tn_0]; rfl⟩
    · refine h_iconst C (-1) dX11_told_15 (by decide) ?_
      refine h_iret C rfl (Nat.zero_le _) (Nat.zero_le _) dX11_told_16 ?_
      exact ⟨⟨_, rfl, Or.inl ⟨fun q => inV_0 c_12 q.1.2, rfl⟩⟩, rfl⟩
