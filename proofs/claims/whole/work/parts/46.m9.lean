/-! ===== the reference: worst, best ===== -/
theorem feV_1 {x y d : Int32} (h : ¬ feV x y d = 0) : plc x y ∧ 0 ≤ d ∧ d < 8 := by unfold feV at h; exact if_one h
theorem feV_0 {x y d : Int32} (h : feV x y d = 0) : ¬ (plc x y ∧ 0 ≤ d ∧ d < 8) := by
  unfold feV at h
  intro q
  rw [if_pos q] at h
  exact absurd h (by decide)
def d0 (t : Int32) : Int32 := t - t / 10 * 10
def d1 (t : Int32) : Int32 := t / 10 - t / 10 / 10 * 10
def d2 (t : Int32) : Int32 := t / 100
def okMT (σ : ha_St) (x y d t : Int32) : Prop := (plc x y ∧ 0 ≤ d ∧ d < 8) ∧ 0 ≤ t ∧ cpP σ (d0 t) ∧ cpP σ (d1 t) ∧ cpP σ (d2 t) ∧ d0 t ≠ d1 t ∧ d0 t ≠ d2 t ∧ d1 t ≠ d2 t
theorem cpP.vp {σ : ha_St} {c : Int32} (h : cpP σ c) (hN : MN σ) : vp_in c 10 := vp32 (N := 10) h.1.1 (Int32.lt_of_lt_of_le h.1.2 hN.2) (by decide)
def mWorQ (σ : ha_St) (x y d t lo : Int32) (v : Int64) (σ' : ha_St) : Prop := frJ σ σ' ∧ ((¬ okMT σ x y d t ∧ gI σ' 44 0 = 1) ∨ (okMT σ x y d t ∧ mB σ (d0 t).toNatClampNeg (d1 t).toNatClampNeg (d2 t).toNatClampNeg = 0 ∧ gI σ' 44 0 = 2) ∨
  (okMT σ x y d t ∧ mB σ (d0 t).toNatClampNeg (d1 t).toNatClampNeg (d2 t).toNatClampNeg ≠ 0 ∧ gI σ' 44 0 = 0 ∧ ∃ e, gcE (lAbs (mA σ (fe3 x y d) (d0 t).toNatClampNeg (d1 t).toNatClampNeg (d2 t).toNatClampNeg)) (lAbs (mB σ (d0 t).toNatClampNeg (d1 t).toNatClampNeg (d2 t).toNatClampNeg)) e ∧
    v = if lo = 0 then mA σ (fe3 x y d) (d0 t).toNatClampNeg (d1 t).toNatClampNeg (d2 t).toNatClampNeg / e else mB σ (d0 t).toNatClampNeg (d1 t).toNatClampNeg (d2 t).toNatClampNeg / e))
theorem frJ_dr {σ σ' : ha_St} (h : frJ σ σ') {c : Nat} : dr3 σ' c = dr3 σ c := by unfold dr3; rw [frJ_dir h, frJ_dir h, frJ_dir h]
theorem frJ_mB {σ σ' : ha_St} (h : frJ σ σ') {a b c : Nat} : mB σ' a b c = mB σ a b c := by unfold mB; rw [frJ_dr h, frJ_dr h, frJ_dr h]
theorem frJ_51 {σ σ' : ha_St} (h : frJ σ σ') {c : Nat} : gI σ' 51 c = gI σ 51 c := h.2.2.2.1 51 c (by unfold scJ; omega)
theorem frJ_mA {σ σ' : ha_St} (h : frJ σ σ') {f : I3} {a b c : Nat} : mA σ' f a b c = mA σ f a b c := by unfold mA; rw [frJ_dr h, frJ_dr h, frJ_dr h, frJ_51 h, frJ_51 h, frJ_51 h]
theorem frJ_cp {σ σ' : ha_St} (h : frJ σ σ') {c : Int32} : cpP σ' c ↔ cpP σ c := by unfold cpP; rw [frJ_n h, frJ_k h]
set_option maxRecDepth 100000 in
set_option maxHeartbeats 4000000 in
theorem m_X11_worst {G : ha_G} {l : Launch} {σ : ha_St} {x y d t lo : Int32} (hY : LY σ) (hN : MN σ) : hM G l yX11_worst cX11_worst 12 (some .long) { frames := 3, cells := 0, slots := 0, locals := 73 } [.ref (ad G 44), .int x, .int y, .int d, .int t, .int lo] σ (fun v σ' => ∃ x', v = some (.long x') ∧ mWorQ σ x y d t lo x' σ') := by
  refine hM_ofF [(0, .ref (ad G 44)), (1, .int x), (2, .int y), (3, .int d), (4, .int t), (5, .int lo)] (by decide +kernel) (Nat.le_of_ble_eq_true rfl) rfl ?_
  intro p e s m args below meth c0 C hin
  refine h_iload C 4 dX11_worst_0 rfl ?_
  refine h_bipush C 10 dX11_worst_2 (by decide) ?_
  refine h_irem C dX11_worst_4 (by decide) ?_
  refine h_istore C [(6, .int (t - t / 10 * 10)), (0, .ref (ad G 44)), (1, .int x), (2, .int y), (3, .int d), (4, .int t), (5, .int lo)] dX11_worst_5 (by decide) rfl ?_
  refine h_iload C 5 dX11_worst_7 rfl ?_
  refine h_bipush C 10 dX11_worst_9 (by decide) ?_
  refine h_idiv C dX11_worst_11 (by decide) ?_
  refine h_bipush C 10 dX11_worst_12 (by decide) ?_
  refine h_irem C dX11_worst_14 (by decide) ?_
  refine h_istore C [(7, .int ((t / 10) - (t / 10) / 10 * 10)), (6, .int (t - t / 10 * 10)), (0, .ref (ad G 44)), (1, .int x), (2, .int y), (3, .int d), (4, .int t), (5, .int lo)] dX11_worst_15 (by decide) rfl ?_
  refine h_iload C 6 dX11_worst_17 rfl ?_
  refine h_bipush C 100 dX11_worst_19 (by decide) ?_
  refine h_idiv C dX11_worst_21 (by decide) ?_
  refine h_istore C [(8, .int (t / 100)), (7, .int ((t / 10) - (t / 10) / 10 * 10)), (6, .int (t - t / 10 * 10)), (0, .ref (ad G 44)), (1, .int x), (2, .int y), (3, .int d), (4, .int t), (5, .int lo)] dX11_worst_22 (by decide) rfl ?_
  refine h_join (α := Int32) 92 (fun g => isB g (okMT σ x y d t)) (fun g => [(0, .ref (ad G 44)), (1, .int x), (2, .int y), (3, .int d), (4, .int t), (5, .int lo), (6, .int (t - t / 10 * 10)), (7, .int ((t / 10) - (t / 10) / 10 * 10)), (8, .int (t / 100))]) (fun g => [.int g]) (fun g => σ) (fun g => 0) (fun g => 0) ?_ (fun J_1 => ?_)
  · rintro g hJ
    show hW _ _ _ _ _ _ _ _ _ _ _ _ _ 92 [(0, .ref (ad G 44)), (1, .int x), (2, .int y), (3, .int d), (4, .int t), (5, .int lo), (6, .int (t - t / 10 * 10)), (7, .int ((t / 10) - (t / 10) / 10 * 10)), (8, .int (t / 100))] [.int g] σ 0 0
    refine h_istore C [(9, .int g), (0, .ref (ad G 44)), (1, .int x), (2, .int y), (3, .int d), (4, .int t), (5, .int lo), (6, .int (t - t / 10 * 10)), (7, .int ((t / 10) - (t / 10) / 10 * 10)), (8, .int (t / 100))] dX11_worst_92 (by decide) rfl ?_
    refine h_aload_n C 1 dX11_worst_94 rfl rfl ?_
    refine h_iload C 0 dX11_worst_95 rfl ?_
    refine h_if_eq C 104 dX11_worst_97 (by decide) (fun c_97 => ?_) (fun c_97 => ?_)
    · refine h_iconst C 1 dX11_worst_104 (by decide) ?_
      refine pfX11_7 C (ty_44 hY) dX11_worst_105 ?_
      refine h_iload C 0 dX11_worst_108 rfl ?_
      refine h_if_ne C 115 dX11_worst_110 (by decide) (fun c_110 => ?_) (fun c_110 => ?_)
      · exact absurd c_97 c_110
      · refine h_lconst C 0 dX11_worst_113 rfl ?_
        refine h_lret C rfl (Nat.zero_le _) (Nat.zero_le _) dX11_worst_114 ?_
        exact ⟨_, rfl, frJ_sI (by unfold scJ; omega), Or.inl ⟨isB_0 hJ c_97, rfl⟩⟩
    · refine h_iconst C 0 dX11_worst_100 (by decide) ?_
      refine h_goto C 105 dX11_worst_101 (by decide) ?_
      refine pfX11_7 C (ty_44 hY) dX11_worst_105 ?_
      refine h_iload C 0 dX11_worst_108 rfl ?_
      refine h_if_ne C 115 dX11_worst_110 (by decide) (fun c_110 => ?_) (fun c_110 => ?_)
      · have hok := isB_1 hJ c_97
        refine h_aload_n C 1 dX11_worst_115 rfl rfl ?_
        refine h_iload_n C 2 dX11_worst_116 rfl rfl ?_
        refine h_iload_n C 3 dX11_worst_117 rfl rfl ?_
        refine h_iload_n C 4 dX11_worst_118 rfl rfl ?_
        refine h_callV C (m_X11_setFeature (σ := (sI σ 44 0 0)) (hY.same rfl rfl rfl)) caX11_249 kX11 (ty_44 hY) ⟨by decide, by decide, by decide, by decide⟩ rfl rfl (Nat.le_of_ble_eq_true rfl) dX11_worst_119 ?_
        rintro v σ1 ⟨rfl, h1⟩
        have hj1 : frJ σ σ1 := by rw [h1]; exact (frJ_sI (by unfold scJ; omega)).tr feF_J
        have hf1 : f3 σ1 = fe3 x y d := by rw [h1]; exact feF_f
        have hg1 : gI σ1 = gI (sI σ 44 0 0) := by rw [h1]; rfl
        clear h1
        have hY : LY σ1 := hj1.LY hY
        show hW _ _ _ _ _ _ _ _ _ _ _ _ _ 122 [(9, .int g), (0, .ref (ad G 44)), (1, .int x), (2, .int y), (3, .int d), (4, .int t), (5, .int lo), (6, .int (t - t / 10 * 10)), (7, .int ((t / 10) - (t / 10) / 10 * 10)), (8, .int (t / 100))] [] σ1 0 0
        refine h_aload_n C 1 dX11_worst_122 rfl rfl ?_
        refine h_iload C 7 dX11_worst_123 rfl ?_
        refine h_iload C 8 dX11_worst_125 rfl ?_
        refine h_iload C 9 dX11_worst_127 rfl ?_
        refine h_callV C (m_X11_findWorst hY (hok.2.2.1.vp hN) (hok.2.2.2.1.vp hN) (hok.2.2.2.2.1.vp hN)) caX11_253 kX11 (ty_44 hY) ⟨by decide, by decide, by decide, by decide⟩ rfl rfl (Nat.le_of_ble_eq_true rfl) dX11_worst_129 ?_
        rintro v σ2 ⟨⟨rw, rfl, hrw⟩, hw⟩
        rw [hf1] at hw
        have eB : mB σ1 (d0 t).toNatClampNeg (d1 t).toNatClampNeg (d2 t).toNatClampNeg = mB σ (d0 t).toNatClampNeg (d1 t).toNatClampNeg (d2 t).toNatClampNeg := frJ_mB hj1
        have eA : mA σ1 (fe3 x y d) (d0 t).toNatClampNeg (d1 t).toNatClampNeg (d2 t).toNatClampNeg = mA σ (fe3 x y d) (d0 t).toNatClampNeg (d1 t).toNatClampNeg (d2 t).toNatClampNeg := frJ_mA hj1
        have hrw : isB rw (mB σ1 (d0 t).toNatClampNeg (d1 t).toNatClampNeg (d2 t).toNatClampNeg ≠ 0) := hrw
        have hw : wfQ σ1 (fe3 x y d) (d0 t).toNatClampNeg (d1 t).toNatClampNeg (d2 t).toNatClampNeg σ2 := hw
        have hB := hw.2.1
        have hA := hw.2.2.1
        rw [eB] at hrw hB
        rw [eA] at hA
        have hY : LY σ2 := hw.1.LY hY
        have hj2 : frJ σ σ2 := hj1.tr hw.1
        have hth : gI σ2 44 0 = 0 := by rw [hw.2.2.2.2, hg1]; rfl
        clear hw
        show hW _ _ _ _ _ _ _ _ _ _ _ _ _ 132 [(9, .int g), (0, .ref (ad G 44)), (1, .int x), (2, .int y), (3, .int d), (4, .int t), (5, .int lo), (6, .int (t - t / 10 * 10)), (7, .int ((t / 10) - (t / 10) / 10 * 10)), (8, .int (t / 100))] [.int rw] σ2 0 0
        refine h_if_ne C 142 dX11_worst_132 (by decide) (fun c_132 => ?_) (fun c_132 => ?_)
        · refine h_aload_n C 1 dX11_worst_142 rfl rfl ?_
          refine h_aload_n C 1 dX11_worst_143 rfl rfl ?_
          refine gfX11_75 C (ty_44 hY) dX11_worst_144 ?_
          refine h_aload_n C 1 dX11_worst_147 rfl rfl ?_
          refine gfX11_79 C (ty_44 hY) dX11_worst_148 ?_
          refine h_callV C (m_X11_divisor hY) caX11_201 kX11 (ty_44 hY) ⟨by decide, by decide, by decide, by decide⟩ rfl rfl (Nat.le_of_ble_eq_true rfl) dX11_worst_151 ?_
          rintro v σ' ⟨⟨e, rfl, he⟩, h2⟩; rw [h2]; clear h2
          rw [hA, hB] at he
          have he0 : e ≠ 0 := gcE_ne he (Or.inr (fun z => isB_1 hrw c_132 (lAbs_0 z)))
          show hW _ _ _ _ _ _ _ _ _ _ _ _ _ 154 [(9, .int g), (0, .ref (ad G 44)), (1, .int x), (2, .int y), (3, .int d), (4, .int t), (5, .int lo), (6, .int (t - t / 10 * 10)), (7, .int ((t / 10) - (t / 10) / 10 * 10)), (8, .int (t / 100))] [.long e] σ2 0 0
          refine h_lstore C [(10, .long e), (9, .int g), (0, .ref (ad G 44)), (1, .int x), (2, .int y), (3, .int d), (4, .int t), (5, .int lo), (6, .int (t - t / 10 * 10)), (7, .int ((t / 10) - (t / 10) / 10 * 10)), (8, .int (t / 100))] dX11_worst_154 (by decide) rfl ?_
          refine h_iload C 7 dX11_worst_156 rfl ?_
          refine h_if_eq C 171 dX11_worst_158 (by decide) (fun c_158 => ?_) (fun c_158 => ?_)
          · refine h_aload_n C 2 dX11_worst_171 rfl rfl ?_
            refine gfX11_75 C (ty_44 hY) dX11_worst_172 ?_
            refine h_lload C 0 dX11_worst_175 rfl ?_
            refine h_ldiv C dX11_worst_177 he0 ?_
            refine h_lret C rfl (Nat.zero_le _) (Nat.zero_le _) dX11_worst_178 ?_
            refine ⟨_, rfl, hj2, Or.inr (Or.inr ⟨hok, isB_1 hrw c_132, hth, e, he, ?_⟩)⟩
            rw [if_pos c_158, hA]
          · refine h_aload_n C 2 dX11_worst_161 rfl rfl ?_
            refine gfX11_79 C (ty_44 hY) dX11_worst_162 ?_
            refine h_lload C 0 dX11_worst_165 rfl ?_
            refine h_ldiv C dX11_worst_167 he0 ?_
            refine h_goto C 178 dX11_worst_168 (by decide) ?_
            refine h_lret C rfl (Nat.zero_le _) (Nat.zero_le _) dX11_worst_178 ?_
            refine ⟨_, rfl, hj2, Or.inr (Or.inr ⟨hok, isB_1 hrw c_132, hth, e, he, ?_⟩)⟩
            rw [if_neg c_158, hB]
        · refine h_aload_n C 1 dX11_worst_135 rfl rfl ?_
          refine h_iconst C 2 dX11_worst_136 (by decide) ?_
          refine pfX11_7 C (ty_44 hY) dX11_worst_137 ?_
          refine h_lconst C 0 dX11_worst_140 rfl ?_
          refine h_lret C rfl (Nat.zero_le _) (Nat.zero_le _) dX11_worst_141 ?_
          exact ⟨_, rfl, hj2.tr (frJ_sI (by unfold scJ; omega)), Or.inr (Or.inl ⟨hok, Classical.byContradiction (isB_0 hrw c_132), rfl⟩)⟩
      · exact absurd c_110 c_97
  · refine h_aload_n C 3 dX11_worst_24 rfl rfl ?_
    refine h_iload_n C 4 dX11_worst_25 rfl rfl ?_
    refine h_iload_n C 5 dX11_worst_26 rfl rfl ?_
    refine h_iload_n C 6 dX11_worst_27 rfl rfl ?_
    refine h_callV C (m_X11_isFeature hY) caX11_243 kX11 (ty_44 hY) ⟨by decide, by decide, by decide, by decide⟩ rfl rfl (Nat.le_of_ble_eq_true rfl) dX11_worst_28 ?_
    rintro v σ' ⟨rfl, h2⟩; rw [h2]; clear h2
    show hW _ _ _ _ _ _ _ _ _ _ _ _ _ 31 [(8, .int (t / 100)), (7, .int ((t / 10) - (t / 10) / 10 * 10)), (6, .int (t - t / 10 * 10)), (0, .ref (ad G 44)), (1, .int x), (2, .int y), (3, .int d), (4, .int t), (5, .int lo)] [.int (feV x y d)] σ 0 0
    refine h_if_eq C 91 dX11_worst_31 (by decide) (fun c_31 => ?_) (fun c_31 => ?_)
    · refine h_iconst C 0 dX11_worst_91 (by decide) ?_
      refine h_sub [3, 4, 5, 6, 7, 8, 2, 1, 0] rfl ?_
      refine J_1 0 ?_
      exact isB0 (fun q => feV_0 c_31 q.1)
    · refine h_iload C 7 dX11_worst_34 rfl ?_
      refine h_if_lt C 91 dX11_worst_36 (by decide) (fun c_36 => ?_) (fun c_36 => ?_)
      · refine h_iconst C 0 dX11_worst_91 (by decide) ?_
        refine h_sub [3, 4, 5, 6, 7, 8, 2, 1, 0] rfl ?_
        refine J_1 0 ?_
        exact isB0 (fun q => absurd q.2.1 (Int32.not_le.mpr c_36))
      · refine h_aload_n C 3 dX11_worst_39 rfl rfl ?_
        refine h_iload C 2 dX11_worst_40 rfl ?_
        refine h_callV C (m_X11_canPlace hY hN) caX11_246 kX11 (ty_44 hY) ⟨by decide, by decide, by decide, by decide⟩ rfl rfl (Nat.le_of_ble_eq_true rfl) dX11_worst_42 ?_
        rintro v σ' ⟨⟨ra, rfl, hra⟩, h2⟩; rw [h2]; clear h2
        show hW _ _ _ _ _ _ _ _ _ _ _ _ _ 45 [(8, .int (t / 100)), (7, .int ((t / 10) - (t / 10) / 10 * 10)), (6, .int (t - t / 10 * 10)), (0, .ref (ad G 44)), (1, .int x), (2, .int y), (3, .int d), (4, .int t), (5, .int lo)] [.int ra] σ 0 0
        refine h_if_eq C 91 dX11_worst_45 (by decide) (fun c_45 => ?_) (fun c_45 => ?_)
        · refine h_iconst C 0 dX11_worst_91 (by decide) ?_
          refine h_sub [3, 4, 5, 6, 7, 8, 2, 1, 0] rfl ?_
          refine J_1 0 ?_
          exact isB0 (fun q => isB_0 hra c_45 q.2.2.1)
        · refine h_aload_n C 3 dX11_worst_48 rfl rfl ?_
          refine h_iload C 1 dX11_worst_49 rfl ?_
          refine h_callV C (m_X11_canPlace hY hN) caX11_246 kX11 (ty_44 hY) ⟨by decide, by decide, by decide, by decide⟩ rfl rfl (Nat.le_of_ble_eq_true rfl) dX11_worst_51 ?_
          rintro v σ' ⟨⟨rb, rfl, hrb⟩, h2⟩; rw [h2]; clear h2
          show hW _ _ _ _ _ _ _ _ _ _ _ _ _ 54 [(8, .int (t / 100)), (7, .int ((t / 10) - (t / 10) / 10 * 10)), (6, .int (t - t / 10 * 10)), (0, .ref (ad G 44)), (1, .int x), (2, .int y), (3, .int d), (4, .int t), (5, .int lo)] [.int rb] σ 0 0
          refine h_if_eq C 91 dX11_worst_54 (by decide) (fun c_54 => ?_) (fun c_54 => ?_)
          · refine h_iconst C 0 dX11_worst_91 (by decide) ?_
            refine h_sub [3, 4, 5, 6, 7, 8, 2, 1, 0] rfl ?_
            refine J_1 0 ?_
            exact isB0 (fun q => isB_0 hrb c_54 q.2.2.2.1)
          · refine h_aload_n C 3 dX11_worst_57 rfl rfl ?_
            refine h_iload C 0 dX11_worst_58 rfl ?_
            refine h_callV C (m_X11_canPlace hY hN) caX11_246 kX11 (ty_44 hY) ⟨by decide, by decide, by decide, by decide⟩ rfl rfl (Nat.le_of_ble_eq_true rfl) dX11_worst_60 ?_
            rintro v σ' ⟨⟨rc, rfl, hrc⟩, h2⟩; rw [h2]; clear h2
            show hW _ _ _ _ _ _ _ _ _ _ _ _ _ 63 [(8, .int (t / 100)), (7, .int ((t / 10) - (t / 10) / 10 * 10)), (6, .int (t - t / 10 * 10)), (0, .ref (ad G 44)), (1, .int x), (2, .int y), (3, .int d), (4, .int t), (5, .int lo)] [.int rc] σ 0 0
            refine h_if_eq C 91 dX11_worst_63 (by decide) (fun c_63 => ?_) (fun c_63 => ?_)
            · refine h_iconst C 0 dX11_worst_91 (by decide) ?_
              refine h_sub [3, 4, 5, 6, 7, 8, 2, 1, 0] rfl ?_
              refine J_1 0 ?_
              exact isB0 (fun q => isB_0 hrc c_63 q.2.2.2.2.1)
            · refine h_iload C 2 dX11_worst_66 rfl ?_
              refine h_iload C 1 dX11_worst_68 rfl ?_
              refine h_icmp_eq C 91 dX11_worst_70 (by decide) (fun c_70 => ?_) (fun c_70 => ?_)
              · refine h_iconst C 0 dX11_worst_91 (by decide) ?_
                refine h_sub [3, 4, 5, 6, 7, 8, 2, 1, 0] rfl ?_
                refine J_1 0 ?_
                exact isB0 (fun q => q.2.2.2.2.2.1 c_70)
              · refine h_iload C 2 dX11_worst_73 rfl ?_
                refine h_iload C 0 dX11_worst_75 rfl ?_
                refine h_icmp_eq C 91 dX11_worst_77 (by decide) (fun c_77 => ?_) (fun c_77 => ?_)
                · refine h_iconst C 0 dX11_worst_91 (by decide) ?_
                  refine h_sub [3, 4, 5, 6, 7, 8, 2, 1, 0] rfl ?_
                  refine J_1 0 ?_
                  exact isB0 (fun q => q.2.2.2.2.2.2.1 c_77)
                · refine h_iload C 1 dX11_worst_80 rfl ?_
                  refine h_iload C 0 dX11_worst_82 rfl ?_
                  refine h_icmp_eq C 91 dX11_worst_84 (by decide) (fun c_84 => ?_) (fun c_84 => ?_)
                  · refine h_iconst C 0 dX11_worst_91 (by decide) ?_
                    refine h_sub [3, 4, 5, 6, 7, 8, 2, 1, 0] rfl ?_
                    refine J_1 0 ?_
                    exact isB0 (fun q => q.2.2.2.2.2.2.2 c_84)
                  · refine h_iconst C 1 dX11_worst_87 (by decide) ?_
                    refine h_goto C 92 dX11_worst_88 (by decide) ?_
                    refine h_sub [3, 4, 5, 6, 7, 8, 2, 1, 0] rfl ?_
                    refine J_1 1 ?_
                    exact isB1 ⟨feV_1 c_31, Int32.not_lt.mp c_36, isB_1 hra c_45, isB_1 hrb c_54, isB_1 hrc c_63, c_70, c_77, c_84⟩
def itG {α : Type} (f : Nat → α → α) : Nat → α → α
  | 0, s => s
  | n + 1, s => f n (itG f n s)
abbrev BT : Type := Int32 × Int64 × Int64
def bsC (σ : ha_St) (f : I3) (i j k : Int32) (t : BT) : Prop := cpP σ i ∧ cpP σ j ∧ cpP σ k ∧ mB σ i.toNatClampNeg j.toNatClampNeg k.toNatClampNeg ≠ 0 ∧ ¬ (0 ≤ t.1 ∧ t.2.1 * mB σ i.toNatClampNeg j.toNatClampNeg k.toNatClampNeg ≤ mA σ f i.toNatClampNeg j.toNatClampNeg k.toNatClampNeg * t.2.2)
noncomputable def bsS (σ : ha_St) (f : I3) (i j k : Int32) (t : BT) : BT := @ite _ (bsC σ f i j k t) (Classical.propDecidable _) (i + 10 * j + 100 * k, mA σ f i.toNatClampNeg j.toNatClampNeg k.toNatClampNeg, mB σ i.toNatClampNeg j.toNatClampNeg k.toNatClampNeg) t
theorem bsS_y {σ : ha_St} {f : I3} {i j k : Int32} {t : BT} (h : bsC σ f i j k t) : bsS σ f i j k t = (i + 10 * j + 100 * k, mA σ f i.toNatClampNeg j.toNatClampNeg k.toNatClampNeg, mB σ i.toNatClampNeg j.toNatClampNeg k.toNatClampNeg) := if_pos h
theorem bsS_n {σ : ha_St} {f : I3} {i j k : Int32} {t : BT} (h : ¬ bsC σ f i j k t) : bsS σ f i j k t = t := if_neg h
noncomputable def mb3 (σ : ha_St) (f : I3) (i j n : Nat) (t : BT) : BT := bsS σ f (Int32.ofNat i) (Int32.ofNat j) (Int32.ofNat (j + 1 + n)) t
noncomputable def mb2 (σ : ha_St) (f : I3) (c i n : Nat) (t : BT) : BT := itG (mb3 σ f i (i + 1 + n)) (c - (i + 1 + n + 1)) t
noncomputable def mb1 (σ : ha_St) (f : I3) (c i : Nat) (t : BT) : BT := itG (mb2 σ f c i) (c - (i + 1)) t
noncomputable def mbF (σ : ha_St) (f : I3) (c : Nat) : BT := itG (mb1 σ f c) c (-4, 0, 1)
def mBestQ (σ : ha_St) (x y d r : Int32) (σ' : ha_St) : Prop := (¬ (plc x y ∧ 0 ≤ d ∧ d < 8) ∧ r = -1 ∧ σ' = σ) ∨ ((plc x y ∧ 0 ≤ d ∧ d < 8) ∧ frJ σ σ' ∧ r = (mbF σ (fe3 x y d) (gI σ 44 1).toNatClampNeg).1)
theorem lg_lt {x y : Int64} : lg_cmp x y < 0 ↔ x < y := by
  rcases lg_cases x y with ⟨q, z⟩ | ⟨q, z⟩ | ⟨q, z⟩ <;> rw [z]
  · exact ⟨fun h => absurd h (by decide), fun h => absurd (Int64.lt_trans h q) Int64.lt_irrefl⟩
  · rw [q]; exact ⟨fun h => absurd h (by decide), fun h => absurd h Int64.lt_irrefl⟩
  · exact ⟨fun _ => q, fun _ => by decide⟩
set_option maxRecDepth 100000 in
set_option maxHeartbeats 4000000 in
theorem m_X11_best {G : ha_G} {l : Launch} {σ : ha_St} {x y d : Int32} (hY : LY σ) (hN : MN σ) : hM G l yX11_best cX11_best 12 (some .int) { frames := 3, cells := 0, slots := 0, locals := 73 } [.ref (ad G 44), .int x, .int y, .int d] σ (fun v σ' => ∃ r, v = some (.int r) ∧ mBestQ σ x y d r σ') := by
  have hY0 := hY
  have hN0 := hN
  refine hM_ofF [(0, .ref (ad G 44)), (1, .int x), (2, .int y), (3, .int d)] (by decide +kernel) (Nat.le_of_ble_eq_true rfl) rfl ?_
  intro p e s m args below meth c0 C hin
  refine h_aload_n C 0 dX11_best_0 rfl rfl ?_
  refine h_iload_n C 1 dX11_best_1 rfl rfl ?_
  refine h_iload_n C 2 dX11_best_2 rfl rfl ?_
  refine h_iload_n C 3 dX11_best_3 rfl rfl ?_
  refine h_callV C (m_X11_isFeature hY) caX11_243 kX11 (ty_44 hY) ⟨by decide, by decide, by decide, by decide⟩ rfl rfl (Nat.le_of_ble_eq_true rfl) dX11_best_4 ?_
  rintro v σ' ⟨rfl, h2⟩; rw [h2]; clear h2
  show hW _ _ _ _ _ _ _ _ _ _ _ _ _ 7 [(0, .ref (ad G 44)), (1, .int x), (2, .int y), (3, .int d)] [.int (feV x y d)] σ 0 0
  refine h_if_ne C 12 dX11_best_7 (by decide) (fun c_7 => ?_) (fun c_7 => ?_)
  · refine h_aload_n C 0 dX11_best_12 rfl rfl ?_
    refine h_iload_n C 1 dX11_best_13 rfl rfl ?_
    refine h_iload_n C 2 dX11_best_14 rfl rfl ?_
    refine h_iload_n C 3 dX11_best_15 rfl rfl ?_
    refine h_callV C (m_X11_setFeature hY) caX11_249 kX11 (ty_44 hY) ⟨by decide, by decide, by decide, by decide⟩ rfl rfl (Nat.le_of_ble_eq_true rfl) dX11_best_16 ?_
    rintro v σ' ⟨rfl, h2⟩; rw [h2]; clear h2
    show hW _ _ _ _ _ _ _ _ _ _ _ _ _ 19 [(0, .ref (ad G 44)), (1, .int x), (2, .int y), (3, .int d)] [] (feF σ x y d) 0 0
    refine h_bipush C (-4) dX11_best_19 (by decide) ?_
    refine h_istore C [(4, .int (-4)), (0, .ref (ad G 44)), (1, .int x), (2, .int y), (3, .int d)] dX11_best_21 (by decide) rfl ?_
    refine h_lconst C 0 dX11_best_23 rfl ?_
    refine h_lstore C [(5, .long 0), (4, .int (-4)), (0, .ref (ad G 44)), (1, .int x), (2, .int y), (3, .int d)] dX11_best_24 (by decide) rfl ?_
    refine h_lconst C 1 dX11_best_26 rfl ?_
    refine h_lstore C [(7, .long 1), (5, .long 0), (4, .int (-4)), (0, .ref (ad G 44)), (1, .int x), (2, .int y), (3, .int d)] dX11_best_27 (by decide) rfl ?_
    refine h_iconst C 0 dX11_best_29 (by decide) ?_
    refine h_istore C [(9, .int 0), (7, .long 1), (5, .long 0), (4, .int (-4)), (0, .ref (ad G 44)), (1, .int x), (2, .int y), (3, .int d)] dX11_best_30 (by decide) rfl ?_
    refine h_sub [4, 3, 2, 1, 0] rfl ?_
    refine h_loop (α := Int32 × Int32 × Int64 × Int64 × ha_St) (fun (i, be1, ba1, bb1, σ1) => 0 ≤ i ∧ i ≤ gI σ 44 1 ∧ (be1, ba1, bb1) = itG (mb1 σ (fe3 x y d) (gI σ 44 1).toNatClampNeg) i.toNatClampNeg (-4, 0, 1) ∧ frJ σ σ1 ∧ f3 σ1 = (fe3 x y d)) (fun (i, be1, ba1, bb1, σ1) => tm (gI σ 44 1) i) (fun (i, be1, ba1, bb1, σ1) => [(0, .ref (ad G 44)), (4, .int be1), (5, .long ba1), (7, .long bb1), (9, .int i)]) (fun (i, be1, ba1, bb1, σ1) => []) (fun (i, be1, ba1, bb1, σ1) => σ1) (fun (i, be1, ba1, bb1, σ1) => 0) (fun (i, be1, ba1, bb1, σ1) => 0) ?_ (0, (-4), 0, 1, (feF σ x y d)) ?_
    · rintro ⟨i, be1, ba1, bb1, σ1⟩ hI1 ih1
      show hW _ _ _ _ _ _ _ _ _ _ _ _ _ 32 [(0, .ref (ad G 44)), (4, .int be1), (5, .long ba1), (7, .long bb1), (9, .int i)] [] σ1 0 0
      have hY : LY σ1 := hI1.2.2.2.1.LY hY0
      have hN : MN σ1 := frJ_MN hI1.2.2.2.1 hN0
      have hz := frJ_n hI1.2.2.2.1
      refine h_iload C 4 dX11_best_32 rfl ?_
      refine h_aload_n C 0 dX11_best_34 rfl rfl ?_
      refine gfX11_13 C (ty_44 hY) dX11_best_35 ?_
      refine h_icmp_ge C 186 dX11_best_38 (by decide) (fun c_38 => ?_) (fun c_38 => ?_)
      · refine h_iload C 1 dX11_best_186 rfl ?_
        refine h_iret C rfl (Nat.zero_le _) (Nat.zero_le _) dX11_best_188 ?_
        have he := eq_end hI1.2.1 (by rw [← hz]; exact Int32.not_lt.mpr c_38)
        have hq := hI1.2.2.1
        rw [he] at hq
        exact ⟨_, rfl, Or.inr ⟨feV_1 c_7, hI1.2.2.2.1, congrArg (fun z : BT => z.1) hq⟩⟩
      · have hil : i < gI σ 44 1 := by rw [← hz]; exact Int32.not_le.mp c_38
        refine h_iload C 4 dX11_best_41 rfl ?_
        refine h_iconst C 1 dX11_best_43 (by decide) ?_
        refine h_iadd C dX11_best_44 ?_
        refine h_istore C [(10, .int (i + 1)), (0, .ref (ad G 44)), (4, .int be1), (5, .long ba1), (7, .long bb1), (9, .int i)] dX11_best_45 (by decide) rfl ?_
        refine h_sub [1, 2, 3, 4, 5, 0] rfl ?_
        refine h_loop (α := Int32 × Int32 × Int64 × Int64 × ha_St) (fun (j, be2, ba2, bb2, σ2) => i + 1 ≤ j ∧ j ≤ gI σ 44 1 ∧ (be2, ba2, bb2) = itG (mb2 σ (fe3 x y d) (gI σ 44 1).toNatClampNeg i.toNatClampNeg) (j.toNatClampNeg - (i.toNatClampNeg + 1)) (be1, ba1, bb1) ∧ frJ σ σ2 ∧ f3 σ2 = (fe3 x y d)) (fun (j, be2, ba2, bb2, σ2) => tm (gI σ 44 1) j) (fun (j, be2, ba2, bb2, σ2) => [(0, .ref (ad G 44)), (4, .int be2), (5, .long ba2), (7, .long bb2), (9, .int i), (10, .int j)]) (fun (j, be2, ba2, bb2, σ2) => []) (fun (j, be2, ba2, bb2, σ2) => σ2) (fun (j, be2, ba2, bb2, σ2) => 0) (fun (j, be2, ba2, bb2, σ2) => 0) ?_ ((i + 1), be1, ba1, bb1, σ1) ?_
        · rintro ⟨j, be2, ba2, bb2, σ2⟩ hI2 ih2
          show hW _ _ _ _ _ _ _ _ _ _ _ _ _ 47 [(0, .ref (ad G 44)), (4, .int be2), (5, .long ba2), (7, .long bb2), (9, .int i), (10, .int j)] [] σ2 0 0
          have hY : LY σ2 := hI2.2.2.2.1.LY hY0
          have hN : MN σ2 := frJ_MN hI2.2.2.2.1 hN0
          have hz := frJ_n hI2.2.2.2.1
          refine h_iload C 5 dX11_best_47 rfl ?_
          refine h_aload_n C 0 dX11_best_49 rfl rfl ?_
          refine gfX11_13 C (ty_44 hY) dX11_best_50 ?_
          refine h_icmp_ge C 180 dX11_best_53 (by decide) (fun c_53 => ?_) (fun c_53 => ?_)
          · refine h_iinc C [(9, .int (i + 1)), (0, .ref (ad G 44)), (4, .int be2), (5, .long ba2), (7, .long bb2), (10, .int j)] 4 (i + 1) dX11_best_180 rfl rfl (by decide) rfl ?_
            refine h_goto C 32 dX11_best_183 (by decide) ?_
            refine h_sub [1, 2, 3, 4, 0] rfl ?_
            refine ih1 ((i + 1), be2, ba2, bb2, σ2) ?_ ?_
            · have hje := eq_end hI2.2.1 (by rw [← hz]; exact Int32.not_lt.mpr c_53)
              refine ⟨(le_succ hI1.1 hil).1, (le_succ hI1.1 hil).2, ?_, hI2.2.2.2⟩
              rw [tn_succ hI1.1 hil]
              show _ = mb1 σ (fe3 x y d) _ i.toNatClampNeg (itG (mb1 σ (fe3 x y d) _) i.toNatClampNeg (-4, 0, 1))
              rw [← hI1.2.2.1]
              unfold mb1
              rw [hI2.2.2.1, hje]
            · exact tm_lt hil
          · have hjl : j < gI σ 44 1 := by rw [← hz]; exact Int32.not_le.mp c_53
            have hj0 : (0 : Int32) ≤ j := by have h1 := hI2.1; have h2 := hI1.1; clear C; grind
            refine h_iload C 5 dX11_best_56 rfl ?_
            refine h_iconst C 1 dX11_best_58 (by decide) ?_
            refine h_iadd C dX11_best_59 ?_
            refine h_istore C [(11, .int (j + 1)), (0, .ref (ad G 44)), (4, .int be2), (5, .long ba2), (7, .long bb2), (9, .int i), (10, .int j)] dX11_best_60 (by decide) rfl ?_
            refine h_sub [1, 2, 3, 4, 5, 6, 0] rfl ?_
            refine h_loop (α := Int32 × Int32 × Int64 × Int64 × ha_St) (fun (k, be3, ba3, bb3, σ3) => j + 1 ≤ k ∧ k ≤ gI σ 44 1 ∧ (be3, ba3, bb3) = itG (mb3 σ (fe3 x y d) i.toNatClampNeg j.toNatClampNeg) (k.toNatClampNeg - (j.toNatClampNeg + 1)) (be2, ba2, bb2) ∧ frJ σ σ3 ∧ f3 σ3 = (fe3 x y d)) (fun (k, be3, ba3, bb3, σ3) => tm (gI σ 44 1) k) (fun (k, be3, ba3, bb3, σ3) => [(0, .ref (ad G 44)), (4, .int be3), (5, .long ba3), (7, .long bb3), (9, .int i), (10, .int j), (11, .int k)]) (fun (k, be3, ba3, bb3, σ3) => []) (fun (k, be3, ba3, bb3, σ3) => σ3) (fun (k, be3, ba3, bb3, σ3) => 0) (fun (k, be3, ba3, bb3, σ3) => 0) ?_ ((j + 1), be2, ba2, bb2, σ2) ?_
            · rintro ⟨k, be3, ba3, bb3, σ3⟩ hI3 ih3
              show hW _ _ _ _ _ _ _ _ _ _ _ _ _ 62 [(0, .ref (ad G 44)), (4, .int be3), (5, .long ba3), (7, .long bb3), (9, .int i), (10, .int j), (11, .int k)] [] σ3 0 0
              have hY : LY σ3 := hI3.2.2.2.1.LY hY0
              have hN : MN σ3 := frJ_MN hI3.2.2.2.1 hN0
              have hz := frJ_n hI3.2.2.2.1
              refine h_iload C 6 dX11_best_62 rfl ?_
              refine h_aload_n C 0 dX11_best_64 rfl rfl ?_
              refine gfX11_13 C (ty_44 hY) dX11_best_65 ?_
              refine h_icmp_ge C 174 dX11_best_68 (by decide) (fun c_68 => ?_) (fun c_68 => ?_)
              · refine h_iinc C [(10, .int (j + 1)), (0, .ref (ad G 44)), (4, .int be3), (5, .long ba3), (7, .long bb3), (9, .int i), (11, .int k)] 5 (j + 1) dX11_best_174 rfl rfl (by decide) rfl ?_
                refine h_goto C 47 dX11_best_177 (by decide) ?_
                refine h_sub [1, 2, 3, 4, 5, 0] rfl ?_
                refine ih2 ((j + 1), be3, ba3, bb3, σ3) ?_ ?_
                · have hke := eq_end hI3.2.1 (by rw [← hz]; exact Int32.not_lt.mpr c_68)
                  refine ⟨by have := hI2.1; clear C; grind, (le_succ hj0 hjl).2, ?_, hI3.2.2.2⟩
                  have e1 := tn_succ hj0 hjl
                  have e2 : i.toNatClampNeg + 1 ≤ j.toNatClampNeg := by
                    have := tn_le (i := i + 1) (by have := hI1.1; clear C; grind) hI2.1
                    rw [tn_succ hI1.1 hil] at this
                    exact this
                  rw [e1, show j.toNatClampNeg + 1 - (i.toNatClampNeg + 1) = (j.toNatClampNeg - (i.toNatClampNeg + 1)) + 1 by omega]
                  show _ = mb2 σ (fe3 x y d) _ i.toNatClampNeg (j.toNatClampNeg - (i.toNatClampNeg + 1)) (itG (mb2 σ (fe3 x y d) _ i.toNatClampNeg) (j.toNatClampNeg - (i.toNatClampNeg + 1)) (be1, ba1, bb1))
                  rw [← hI2.2.2.1]
                  unfold mb2
                  rw [show i.toNatClampNeg + 1 + (j.toNatClampNeg - (i.toNatClampNeg + 1)) = j.toNatClampNeg by omega, hI3.2.2.1, hke]
                · exact tm_lt hjl
              · have hkl : k < gI σ 44 1 := by rw [← hz]; exact Int32.not_le.mp c_68
                have hk0 : (0 : Int32) ≤ k := by have h1 := hI3.1; clear C; grind
                refine h_aload_n C 0 dX11_best_71 rfl rfl ?_
                refine h_iload C 4 dX11_best_72 rfl ?_
                refine h_callV C (m_X11_canPlace hY hN) caX11_246 kX11 (ty_44 hY) ⟨by decide, by decide, by decide, by decide⟩ rfl rfl (Nat.le_of_ble_eq_true rfl) dX11_best_74 ?_
                rintro v σ' ⟨⟨ra, rfl, hra⟩, h2⟩; rw [h2]; clear h2
                show hW _ _ _ _ _ _ _ _ _ _ _ _ _ 77 [(0, .ref (ad G 44)), (4, .int be3), (5, .long ba3), (7, .long bb3), (9, .int i), (10, .int j), (11, .int k)] [.int ra] σ3 0 0
                refine h_if_eq C 168 dX11_best_77 (by decide) (fun c_77 => ?_) (fun c_77 => ?_)
                · refine h_iinc C [(11, .int (k + 1)), (0, .ref (ad G 44)), (4, .int be3), (5, .long ba3), (7, .long bb3), (9, .int i), (10, .int j)] 6 (k + 1) dX11_best_168 rfl rfl (by decide) rfl ?_
                  refine h_goto C 62 dX11_best_171 (by decide) ?_
                  refine h_sub [1, 2, 3, 4, 5, 6, 0] rfl ?_
                  refine ih3 ((k + 1), be3, ba3, bb3, σ3) ?_ ?_
                  · refine ⟨by have := hI3.1; clear C; grind, (le_succ hk0 hkl).2, ?_, hI3.2.2.2⟩
                    have e1 := tn_succ hk0 hkl
                    have e2 : j.toNatClampNeg + 1 ≤ k.toNatClampNeg := by
                      have := tn_le (i := j + 1) (by clear C; grind) hI3.1
                      rw [tn_succ hj0 hjl] at this
                      exact this
                    rw [e1, show k.toNatClampNeg + 1 - (j.toNatClampNeg + 1) = (k.toNatClampNeg - (j.toNatClampNeg + 1)) + 1 by omega]
                    show _ = mb3 σ (fe3 x y d) i.toNatClampNeg j.toNatClampNeg (k.toNatClampNeg - (j.toNatClampNeg + 1)) (itG (mb3 σ (fe3 x y d) i.toNatClampNeg j.toNatClampNeg) (k.toNatClampNeg - (j.toNatClampNeg + 1)) (be2, ba2, bb2))
                    rw [← hI3.2.2.1]
                    unfold mb3
                    rw [nI_tn hI1.1, nI_tn hj0, ofNat_succ_tn hk0 (by omega)]
                    rw [bsS_n (fun q => isB_0 hra c_77 ((frJ_cp hI3.2.2.2.1).mpr q.1))]
                  · exact tm_lt hkl
                · refine h_aload_n C 0 dX11_best_80 rfl rfl ?_
                  refine h_iload C 5 dX11_best_81 rfl ?_
                  refine h_callV C (m_X11_canPlace hY hN) caX11_246 kX11 (ty_44 hY) ⟨by decide, by decide, by decide, by decide⟩ rfl rfl (Nat.le_of_ble_eq_true rfl) dX11_best_83 ?_
                  rintro v σ' ⟨⟨rb, rfl, hrb⟩, h2⟩; rw [h2]; clear h2
                  show hW _ _ _ _ _ _ _ _ _ _ _ _ _ 86 [(0, .ref (ad G 44)), (4, .int be3), (5, .long ba3), (7, .long bb3), (9, .int i), (10, .int j), (11, .int k)] [.int rb] σ3 0 0
                  refine h_if_eq C 168 dX11_best_86 (by decide) (fun c_86 => ?_) (fun c_86 => ?_)
                  · refine h_iinc C [(11, .int (k + 1)), (0, .ref (ad G 44)), (4, .int be3), (5, .long ba3), (7, .long bb3), (9, .int i), (10, .int j)] 6 (k + 1) dX11_best_168 rfl rfl (by decide) rfl ?_
                    refine h_goto C 62 dX11_best_171 (by decide) ?_
                    refine h_sub [1, 2, 3, 4, 5, 6, 0] rfl ?_
                    refine ih3 ((k + 1), be3, ba3, bb3, σ3) ?_ ?_
                    · refine ⟨by have := hI3.1; clear C; grind, (le_succ hk0 hkl).2, ?_, hI3.2.2.2⟩
                      have e1 := tn_succ hk0 hkl
                      have e2 : j.toNatClampNeg + 1 ≤ k.toNatClampNeg := by
                        have := tn_le (i := j + 1) (by clear C; grind) hI3.1
                        rw [tn_succ hj0 hjl] at this
                        exact this
                      rw [e1, show k.toNatClampNeg + 1 - (j.toNatClampNeg + 1) = (k.toNatClampNeg - (j.toNatClampNeg + 1)) + 1 by omega]
                      show _ = mb3 σ (fe3 x y d) i.toNatClampNeg j.toNatClampNeg (k.toNatClampNeg - (j.toNatClampNeg + 1)) (itG (mb3 σ (fe3 x y d) i.toNatClampNeg j.toNatClampNeg) (k.toNatClampNeg - (j.toNatClampNeg + 1)) (be2, ba2, bb2))
                      rw [← hI3.2.2.1]
                      unfold mb3
                      rw [nI_tn hI1.1, nI_tn hj0, ofNat_succ_tn hk0 (by omega)]
                      rw [bsS_n (fun q => isB_0 hrb c_86 ((frJ_cp hI3.2.2.2.1).mpr q.2.1))]
                    · exact tm_lt hkl
                  · refine h_aload_n C 0 dX11_best_89 rfl rfl ?_
                    refine h_iload C 6 dX11_best_90 rfl ?_
                    refine h_callV C (m_X11_canPlace hY hN) caX11_246 kX11 (ty_44 hY) ⟨by decide, by decide, by decide, by decide⟩ rfl rfl (Nat.le_of_ble_eq_true rfl) dX11_best_92 ?_
                    rintro v σ' ⟨⟨rc, rfl, hrc⟩, h2⟩; rw [h2]; clear h2
                    show hW _ _ _ _ _ _ _ _ _ _ _ _ _ 95 [(0, .ref (ad G 44)), (4, .int be3), (5, .long ba3), (7, .long bb3), (9, .int i), (10, .int j), (11, .int k)] [.int rc] σ3 0 0
                    refine h_if_eq C 168 dX11_best_95 (by decide) (fun c_95 => ?_) (fun c_95 => ?_)
                    · refine h_iinc C [(11, .int (k + 1)), (0, .ref (ad G 44)), (4, .int be3), (5, .long ba3), (7, .long bb3), (9, .int i), (10, .int j)] 6 (k + 1) dX11_best_168 rfl rfl (by decide) rfl ?_
                      refine h_goto C 62 dX11_best_171 (by decide) ?_
                      refine h_sub [1, 2, 3, 4, 5, 6, 0] rfl ?_
                      refine ih3 ((k + 1), be3, ba3, bb3, σ3) ?_ ?_
                      · refine ⟨by have := hI3.1; clear C; grind, (le_succ hk0 hkl).2, ?_, hI3.2.2.2⟩
                        have e1 := tn_succ hk0 hkl
                        have e2 : j.toNatClampNeg + 1 ≤ k.toNatClampNeg := by
                          have := tn_le (i := j + 1) (by clear C; grind) hI3.1
                          rw [tn_succ hj0 hjl] at this
                          exact this
                        rw [e1, show k.toNatClampNeg + 1 - (j.toNatClampNeg + 1) = (k.toNatClampNeg - (j.toNatClampNeg + 1)) + 1 by omega]
                        show _ = mb3 σ (fe3 x y d) i.toNatClampNeg j.toNatClampNeg (k.toNatClampNeg - (j.toNatClampNeg + 1)) (itG (mb3 σ (fe3 x y d) i.toNatClampNeg j.toNatClampNeg) (k.toNatClampNeg - (j.toNatClampNeg + 1)) (be2, ba2, bb2))
                        rw [← hI3.2.2.1]
                        unfold mb3
                        rw [nI_tn hI1.1, nI_tn hj0, ofNat_succ_tn hk0 (by omega)]
                        rw [bsS_n (fun q => isB_0 hrc c_95 ((frJ_cp hI3.2.2.2.1).mpr q.2.2.1))]
                      · exact tm_lt hkl
                    · refine h_aload_n C 0 dX11_best_98 rfl rfl ?_
                      refine h_iload C 4 dX11_best_99 rfl ?_
                      refine h_iload C 5 dX11_best_101 rfl ?_
                      refine h_iload C 6 dX11_best_103 rfl ?_
                      refine h_callV C (m_X11_findWorst hY ((isB_1 hra c_77).vp hN) ((isB_1 hrb c_86).vp hN) ((isB_1 hrc c_95).vp hN)) caX11_253 kX11 (ty_44 hY) ⟨by decide, by decide, by decide, by decide⟩ rfl rfl (Nat.le_of_ble_eq_true rfl) dX11_best_105 ?_
                      rintro v σ4 ⟨⟨rw, rfl, hrw⟩, hw⟩
                      rw [hI3.2.2.2.2] at hw
                      have hB := hw.2.1
                      have hA := hw.2.2.1
                      rw [frJ_mB hI3.2.2.2.1] at hrw hB
                      rw [frJ_mA hI3.2.2.2.1] at hA
                      have hY : LY σ4 := hw.1.LY hY
                      have hf4 : f3 σ4 = fe3 x y d := by rw [← hI3.2.2.2.2]; unfold f3; rw [hw.2.2.2.1]
                      show hW _ _ _ _ _ _ _ _ _ _ _ _ _ 108 [(0, .ref (ad G 44)), (4, .int be3), (5, .long ba3), (7, .long bb3), (9, .int i), (10, .int j), (11, .int k)] [.int rw] σ4 0 0
                      refine h_if_ne C 114 dX11_best_108 (by decide) (fun c_108 => ?_) (fun c_108 => ?_)
                      · refine h_iload C 1 dX11_best_114 rfl ?_
                        refine h_if_lt C 140 dX11_best_116 (by decide) (fun c_116 => ?_) (fun c_116 => ?_)
                        · refine h_iload C 4 dX11_best_140 rfl ?_
                          refine h_bipush C 10 dX11_best_142 (by decide) ?_
                          refine h_iload C 5 dX11_best_144 rfl ?_
                          refine h_imul C dX11_best_146 ?_
                          refine h_iadd C dX11_best_147 ?_
                          refine h_bipush C 100 dX11_best_148 (by decide) ?_
                          refine h_iload C 6 dX11_best_150 rfl ?_
                          refine h_imul C dX11_best_152 ?_
                          refine h_iadd C dX11_best_153 ?_
                          refine h_istore C [(4, .int ((i + (10 * j)) + (100 * k))), (0, .ref (ad G 44)), (5, .long ba3), (7, .long bb3), (9, .int i), (10, .int j), (11, .int k)] dX11_best_154 (by decide) rfl ?_
                          refine h_aload_n C 1 dX11_best_156 rfl rfl ?_
                          refine gfX11_75 C (ty_44 hY) dX11_best_157 ?_
                          refine h_lstore C [(5, .long (gL σ4 44 21)), (4, .int ((i + (10 * j)) + (100 * k))), (0, .ref (ad G 44)), (7, .long bb3), (9, .int i), (10, .int j), (11, .int k)] dX11_best_160 (by decide) rfl ?_
                          refine h_aload_n C 2 dX11_best_162 rfl rfl ?_
                          refine gfX11_79 C (ty_44 hY) dX11_best_163 ?_
                          refine h_lstore C [(7, .long (gL σ4 44 22)), (5, .long (gL σ4 44 21)), (4, .int ((i + (10 * j)) + (100 * k))), (0, .ref (ad G 44)), (9, .int i), (10, .int j), (11, .int k)] dX11_best_166 (by decide) rfl ?_
                          refine h_iinc C [(11, .int (k + 1)), (7, .long (gL σ4 44 22)), (5, .long (gL σ4 44 21)), (4, .int ((i + (10 * j)) + (100 * k))), (0, .ref (ad G 44)), (9, .int i), (10, .int j)] 6 (k + 1) dX11_best_168 rfl rfl (by decide) rfl ?_
                          refine h_goto C 62 dX11_best_171 (by decide) ?_
                          refine h_sub [4, 3, 2, 1, 5, 6, 0] rfl ?_
                          refine ih3 ((k + 1), ((i + (10 * j)) + (100 * k)), (gL σ4 44 21), (gL σ4 44 22), σ4) ?_ ?_
                          · refine ⟨by have := hI3.1; clear C; grind, (le_succ hk0 hkl).2, ?_, ⟨hI3.2.2.2.1.tr hw.1, hf4⟩⟩
                            have e1 := tn_succ hk0 hkl
                            have e2 : j.toNatClampNeg + 1 ≤ k.toNatClampNeg := by
                              have := tn_le (i := j + 1) (by clear C; grind) hI3.1
                              rw [tn_succ hj0 hjl] at this
                              exact this
                            rw [e1, show k.toNatClampNeg + 1 - (j.toNatClampNeg + 1) = (k.toNatClampNeg - (j.toNatClampNeg + 1)) + 1 by omega]
                            show _ = mb3 σ (fe3 x y d) i.toNatClampNeg j.toNatClampNeg (k.toNatClampNeg - (j.toNatClampNeg + 1)) (itG (mb3 σ (fe3 x y d) i.toNatClampNeg j.toNatClampNeg) (k.toNatClampNeg - (j.toNatClampNeg + 1)) (be2, ba2, bb2))
                            rw [← hI3.2.2.1]
                            unfold mb3
                            rw [nI_tn hI1.1, nI_tn hj0, ofNat_succ_tn hk0 (by omega)]
                            rw [hA, hB]
                            rw [bsS_y ⟨(frJ_cp hI3.2.2.2.1).mp (isB_1 hra c_77), (frJ_cp hI3.2.2.2.1).mp (isB_1 hrb c_86), (frJ_cp hI3.2.2.2.1).mp (isB_1 hrc c_95), isB_1 hrw c_108, fun z => absurd z.1 (Int32.not_le.mpr c_116)⟩]
                          · exact tm_lt hkl
                        · refine h_aload_n C 0 dX11_best_119 rfl rfl ?_
                          refine gfX11_75 C (ty_44 hY) dX11_best_120 ?_
                          refine h_lload C 3 dX11_best_123 rfl ?_
                          refine h_lmul C dX11_best_125 ?_
                          refine h_lload C 2 dX11_best_126 rfl ?_
                          refine h_aload_n C 0 dX11_best_128 rfl rfl ?_
                          refine gfX11_79 C (ty_44 hY) dX11_best_129 ?_
                          refine h_lmul C dX11_best_132 ?_
                          refine h_lcmp C dX11_best_133 ?_
                          refine h_if_lt C 140 dX11_best_134 (by decide) (fun c_134 => ?_) (fun c_134 => ?_)
                          · refine h_iload C 4 dX11_best_140 rfl ?_
                            refine h_bipush C 10 dX11_best_142 (by decide) ?_
                            refine h_iload C 5 dX11_best_144 rfl ?_
                            refine h_imul C dX11_best_146 ?_
                            refine h_iadd C dX11_best_147 ?_
                            refine h_bipush C 100 dX11_best_148 (by decide) ?_
                            refine h_iload C 6 dX11_best_150 rfl ?_
                            refine h_imul C dX11_best_152 ?_
                            refine h_iadd C dX11_best_153 ?_
                            refine h_istore C [(4, .int ((i + (10 * j)) + (100 * k))), (0, .ref (ad G 44)), (5, .long ba3), (7, .long bb3), (9, .int i), (10, .int j), (11, .int k)] dX11_best_154 (by decide) rfl ?_
                            refine h_aload_n C 1 dX11_best_156 rfl rfl ?_
                            refine gfX11_75 C (ty_44 hY) dX11_best_157 ?_
                            refine h_lstore C [(5, .long (gL σ4 44 21)), (4, .int ((i + (10 * j)) + (100 * k))), (0, .ref (ad G 44)), (7, .long bb3), (9, .int i), (10, .int j), (11, .int k)] dX11_best_160 (by decide) rfl ?_
                            refine h_aload_n C 2 dX11_best_162 rfl rfl ?_
                            refine gfX11_79 C (ty_44 hY) dX11_best_163 ?_
                            refine h_lstore C [(7, .long (gL σ4 44 22)), (5, .long (gL σ4 44 21)), (4, .int ((i + (10 * j)) + (100 * k))), (0, .ref (ad G 44)), (9, .int i), (10, .int j), (11, .int k)] dX11_best_166 (by decide) rfl ?_
                            refine h_iinc C [(11, .int (k + 1)), (7, .long (gL σ4 44 22)), (5, .long (gL σ4 44 21)), (4, .int ((i + (10 * j)) + (100 * k))), (0, .ref (ad G 44)), (9, .int i), (10, .int j)] 6 (k + 1) dX11_best_168 rfl rfl (by decide) rfl ?_
                            refine h_goto C 62 dX11_best_171 (by decide) ?_
                            refine h_sub [4, 3, 2, 1, 5, 6, 0] rfl ?_
                            refine ih3 ((k + 1), ((i + (10 * j)) + (100 * k)), (gL σ4 44 21), (gL σ4 44 22), σ4) ?_ ?_
                            · refine ⟨by have := hI3.1; clear C; grind, (le_succ hk0 hkl).2, ?_, ⟨hI3.2.2.2.1.tr hw.1, hf4⟩⟩
                              have e1 := tn_succ hk0 hkl
                              have e2 : j.toNatClampNeg + 1 ≤ k.toNatClampNeg := by
                                have := tn_le (i := j + 1) (by clear C; grind) hI3.1
                                rw [tn_succ hj0 hjl] at this
                                exact this
                              rw [e1, show k.toNatClampNeg + 1 - (j.toNatClampNeg + 1) = (k.toNatClampNeg - (j.toNatClampNeg + 1)) + 1 by omega]
                              show _ = mb3 σ (fe3 x y d) i.toNatClampNeg j.toNatClampNeg (k.toNatClampNeg - (j.toNatClampNeg + 1)) (itG (mb3 σ (fe3 x y d) i.toNatClampNeg j.toNatClampNeg) (k.toNatClampNeg - (j.toNatClampNeg + 1)) (be2, ba2, bb2))
                              rw [← hI3.2.2.1]
                              unfold mb3
                              rw [nI_tn hI1.1, nI_tn hj0, ofNat_succ_tn hk0 (by omega)]
                              rw [hA, hB]
                              have h := lg_lt.mp c_134
                              rw [hA, hB] at h
                              have hc : bsC σ (fe3 x y d) i j k (be3, ba3, bb3) := by
                                refine ⟨(frJ_cp hI3.2.2.2.1).mp (isB_1 hra c_77), (frJ_cp hI3.2.2.2.1).mp (isB_1 hrb c_86), (frJ_cp hI3.2.2.2.1).mp (isB_1 hrc c_95), isB_1 hrw c_108, ?_⟩
                                rintro ⟨-, z⟩
                                exact Int64.not_le.mpr h z
                              rw [bsS_y hc]
                            · exact tm_lt hkl
                          · refine h_goto C 168 dX11_best_137 (by decide) ?_
                            refine h_iinc C [(11, .int (k + 1)), (0, .ref (ad G 44)), (4, .int be3), (5, .long ba3), (7, .long bb3), (9, .int i), (10, .int j)] 6 (k + 1) dX11_best_168 rfl rfl (by decide) rfl ?_
                            refine h_goto C 62 dX11_best_171 (by decide) ?_
                            refine h_sub [1, 2, 3, 4, 5, 6, 0] rfl ?_
                            refine ih3 ((k + 1), be3, ba3, bb3, σ4) ?_ ?_
                            · refine ⟨by have := hI3.1; clear C; grind, (le_succ hk0 hkl).2, ?_, ⟨hI3.2.2.2.1.tr hw.1, hf4⟩⟩
                              have e1 := tn_succ hk0 hkl
                              have e2 : j.toNatClampNeg + 1 ≤ k.toNatClampNeg := by
                                have := tn_le (i := j + 1) (by clear C; grind) hI3.1
                                rw [tn_succ hj0 hjl] at this
                                exact this
                              rw [e1, show k.toNatClampNeg + 1 - (j.toNatClampNeg + 1) = (k.toNatClampNeg - (j.toNatClampNeg + 1)) + 1 by omega]
                              show _ = mb3 σ (fe3 x y d) i.toNatClampNeg j.toNatClampNeg (k.toNatClampNeg - (j.toNatClampNeg + 1)) (itG (mb3 σ (fe3 x y d) i.toNatClampNeg j.toNatClampNeg) (k.toNatClampNeg - (j.toNatClampNeg + 1)) (be2, ba2, bb2))
                              rw [← hI3.2.2.1]
                              unfold mb3
                              rw [nI_tn hI1.1, nI_tn hj0, ofNat_succ_tn hk0 (by omega)]
                              rw [bsS_n (fun q => q.2.2.2.2 ⟨Int32.not_lt.mp c_116, ?_⟩)]
                              have h := Int64.not_lt.mp (fun z => c_134 (lg_lt.mpr z))
                              rw [hA, hB] at h
                              exact h
                            · exact tm_lt hkl
                      · refine h_goto C 168 dX11_best_111 (by decide) ?_
                        refine h_iinc C [(11, .int (k + 1)), (0, .ref (ad G 44)), (4, .int be3), (5, .long ba3), (7, .long bb3), (9, .int i), (10, .int j)] 6 (k + 1) dX11_best_168 rfl rfl (by decide) rfl ?_
                        refine h_goto C 62 dX11_best_171 (by decide) ?_
                        refine h_sub [1, 2, 3, 4, 5, 6, 0] rfl ?_
                        refine ih3 ((k + 1), be3, ba3, bb3, σ4) ?_ ?_
                        · refine ⟨by have := hI3.1; clear C; grind, (le_succ hk0 hkl).2, ?_, ⟨hI3.2.2.2.1.tr hw.1, hf4⟩⟩
                          have e1 := tn_succ hk0 hkl
                          have e2 : j.toNatClampNeg + 1 ≤ k.toNatClampNeg := by
                            have := tn_le (i := j + 1) (by clear C; grind) hI3.1
                            rw [tn_succ hj0 hjl] at this
                            exact this
                          rw [e1, show k.toNatClampNeg + 1 - (j.toNatClampNeg + 1) = (k.toNatClampNeg - (j.toNatClampNeg + 1)) + 1 by omega]
                          show _ = mb3 σ (fe3 x y d) i.toNatClampNeg j.toNatClampNeg (k.toNatClampNeg - (j.toNatClampNeg + 1)) (itG (mb3 σ (fe3 x y d) i.toNatClampNeg j.toNatClampNeg) (k.toNatClampNeg - (j.toNatClampNeg + 1)) (be2, ba2, bb2))
                          rw [← hI3.2.2.1]
                          unfold mb3
                          rw [nI_tn hI1.1, nI_tn hj0, ofNat_succ_tn hk0 (by omega)]
                          rw [bsS_n (fun q => isB_0 hrw c_108 q.2.2.2.1)]
                        · exact tm_lt hkl
            · have e := tn_succ hj0 hjl
              refine ⟨Int32.le_refl _, (le_succ hj0 hjl).2, ?_, hI2.2.2.2⟩
              rw [e, Nat.sub_self]
              rfl
        · have e := tn_succ hI1.1 hil
          refine ⟨Int32.le_refl _, (le_succ hI1.1 hil).2, ?_, hI1.2.2.2⟩
          rw [e, Nat.sub_self]
          rfl
    · exact ⟨by decide, hN0.1, by rw [tn_0]; rfl, feF_J, feF_f⟩
  · refine h_iconst C (-1) dX11_best_10 (by decide) ?_
    refine h_iret C rfl (Nat.zero_le _) (Nat.zero_le _) dX11_best_11 ?_
    exact ⟨_, rfl, Or.inl ⟨feV_0 c_7, rfl, rfl⟩⟩
