/-! ===== the reference: steps, set-ups ===== -/
def mAll (σ : ha_St) : Int32 := 1 <<< (gI σ 44 23 &&& 31) - 1
def mStep (σ : ha_St) (x y : Int32) : ha_St := sI (sI (sI σ 60 (gI σ 44 23).toNatClampNeg x) 61 (gI σ 44 23).toNatClampNeg y) 44 23 (gI σ 44 23 + 1)
def mOkS (σ : ha_St) (x y : Int32) : Prop := (1 ≤ x ∧ x ≤ 63) ∧ 0 ≤ y ∧ y ≤ mAll σ
def mStepQ (σ : ha_St) (x y r : Int32) (σ' : ha_St) : Prop := (¬ mOkS σ x y ∧ r = -1 ∧ σ' = σ) ∨ (mOkS σ x y ∧ gI σ 44 23 = 12 ∧ r = -2 ∧ σ' = σ) ∨ (mOkS σ x y ∧ gI σ 44 23 ≠ 12 ∧ r = gI σ 44 23 ∧ σ' = mStep σ x y)
def wkS (σ : ha_St) (side : Int32) (s : Nat) (d : Int32) : Int32 := if ((gI σ 60 s >>> (side &&& 31)) &&& 1) = 1 ∧ (gI σ 61 s &&& (d ^^^ (-1))) = 0 then d ||| (1 <<< (Int32.ofNat s &&& 31)) else d
def WK (σ : ha_St) (d side : Int32) : Int32 := itI (wkS σ side) (gI σ 44 23).toNatClampNeg d
/-- what a set-up leads to stays within the steps -/
def WB (σ : ha_St) : Prop := (0 ≤ mAll σ ∧ mAll σ < 4096) ∧ ∀ d s, 0 ≤ d → d ≤ mAll σ → 0 ≤ s → s < 6 → d ≤ WK σ d s ∧ WK σ d s ≤ mAll σ
def frM (σ σ' : ha_St) : Prop := gT σ' = gT σ ∧ gR σ' = gR σ ∧ gn σ' = gn σ ∧ (∀ a, a ≠ 62 → gI σ' a = gI σ a) ∧ gL σ' = gL σ
theorem frM.rf {σ : ha_St} : frM σ σ := ⟨rfl, rfl, rfl, fun _ _ => rfl, rfl⟩
theorem frM.tr {σ σ1 σ2 : ha_St} (h : frM σ σ1) (g : frM σ1 σ2) : frM σ σ2 := ⟨g.1.trans h.1, g.2.1.trans h.2.1, g.2.2.1.trans h.2.2.1, fun a ha => (g.2.2.2.1 a ha).trans (h.2.2.2.1 a ha), g.2.2.2.2.trans h.2.2.2.2⟩
theorem frM.LY {σ σ' : ha_St} (h : frM σ σ') (hY : LY σ) : LY σ' := hY.same h.1 h.2.1 h.2.2.1
theorem frM_sI {σ : ha_St} {j : Nat} {v : Int32} : frM σ (sI σ 62 j v) := ⟨rfl, rfl, rfl, fun a ha => funext fun y => by rw [gI_sI, if_neg (fun q => ha q.1)], rfl⟩
theorem frM.J {σ σ' : ha_St} (h : frM σ σ') : frJ σ σ' := ⟨h.1, h.2.1, h.2.2.1, fun a j hj => by rw [h.2.2.2.1 a (by unfold scJ at hj; omega)], fun a _ => by rw [h.2.2.2.2]⟩
theorem frM_n {σ σ' : ha_St} (h : frM σ σ') : gI σ' 44 23 = gI σ 44 23 := by rw [h.2.2.2.1 44 (by omega)]
theorem frM_all {σ σ' : ha_St} (h : frM σ σ') : mAll σ' = mAll σ := by unfold mAll; rw [frM_n h]
theorem frM_WK {σ σ' : ha_St} (h : frM σ σ') : WK σ' = WK σ := by
  funext d s
  unfold WK
  rw [frM_n h]
  congr 1
  funext x y
  unfold wkS
  rw [h.2.2.2.1 60 (by omega), h.2.2.2.1 61 (by omega)]
theorem frM_WB {σ σ' : ha_St} (h : frM σ σ') (g : WB σ) : WB σ' := by unfold WB at *; rw [frM_all h, frM_WK h]; exact g
def mnS (W : Int32 → Int32 → Int32) (μ : Nat → Int32) (d : Int32) (s : Nat) (x : Int32) : Int32 := if W d (Int32.ofNat s) ≠ d ∧ μ (W d (Int32.ofNat s)).toNatClampNeg + 1 < x then μ (W d (Int32.ofNat s)).toNatClampNeg + 1 else x
def mnV (W : Int32 → Int32 → Int32) (μ : Nat → Int32) (d : Int32) : Int32 := itI (mnS W μ d) 6 99
/-- the table of set-ups still to go -/
def mfT (σ : ha_St) (μ : Nat → Int32) : Prop := μ (mAll σ).toNatClampNeg = 0 ∧ ∀ d, 0 ≤ d → d < mAll σ → μ d.toNatClampNeg = mnV (WK σ) μ d
def mfQ (σ σ' : ha_St) : Prop := frM σ σ' ∧ mfT σ (gI σ' 62)
theorem itI_congr {f g : Nat → Int32 → Int32} : ∀ (n : Nat) (d : Int32), (∀ s x, s < n → f s x = g s x) → itI f n d = itI g n d
  | 0, _, _ => rfl
  | n + 1, d, h => by
    show f n (itI f n d) = g n (itI g n d)
    rw [itI_congr n d (fun s x hs => h s x (by omega)), h n _ (by omega)]
theorem ofN6 : ∀ s : Nat, s < 6 → 0 ≤ Int32.ofNat s ∧ Int32.ofNat s < 6 := by decide
theorem tn_ne {a b : Int32} (h0 : 0 ≤ a) (h1 : 0 ≤ b) (h : a ≠ b) : a.toNatClampNeg ≠ b.toNatClampNeg := fun q => h (by rw [← nI_tn h0, ← nI_tn h1, q])
theorem mnS_congr {σ : ha_St} (hB : WB σ) {μ : Nat → Int32} {d e : Int32} {v : Int32} (he0 : 0 ≤ e) (he : e ≤ d) (hd : d ≤ mAll σ) {s : Nat} (hs : s < 6) (x : Int32) : mnS (WK σ) (fun j => if j = e.toNatClampNeg then v else μ j) d s x = mnS (WK σ) μ d s x := by
  have h := hB.2 d (Int32.ofNat s) (Int32.le_trans he0 he) hd (ofN6 s hs).1 (ofN6 s hs).2
  unfold mnS
  by_cases q : WK σ d (Int32.ofNat s) ≠ d
  · have hne : (WK σ d (Int32.ofNat s)).toNatClampNeg ≠ e.toNatClampNeg := tn_ne (by grind) he0 (by grind)
    simp only [if_neg hne]
  · rw [if_neg (fun z => q z.1), if_neg (fun z => q z.1)]
theorem mnV_congr {σ : ha_St} (hB : WB σ) {μ : Nat → Int32} {d e : Int32} {v : Int32} (he0 : 0 ≤ e) (he : e ≤ d) (hd : d ≤ mAll σ) : mnV (WK σ) (fun j => if j = e.toNatClampNeg then v else μ j) d = mnV (WK σ) μ d := itI_congr 6 99 (fun _ x hs => mnS_congr hB he0 he hd hs x)
theorem gI_62 {σ : ha_St} {j : Nat} {v : Int32} : gI (sI σ 62 j v) 62 = fun y => if y = j then v else gI σ 62 y := by
  funext y
  rw [gI_sI]
  simp only [true_and]
set_option maxRecDepth 100000 in
set_option maxHeartbeats 4000000 in
theorem m_X11_step {G : ha_G} {l : Launch} {σ : ha_St} {x y : Int32} (hY : LY σ) (hs0 : 0 ≤ gI σ 44 23) (hs1 : gI σ 44 23 ≤ 12) : hM G l yX11_step cX11_step 3 (some .int) { frames := 1, cells := 0, slots := 0, locals := 23 } [.ref (ad G 44), .int x, .int y] σ (fun v σ' => ∃ r, v = some (.int r) ∧ mStepQ σ x y r σ') := by
  refine hM_ofF [(0, .ref (ad G 44)), (1, .int x), (2, .int y)] (by decide +kernel) (Nat.le_of_ble_eq_true rfl) rfl ?_
  intro p e s m args below meth c0 C hin
  refine h_aload_n C 0 dX11_step_0 rfl rfl ?_
  refine h_iload_n C 1 dX11_step_1 rfl rfl ?_
  refine h_iconst C 1 dX11_step_2 (by decide) ?_
  refine h_bipush C 63 dX11_step_3 (by decide) ?_
  refine h_callV C m_X11_in caX11_130 kX11 (ty_44 hY) ⟨by decide, by decide, by decide, by decide⟩ rfl rfl (Nat.le_of_ble_eq_true rfl) dX11_step_5 ?_
  rintro v σ' ⟨rfl, h2⟩; rw [h2]; clear h2
  show hW _ _ _ _ _ _ _ _ _ _ _ _ _ 8 [(0, .ref (ad G 44)), (1, .int x), (2, .int y)] [.int (inV x 1 63)] σ 0 0
  refine h_if_eq C 28 dX11_step_8 (by decide) (fun c_8 => ?_) (fun c_8 => ?_)
  · refine h_iconst C (-1) dX11_step_28 (by decide) ?_
    refine h_iret C rfl (Nat.zero_le _) (Nat.zero_le _) dX11_step_29 ?_
    exact ⟨_, rfl, Or.inl ⟨fun q => inV_0 c_8 q.1, rfl, rfl⟩⟩
  · refine h_aload_n C 0 dX11_step_11 rfl rfl ?_
    refine h_iload_n C 2 dX11_step_12 rfl rfl ?_
    refine h_iconst C 0 dX11_step_13 (by decide) ?_
    refine h_iconst C 1 dX11_step_14 (by decide) ?_
    refine h_aload_n C 0 dX11_step_15 rfl rfl ?_
    refine gfX11_82 C (ty_44 hY) dX11_step_16 ?_
    refine h_ishl C dX11_step_19 ?_
    refine h_iconst C 1 dX11_step_20 (by decide) ?_
    refine h_isub C dX11_step_21 ?_
    refine h_callV C m_X11_in caX11_130 kX11 (ty_44 hY) ⟨by decide, by decide, by decide, by decide⟩ rfl rfl (Nat.le_of_ble_eq_true rfl) dX11_step_22 ?_
    rintro v σ' ⟨rfl, h2⟩; rw [h2]; clear h2
    show hW _ _ _ _ _ _ _ _ _ _ _ _ _ 25 [(0, .ref (ad G 44)), (1, .int x), (2, .int y)] [.int (inV y 0 ((1 <<< ((gI σ 44 23) &&& 31)) - 1))] σ 0 0
    refine h_if_ne C 30 dX11_step_25 (by decide) (fun c_25 => ?_) (fun c_25 => ?_)
    · refine h_aload_n C 0 dX11_step_30 rfl rfl ?_
      refine gfX11_82 C (ty_44 hY) dX11_step_31 ?_
      refine h_bipush C 12 dX11_step_34 (by decide) ?_
      refine h_icmp_ne C 42 dX11_step_36 (by decide) (fun c_36 => ?_) (fun c_36 => ?_)
      · have hv : vp_in (gI σ 44 23) 12 := vp32 (N := 12) hs0 (by have h1 := hs1; have h2 := c_36; clear C; grind) (by decide)
        refine h_aload_n C 0 dX11_step_42 rfl rfl ?_
        refine gfX11_85 C (ty_44 hY) dX11_step_43 ?_
        refine h_tref (b := 60) (rf_44_24 hY) ?_
        refine h_aload_n C 0 dX11_step_46 rfl rfl ?_
        refine gfX11_82 C (ty_44 hY) dX11_step_47 ?_
        refine h_iload_n C 1 dX11_step_50 rfl rfl ?_
        refine h_iast C _ (ty_60 hY) hv dX11_step_51 rfl ?_
        refine h_aload_n C 0 dX11_step_52 rfl rfl ?_
        refine gfX11_88 C (ty_44 hY) dX11_step_53 ?_
        refine h_tref (b := 61) (rf_44_25 hY) ?_
        refine h_aload_n C 0 dX11_step_56 rfl rfl ?_
        refine gfX11_82 C (ty_44 hY) dX11_step_57 ?_
        show hW _ _ _ _ _ _ _ _ _ _ _ _ _ 60 [(0, .ref (ad G 44)), (1, .int x), (2, .int y)] [.int (gI σ 44 23), .ref (ad G 61)] (sI σ 60 (gI σ 44 23).toNatClampNeg x) 0 0
        refine h_iload_n C 2 dX11_step_60 rfl rfl ?_
        refine h_iast C _ (ty_61 hY) hv dX11_step_61 rfl ?_
        refine h_aload_n C 0 dX11_step_62 rfl rfl ?_
        refine h_dup C dX11_step_63 rfl ?_
        refine gfX11_82 C (ty_44 hY) dX11_step_64 ?_
        show hW _ _ _ _ _ _ _ _ _ _ _ _ _ 67 [(0, .ref (ad G 44)), (1, .int x), (2, .int y)] [.int (gI σ 44 23), .ref (ad G 44)] (sI (sI σ 60 (gI σ 44 23).toNatClampNeg x) 61 (gI σ 44 23).toNatClampNeg y) 0 0
        refine h_iconst C 1 dX11_step_67 (by decide) ?_
        refine h_iadd C dX11_step_68 ?_
        refine pfX11_82 C (ty_44 hY) dX11_step_69 ?_
        refine h_aload_n C 0 dX11_step_72 rfl rfl ?_
        refine gfX11_82 C (ty_44 hY) dX11_step_73 ?_
        show hW _ _ _ _ _ _ _ _ _ _ _ _ _ 76 [(0, .ref (ad G 44)), (1, .int x), (2, .int y)] [.int ((gI σ 44 23) + 1)] (sI (sI (sI σ 60 (gI σ 44 23).toNatClampNeg x) 61 (gI σ 44 23).toNatClampNeg y) 44 23 ((gI σ 44 23) + 1)) 0 0
        refine h_iconst C 1 dX11_step_76 (by decide) ?_
        refine h_isub C dX11_step_77 ?_
        refine h_iret C rfl (Nat.zero_le _) (Nat.zero_le _) dX11_step_78 ?_
        refine ⟨_, rfl, Or.inr (Or.inr ⟨⟨inV_1 c_8, inV_1 c_25⟩, c_36, ?_, rfl⟩)⟩
        clear C
        grind
      · refine h_bipush C (-2) dX11_step_39 (by decide) ?_
        refine h_iret C rfl (Nat.zero_le _) (Nat.zero_le _) dX11_step_41 ?_
        exact ⟨_, rfl, Or.inr (Or.inl ⟨⟨inV_1 c_8, inV_1 c_25⟩, c_36, rfl, rfl⟩)⟩
    · refine h_iconst C (-1) dX11_step_28 (by decide) ?_
      refine h_iret C rfl (Nat.zero_le _) (Nat.zero_le _) dX11_step_29 ?_
      exact ⟨_, rfl, Or.inl ⟨fun q => inV_0 c_25 q.2, rfl, rfl⟩⟩
set_option maxRecDepth 100000 in
set_option maxHeartbeats 4000000 in
theorem m_X11_work {G : ha_G} {l : Launch} {σ : ha_St} {d0 side : Int32} (hY : LY σ) (hs0 : 0 ≤ gI σ 44 23) (hs1 : gI σ 44 23 ≤ 12) : hM G l yX11_work cX11_work 5 (some .int) { frames := 0, cells := 0, slots := 0, locals := 0 } [.ref (ad G 44), .int d0, .int side] σ (fun v σ' => v = some (.int (WK σ d0 side)) ∧ σ' = σ) := by
  refine hM_ofF [(0, .ref (ad G 44)), (1, .int d0), (2, .int side)] (by decide +kernel) (Nat.le_of_ble_eq_true rfl) rfl ?_
  intro p e s m args below meth c0 C hin
  refine h_iload_n C 1 dX11_work_0 rfl rfl ?_
  refine h_istore_n C [(3, .int d0), (0, .ref (ad G 44)), (1, .int d0), (2, .int side)] dX11_work_1 rfl (by decide) rfl ?_
  refine h_iconst C 0 dX11_work_2 (by decide) ?_
  refine h_istore C [(4, .int 0), (3, .int d0), (0, .ref (ad G 44)), (1, .int d0), (2, .int side)] dX11_work_3 (by decide) rfl ?_
  refine h_sub [2, 4, 1, 0] rfl ?_
  refine h_loop (α := Int32 × Int32) (fun (d, i) => 0 ≤ i ∧ i ≤ gI σ 44 23 ∧ d = itI (wkS σ side) i.toNatClampNeg d0) (fun (d, i) => tm (gI σ 44 23) i) (fun (d, i) => [(0, .ref (ad G 44)), (2, .int side), (3, .int d), (4, .int i)]) (fun (d, i) => []) (fun (d, i) => σ) (fun (d, i) => 0) (fun (d, i) => 0) ?_ (d0, 0) ?_
  · rintro ⟨d, i⟩ hI ih
    show hW _ _ _ _ _ _ _ _ _ _ _ _ _ 5 [(0, .ref (ad G 44)), (2, .int side), (3, .int d), (4, .int i)] [] σ 0 0
    refine h_iload C 3 dX11_work_5 rfl ?_
    refine h_aload_n C 0 dX11_work_7 rfl rfl ?_
    refine gfX11_82 C (ty_44 hY) dX11_work_8 ?_
    refine h_icmp_ge C 56 dX11_work_11 (by decide) (fun c_11 => ?_) (fun c_11 => ?_)
    · refine h_iload_n C 2 dX11_work_56 rfl rfl ?_
      refine h_iret C rfl (Nat.zero_le _) (Nat.zero_le _) dX11_work_57 ?_
      have he := eq_end hI.2.1 (Int32.not_lt.mpr c_11)
      have hq := hI.2.2
      rw [he] at hq
      rw [hq]
      exact ⟨rfl, rfl⟩
    · refine h_aload_n C 0 dX11_work_14 rfl rfl ?_
      refine gfX11_85 C (ty_44 hY) dX11_work_15 ?_
      refine h_tref (b := 60) (rf_44_24 hY) ?_
      refine h_iload C 3 dX11_work_18 rfl ?_
      refine h_iald C (ty_60 hY) (vp32 (N := 12) hI.1 (Int32.lt_of_lt_of_le (Int32.not_le.mp c_11) hs1) (by decide)) dX11_work_20 ?_
      refine h_iload_n C 1 dX11_work_21 rfl rfl ?_
      refine h_ishr C dX11_work_22 ?_
      refine h_iconst C 1 dX11_work_23 (by decide) ?_
      refine h_iand C dX11_work_24 ?_
      refine h_iconst C 1 dX11_work_25 (by decide) ?_
      refine h_icmp_ne C 50 dX11_work_26 (by decide) (fun c_26 => ?_) (fun c_26 => ?_)
      · refine h_iinc C [(4, .int (i + 1)), (0, .ref (ad G 44)), (2, .int side), (3, .int d)] 3 (i + 1) dX11_work_50 rfl rfl (by decide) rfl ?_
        refine h_goto C 5 dX11_work_53 (by decide) ?_
        refine h_sub [1, 2, 3, 0] rfl ?_
        refine ih (d, (i + 1)) ?_ ?_
        · have hil := Int32.not_le.mp c_11
          refine ⟨(le_succ hI.1 hil).1, (le_succ hI.1 hil).2, ?_⟩
          rw [tn_succ hI.1 hil]
          show _ = wkS σ side i.toNatClampNeg (itI (wkS σ side) i.toNatClampNeg d0)
          rw [← hI.2.2]
          unfold wkS
          rw [nI_tn hI.1]
          rw [if_neg (fun q => c_26 q.1)]
        · exact tm_lt (Int32.not_le.mp c_11)
      · refine h_aload_n C 0 dX11_work_29 rfl rfl ?_
        refine gfX11_88 C (ty_44 hY) dX11_work_30 ?_
        refine h_tref (b := 61) (rf_44_25 hY) ?_
        refine h_iload C 3 dX11_work_33 rfl ?_
        refine h_iald C (ty_61 hY) (vp32 (N := 12) hI.1 (Int32.lt_of_lt_of_le (Int32.not_le.mp c_11) hs1) (by decide)) dX11_work_35 ?_
        refine h_iload_n C 2 dX11_work_36 rfl rfl ?_
        refine h_iconst C (-1) dX11_work_37 (by decide) ?_
        refine h_ixor C dX11_work_38 ?_
        refine h_iand C dX11_work_39 ?_
        refine h_if_ne C 50 dX11_work_40 (by decide) (fun c_40 => ?_) (fun c_40 => ?_)
        · refine h_iinc C [(4, .int (i + 1)), (0, .ref (ad G 44)), (2, .int side), (3, .int d)] 3 (i + 1) dX11_work_50 rfl rfl (by decide) rfl ?_
          refine h_goto C 5 dX11_work_53 (by decide) ?_
          refine h_sub [1, 2, 3, 0] rfl ?_
          refine ih (d, (i + 1)) ?_ ?_
          · have hil := Int32.not_le.mp c_11
            refine ⟨(le_succ hI.1 hil).1, (le_succ hI.1 hil).2, ?_⟩
            rw [tn_succ hI.1 hil]
            show _ = wkS σ side i.toNatClampNeg (itI (wkS σ side) i.toNatClampNeg d0)
            rw [← hI.2.2]
            unfold wkS
            rw [nI_tn hI.1]
            rw [if_neg (fun q => c_40 q.2)]
          · exact tm_lt (Int32.not_le.mp c_11)
        · refine h_iload_n C 2 dX11_work_43 rfl rfl ?_
          refine h_iconst C 1 dX11_work_44 (by decide) ?_
          refine h_iload C 3 dX11_work_45 rfl ?_
          refine h_ishl C dX11_work_47 ?_
          refine h_ior C dX11_work_48 ?_
          refine h_istore_n C [(3, .int (d ||| (1 <<< (i &&& 31)))), (0, .ref (ad G 44)), (2, .int side), (4, .int i)] dX11_work_49 rfl (by decide) rfl ?_
          refine h_iinc C [(4, .int (i + 1)), (3, .int (d ||| (1 <<< (i &&& 31)))), (0, .ref (ad G 44)), (2, .int side)] 3 (i + 1) dX11_work_50 rfl rfl (by decide) rfl ?_
          refine h_goto C 5 dX11_work_53 (by decide) ?_
          refine h_sub [2, 3, 1, 0] rfl ?_
          refine ih ((d ||| (1 <<< (i &&& 31))), (i + 1)) ?_ ?_
          · have hil := Int32.not_le.mp c_11
            refine ⟨(le_succ hI.1 hil).1, (le_succ hI.1 hil).2, ?_⟩
            rw [tn_succ hI.1 hil]
            show _ = wkS σ side i.toNatClampNeg (itI (wkS σ side) i.toNatClampNeg d0)
            rw [← hI.2.2]
            unfold wkS
            rw [nI_tn hI.1]
            rw [if_pos ⟨c_26, c_40⟩]
          · exact tm_lt (Int32.not_le.mp c_11)
  · exact ⟨by decide, hs0, by rw [tn_0]; rfl⟩
set_option maxRecDepth 100000 in
set_option maxHeartbeats 4000000 in
theorem m_X11_findFewest {G : ha_G} {l : Launch} {σ : ha_St} (hY : LY σ) (hs0 : 0 ≤ gI σ 44 23) (hs1 : gI σ 44 23 ≤ 12) (hB : WB σ) : hM G l yX11_findFewest cX11_findFewest 5 none { frames := 1, cells := 0, slots := 0, locals := 24 } [.ref (ad G 44)] σ (fun v σ' => v = none ∧ mfQ σ σ') := by
  have hY0 := hY
  refine hM_ofF [(0, .ref (ad G 44))] (by decide +kernel) (Nat.le_of_ble_eq_true rfl) rfl ?_
  intro p e s m args below meth c0 C hin
  refine h_iconst C 1 dX11_findFewest_0 (by decide) ?_
  refine h_aload_n C 0 dX11_findFewest_1 rfl rfl ?_
  refine gfX11_82 C (ty_44 hY) dX11_findFewest_2 ?_
  refine h_ishl C dX11_findFewest_5 ?_
  refine h_iconst C 1 dX11_findFewest_6 (by decide) ?_
  refine h_isub C dX11_findFewest_7 ?_
  refine h_istore_n C [(1, .int ((1 <<< ((gI σ 44 23) &&& 31)) - 1)), (0, .ref (ad G 44))] dX11_findFewest_8 rfl (by decide) rfl ?_
  show hW _ _ _ _ _ _ _ _ _ _ _ _ _ 9 [(1, .int (mAll σ)), (0, .ref (ad G 44))] [] σ 0 0
  refine h_aload_n C 1 dX11_findFewest_9 rfl rfl ?_
  refine gfX11_91 C (ty_44 hY) dX11_findFewest_10 ?_
  refine h_tref (b := 62) (rf_44_26 hY) ?_
  refine h_iload_n C 0 dX11_findFewest_13 rfl rfl ?_
  refine h_iconst C 0 dX11_findFewest_14 (by decide) ?_
  refine h_iast C _ (ty_62 hY) (vp32 (N := 4096) hB.1.1 hB.1.2 (by decide)) dX11_findFewest_15 rfl ?_
  refine h_iload_n C 0 dX11_findFewest_16 rfl rfl ?_
  refine h_iconst C 1 dX11_findFewest_17 (by decide) ?_
  refine h_isub C dX11_findFewest_18 ?_
  refine h_istore_n C [(2, .int ((mAll σ) - 1)), (1, .int (mAll σ)), (0, .ref (ad G 44))] dX11_findFewest_19 rfl (by decide) rfl ?_
  refine h_sub [2, 1, 0] rfl ?_
  refine h_loop (α := Int32 × ha_St) (fun (d, σ1) => -1 ≤ d ∧ d < (mAll σ) ∧ frM σ σ1 ∧ gI σ1 62 (mAll σ).toNatClampNeg = 0 ∧ ∀ e, d < e → e < (mAll σ) → gI σ1 62 e.toNatClampNeg = mnV (WK σ) (gI σ1 62) e) (fun (d, σ1) => (d.toInt + 1).toNat) (fun (d, σ1) => [(0, .ref (ad G 44)), (1, .int (mAll σ)), (2, .int d)]) (fun (d, σ1) => []) (fun (d, σ1) => σ1) (fun (d, σ1) => 0) (fun (d, σ1) => 0) ?_ ((mAll σ - 1), (sI σ 62 (mAll σ).toNatClampNeg 0)) ?_
  · rintro ⟨d, σ1⟩ hI1 ih1
    show hW _ _ _ _ _ _ _ _ _ _ _ _ _ 20 [(0, .ref (ad G 44)), (1, .int (mAll σ)), (2, .int d)] [] σ1 0 0
    have hY : LY σ1 := hI1.2.2.1.LY hY0
    have hz := frM_n hI1.2.2.1
    refine h_iload_n C 2 dX11_findFewest_20 rfl rfl ?_
    refine h_if_lt C 99 dX11_findFewest_21 (by decide) (fun c_21 => ?_) (fun c_21 => ?_)
    · refine h_vret C rfl (Nat.zero_le _) (Nat.zero_le _) dX11_findFewest_99 ?_
      refine ⟨rfl, hI1.2.2.1, hI1.2.2.2.1, fun e h0 h1 => hI1.2.2.2.2 e (by have h2 := c_21; clear C; grind) h1⟩
    · have hd0 : 0 ≤ d ∧ d < mAll σ := ⟨Int32.not_lt.mp c_21, hI1.2.1⟩
      have hda : d ≤ mAll σ := Int32.le_of_lt hd0.2
      refine h_aload_n C 0 dX11_findFewest_24 rfl rfl ?_
      refine gfX11_91 C (ty_44 hY) dX11_findFewest_25 ?_
      refine h_tref (b := 62) (rf_44_26 hY) ?_
      refine h_iload_n C 2 dX11_findFewest_28 rfl rfl ?_
      refine h_bipush C 99 dX11_findFewest_29 (by decide) ?_
      refine h_iast C _ (ty_62 hY) (vp32 (N := 4096) hd0.1 (by have h1 := hd0.2; have h2 := hB.1.2; clear C; grind) (by decide)) dX11_findFewest_31 rfl ?_
      refine h_iconst C 0 dX11_findFewest_32 (by decide) ?_
      refine h_istore_n C [(3, .int 0), (0, .ref (ad G 44)), (1, .int (mAll σ)), (2, .int d)] dX11_findFewest_33 rfl (by decide) rfl ?_
      refine h_sub [1, 2, 3, 0] rfl ?_
      refine h_loop (α := Int32 × ha_St) (fun (s, σ2) => 0 ≤ s ∧ s ≤ 6 ∧ frM σ σ2 ∧ gI σ2 62 d.toNatClampNeg = itI (mnS (WK σ) (gI σ2 62) d) s.toNatClampNeg 99 ∧ gI σ2 62 (mAll σ).toNatClampNeg = 0 ∧ ∀ e, d < e → e < (mAll σ) → gI σ2 62 e.toNatClampNeg = mnV (WK σ) (gI σ2 62) e) (fun (s, σ2) => tm 6 s) (fun (s, σ2) => [(0, .ref (ad G 44)), (1, .int (mAll σ)), (2, .int d), (3, .int s)]) (fun (s, σ2) => []) (fun (s, σ2) => σ2) (fun (s, σ2) => 0) (fun (s, σ2) => 0) ?_ (0, (sI σ1 62 d.toNatClampNeg 99)) ?_
      · rintro ⟨s, σ2⟩ hI2 ih2
        show hW _ _ _ _ _ _ _ _ _ _ _ _ _ 34 [(0, .ref (ad G 44)), (1, .int (mAll σ)), (2, .int d), (3, .int s)] [] σ2 0 0
        have hY : LY σ2 := hI2.2.2.1.LY hY0
        have hz := frM_n hI2.2.2.1
        refine h_iload_n C 3 dX11_findFewest_34 rfl rfl ?_
        refine h_bipush C 6 dX11_findFewest_35 (by decide) ?_
        refine h_icmp_ge C 93 dX11_findFewest_37 (by decide) (fun c_37 => ?_) (fun c_37 => ?_)
        · refine h_iinc C [(2, .int (d + (-1))), (0, .ref (ad G 44)), (1, .int (mAll σ)), (3, .int s)] 2 (d + (-1)) dX11_findFewest_93 rfl rfl (by decide) rfl ?_
          refine h_goto C 20 dX11_findFewest_96 (by decide) ?_
          refine h_sub [1, 2, 0] rfl ?_
          refine ih1 ((d + (-1)), σ2) ?_ ?_
          · have hse := eq_end hI2.2.1 (Int32.not_lt.mpr c_37)
            have hq := hI2.2.2.2.1
            rw [hse] at hq
            have hd0' := hd0
            have hl := hB.1
            refine ⟨by clear C; grind, by clear C; grind, hI2.2.2.1, hI2.2.2.2.2.1, fun e h1 h2 => ?_⟩
            by_cases h3 : e = d
            · subst h3
              exact hq
            · exact hI2.2.2.2.2.2 e (by clear C; grind) h2
          · have h1 := Int32.le_iff_toInt_le.mp hd0.1
            rw [Int32.toInt_zero] at h1
            have h2 : (d + (-1)).toInt = d.toInt - 1 := by
              rw [Int32.toInt_add, show (-1 : Int32).toInt = -1 by decide, Int.bmod_eq_of_le (by have := Int32.toInt_lt d; omega) (by have := Int32.toInt_lt d; omega)]
              omega
            show ((d + (-1)).toInt + 1).toNat < (d.toInt + 1).toNat
            rw [h2]
            omega
        · have hsl := Int32.not_le.mp c_37
          have hWd := hB.2 d s hd0.1 hda hI2.1 hsl
          have hvd : vp_in d 4096 := vp32 (N := 4096) hd0.1 (by have h1 := hd0.2; have h2 := hB.1.2; clear C; grind) (by decide)
          have hvw : vp_in (WK σ d s) 4096 := vp32 (N := 4096) (Int32.le_trans hd0.1 hWd.1) (by have h1 := hWd.2; have h2 := hB.1.2; clear C; grind) (by decide)
          refine h_aload_n C 0 dX11_findFewest_40 rfl rfl ?_
          refine h_iload_n C 2 dX11_findFewest_41 rfl rfl ?_
          refine h_iload_n C 3 dX11_findFewest_42 rfl rfl ?_
          refine h_callV C (m_X11_work hY (by rw [hz]; exact hs0) (by rw [hz]; exact hs1)) caX11_256 kX11 (ty_44 hY) ⟨by decide, by decide, by decide, by decide⟩ rfl rfl (Nat.le_of_ble_eq_true rfl) dX11_findFewest_43 ?_
          rintro v σ' ⟨rfl, h2⟩; rw [h2]; clear h2; rw [frM_WK hI2.2.2.1]
          show hW _ _ _ _ _ _ _ _ _ _ _ _ _ 46 [(0, .ref (ad G 44)), (1, .int (mAll σ)), (2, .int d), (3, .int s)] [.int (WK σ d s)] σ2 0 0
          refine h_istore C [(4, .int (WK σ d s)), (0, .ref (ad G 44)), (1, .int (mAll σ)), (2, .int d), (3, .int s)] dX11_findFewest_46 (by decide) rfl ?_
          refine h_iload C 0 dX11_findFewest_48 rfl ?_
          refine h_iload_n C 3 dX11_findFewest_50 rfl rfl ?_
          refine h_icmp_eq C 87 dX11_findFewest_51 (by decide) (fun c_51 => ?_) (fun c_51 => ?_)
          · refine h_iinc C [(3, .int (s + 1)), (4, .int (WK σ d s)), (0, .ref (ad G 44)), (1, .int (mAll σ)), (2, .int d)] 4 (s + 1) dX11_findFewest_87 rfl rfl (by decide) rfl ?_
            refine h_goto C 34 dX11_findFewest_90 (by decide) ?_
            refine h_sub [2, 3, 4, 0] rfl ?_
            refine ih2 ((s + 1), σ2) ?_ ?_
            · refine ⟨(le_succ hI2.1 hsl).1, (le_succ hI2.1 hsl).2, hI2.2.2.1, ?_, hI2.2.2.2.2⟩
              rw [tn_succ hI2.1 hsl]
              show _ = mnS (WK σ) (gI σ2 62) d s.toNatClampNeg (itI (mnS (WK σ) (gI σ2 62) d) s.toNatClampNeg 99)
              rw [← hI2.2.2.2.1]
              unfold mnS
              rw [nI_tn hI2.1, if_neg (fun q => q.1 c_51)]
            · exact tm_lt hsl
          · refine h_aload_n C 1 dX11_findFewest_54 rfl rfl ?_
            refine gfX11_91 C (ty_44 hY) dX11_findFewest_55 ?_
            refine h_tref (b := 62) (rf_44_26 hY) ?_
            refine h_iload C 0 dX11_findFewest_58 rfl ?_
            refine h_iald C (ty_62 hY) hvw dX11_findFewest_60 ?_
            refine h_iconst C 1 dX11_findFewest_61 (by decide) ?_
            refine h_iadd C dX11_findFewest_62 ?_
            refine h_aload_n C 1 dX11_findFewest_63 rfl rfl ?_
            refine gfX11_91 C (ty_44 hY) dX11_findFewest_64 ?_
            refine h_tref (b := 62) (rf_44_26 hY) ?_
            refine h_iload_n C 3 dX11_findFewest_67 rfl rfl ?_
            refine h_iald C (ty_62 hY) hvd dX11_findFewest_68 ?_
            refine h_icmp_ge C 87 dX11_findFewest_69 (by decide) (fun c_69 => ?_) (fun c_69 => ?_)
            · refine h_iinc C [(3, .int (s + 1)), (4, .int (WK σ d s)), (0, .ref (ad G 44)), (1, .int (mAll σ)), (2, .int d)] 4 (s + 1) dX11_findFewest_87 rfl rfl (by decide) rfl ?_
              refine h_goto C 34 dX11_findFewest_90 (by decide) ?_
              refine h_sub [2, 3, 4, 0] rfl ?_
              refine ih2 ((s + 1), σ2) ?_ ?_
              · refine ⟨(le_succ hI2.1 hsl).1, (le_succ hI2.1 hsl).2, hI2.2.2.1, ?_, hI2.2.2.2.2⟩
                rw [tn_succ hI2.1 hsl]
                show _ = mnS (WK σ) (gI σ2 62) d s.toNatClampNeg (itI (mnS (WK σ) (gI σ2 62) d) s.toNatClampNeg 99)
                rw [← hI2.2.2.2.1]
                unfold mnS
                rw [nI_tn hI2.1, if_neg (fun q => absurd q.2 (Int32.not_lt.mpr c_69))]
              · exact tm_lt hsl
            · refine h_aload_n C 1 dX11_findFewest_72 rfl rfl ?_
              refine gfX11_91 C (ty_44 hY) dX11_findFewest_73 ?_
              refine h_tref (b := 62) (rf_44_26 hY) ?_
              refine h_iload_n C 3 dX11_findFewest_76 rfl rfl ?_
              refine h_aload_n C 1 dX11_findFewest_77 rfl rfl ?_
              refine gfX11_91 C (ty_44 hY) dX11_findFewest_78 ?_
              refine h_tref (b := 62) (rf_44_26 hY) ?_
              refine h_iload C 0 dX11_findFewest_81 rfl ?_
              refine h_iald C (ty_62 hY) hvw dX11_findFewest_83 ?_
              refine h_iconst C 1 dX11_findFewest_84 (by decide) ?_
              refine h_iadd C dX11_findFewest_85 ?_
              refine h_iast C _ (ty_62 hY) hvd dX11_findFewest_86 rfl ?_
              refine h_iinc C [(3, .int (s + 1)), (4, .int (WK σ d s)), (0, .ref (ad G 44)), (1, .int (mAll σ)), (2, .int d)] 4 (s + 1) dX11_findFewest_87 rfl rfl (by decide) rfl ?_
              refine h_goto C 34 dX11_findFewest_90 (by decide) ?_
              refine h_sub [2, 3, 4, 0] rfl ?_
              refine ih2 ((s + 1), (sI σ2 62 d.toNatClampNeg ((gI σ2 62 (WK σ d s).toNatClampNeg) + 1))) ?_ ?_
              · have hs6 : s.toNatClampNeg < 6 := by have := tn_lt (N := 6) hI2.1 hsl; rw [show (6 : Int32).toNatClampNeg = 6 by decide] at this; exact this
                refine ⟨(le_succ hI2.1 hsl).1, (le_succ hI2.1 hsl).2, hI2.2.2.1.tr frM_sI, ?_, ?_, fun e h1 h2 => ?_⟩
                · rw [tn_succ hI2.1 hsl, gI_62, itI_congr _ _ (fun _ x hs => mnS_congr hB hd0.1 (Int32.le_refl _) hda (by omega) x)]
                  show (if d.toNatClampNeg = d.toNatClampNeg then _ else _) = mnS (WK σ) (gI σ2 62) d s.toNatClampNeg (itI (mnS (WK σ) (gI σ2 62) d) s.toNatClampNeg 99)
                  rw [← hI2.2.2.2.1]
                  unfold mnS
                  rw [nI_tn hI2.1, if_pos rfl, if_pos ⟨c_51, Int32.not_le.mp c_69⟩]
                · rw [gI_sI, if_neg (fun q => tn_ne (Int32.le_trans hd0.1 hda) hd0.1 (by have h := hd0.2; clear C; grind) q.2)]
                  exact hI2.2.2.2.2.1
                · have he0 : 0 ≤ e := Int32.le_trans hd0.1 (Int32.le_of_lt h1)
                  rw [gI_62, mnV_congr hB hd0.1 (Int32.le_of_lt h1) (Int32.le_of_lt h2)]
                  show (if e.toNatClampNeg = d.toNatClampNeg then _ else _) = _
                  rw [if_neg (tn_ne he0 hd0.1 (by clear C; grind))]
                  exact hI2.2.2.2.2.2 e h1 h2
              · exact tm_lt hsl
      · refine ⟨by decide, by decide, hI1.2.2.1.tr frM_sI, ?_, ?_, fun e h1 h2 => ?_⟩
        · rw [gI_sI, if_pos ⟨rfl, rfl⟩, tn_0]
          rfl
        · rw [gI_sI, if_neg (fun q => tn_ne (Int32.le_trans hd0.1 hda) hd0.1 (by have h := hd0.2; clear C; grind) q.2)]
          exact hI1.2.2.2.1
        · have he0 : 0 ≤ e := Int32.le_trans hd0.1 (Int32.le_of_lt h1)
          rw [gI_62, mnV_congr hB hd0.1 (Int32.le_of_lt h1) (Int32.le_of_lt h2)]
          show (if e.toNatClampNeg = d.toNatClampNeg then _ else _) = _
          rw [if_neg (tn_ne he0 hd0.1 (by clear C; grind))]
          exact hI1.2.2.2.2 e h1 h2
  · refine ⟨by have h1 := hB.1.1; have h2 := hB.1.2; clear C; grind, by have h1 := hB.1.1; have h2 := hB.1.2; clear C; grind, frM_sI, by rw [gI_sI, if_pos ⟨rfl, rfl⟩], fun e h1 h2 => ?_⟩
    exact absurd h2 (by have h3 := hB.1.1; have h4 := hB.1.2; clear C; grind)
set_option maxRecDepth 100000 in
set_option maxHeartbeats 4000000 in
theorem m_X11_setups {G : ha_G} {l : Launch} {σ : ha_St} (hY : LY σ) (hs0 : 0 ≤ gI σ 44 23) (hs1 : gI σ 44 23 ≤ 12) (hB : WB σ) : hM G l yX11_setups cX11_setups 1 (some .int) { frames := 2, cells := 0, slots := 0, locals := 48 } [.ref (ad G 44)] σ (fun v σ' => v = some (.int (gI σ' 62 0)) ∧ mfQ σ σ') := by
  refine hM_ofF [(0, .ref (ad G 44))] (by decide +kernel) (Nat.le_of_ble_eq_true rfl) rfl ?_
  intro p e s m args below meth c0 C hin
  refine h_aload_n C 0 dX11_setups_0 rfl rfl ?_
  refine h_callV C (m_X11_findFewest hY hs0 hs1 hB) caX11_260 kX11 (ty_44 hY) ⟨by decide, by decide, by decide, by decide⟩ rfl rfl (Nat.le_of_ble_eq_true rfl) dX11_setups_1 ?_
  rintro v σ1 ⟨rfl, hm⟩
  have hY : LY σ1 := hm.1.LY hY
  show hW _ _ _ _ _ _ _ _ _ _ _ _ _ 4 [(0, .ref (ad G 44))] [] σ1 0 0
  refine h_aload_n C 0 dX11_setups_4 rfl rfl ?_
  refine gfX11_91 C (ty_44 hY) dX11_setups_5 ?_
  refine h_tref (b := 62) (rf_44_26 hY) ?_
  refine h_iconst C 0 dX11_setups_8 (by decide) ?_
  refine h_iald C (ty_62 hY) (vp32 (N := 4096) (by decide) (by decide) (by decide)) dX11_setups_9 ?_
  show hW _ _ _ _ _ _ _ _ _ _ _ _ _ 10 [(0, .ref (ad G 44))] [.int (gI σ1 62 0)] σ1 0 0
  refine h_iret C rfl (Nat.zero_le _) (Nat.zero_le _) dX11_setups_10 ?_
  exact ⟨rfl, hm⟩
def sfG (σ : ha_St) (d s : Int32) : Prop := WK σ d s ≠ d ∧ gI σ 62 (WK σ d s).toNatClampNeg + 1 = gI σ 62 d.toNatClampNeg
def sfQ (σ : ha_St) (d r : Int32) : Prop := (0 ≤ r ∧ r < 6) ∧ sfG σ d r ∧ ∀ s, 0 ≤ s → s < r → ¬ sfG σ d s
def sfE (σ : ha_St) (d : Int32) : Prop := ∃ s, (0 ≤ s ∧ s < 6) ∧ sfG σ d s
set_option maxRecDepth 100000 in
set_option maxHeartbeats 4000000 in
theorem m_X11_sideFor {G : ha_G} {l : Launch} {σ : ha_St} {d : Int32} (hY : LY σ) (hs0 : 0 ≤ gI σ 44 23) (hs1 : gI σ 44 23 ≤ 12) (hB : WB σ) (hd0 : 0 ≤ d) (hd1 : d ≤ mAll σ) (hE : sfE σ d) : hM G l yX11_sideFor cX11_sideFor 3 (some .int) { frames := 1, cells := 0, slots := 0, locals := 24 } [.ref (ad G 44), .int d] σ (fun v σ' => (∃ r, v = some (.int r) ∧ sfQ σ d r) ∧ σ' = σ) := by
  obtain ⟨s0, hs0e⟩ := hE
  refine hM_ofF [(0, .ref (ad G 44)), (1, .int d)] (by decide +kernel) (Nat.le_of_ble_eq_true rfl) rfl ?_
  intro p e s m args below meth c0 C hin
  refine h_iconst C 0 dX11_sideFor_0 (by decide) ?_
  refine h_istore_n C [(2, .int 0), (0, .ref (ad G 44)), (1, .int d)] dX11_sideFor_1 rfl (by decide) rfl ?_
  refine h_sub [1, 2, 0] rfl ?_
  refine h_loop (α := Int32) (fun s => 0 ≤ s ∧ s ≤ s0 ∧ ∀ x, 0 ≤ x → x < s → ¬ sfG σ d x) (fun s => tm 6 s) (fun s => [(0, .ref (ad G 44)), (1, .int d), (2, .int s)]) (fun s => []) (fun s => σ) (fun s => 0) (fun s => 0) ?_ 0 ?_
  · rintro s hI ih
    show hW _ _ _ _ _ _ _ _ _ _ _ _ _ 2 [(0, .ref (ad G 44)), (1, .int d), (2, .int s)] [] σ 0 0
    have hsl : s < 6 := Int32.lt_of_le_of_lt hI.2.1 hs0e.1.2
    have hWd := hB.2 d s hd0 hd1 hI.1 hsl
    have hvd : vp_in d 4096 := vp32 (N := 4096) hd0 (Int32.lt_of_le_of_lt hd1 hB.1.2) (by decide)
    have hvw : vp_in (WK σ d s) 4096 := vp32 (N := 4096) (Int32.le_trans hd0 hWd.1) (Int32.lt_of_le_of_lt hWd.2 hB.1.2) (by decide)
    refine h_aload_n C 0 dX11_sideFor_2 rfl rfl ?_
    refine h_iload_n C 1 dX11_sideFor_3 rfl rfl ?_
    refine h_iload_n C 2 dX11_sideFor_4 rfl rfl ?_
    refine h_callV C (m_X11_work hY hs0 hs1) caX11_256 kX11 (ty_44 hY) ⟨by decide, by decide, by decide, by decide⟩ rfl rfl (Nat.le_of_ble_eq_true rfl) dX11_sideFor_5 ?_
    rintro v σ' ⟨rfl, h2⟩; rw [h2]; clear h2
    show hW _ _ _ _ _ _ _ _ _ _ _ _ _ 8 [(0, .ref (ad G 44)), (1, .int d), (2, .int s)] [.int (WK σ d s)] σ 0 0
    refine h_iload_n C 1 dX11_sideFor_8 rfl rfl ?_
    refine h_icmp_eq C 34 dX11_sideFor_9 (by decide) (fun c_9 => ?_) (fun c_9 => ?_)
    · refine h_iinc C [(2, .int (s + 1)), (0, .ref (ad G 44)), (1, .int d)] 2 (s + 1) dX11_sideFor_34 rfl rfl (by decide) rfl ?_
      refine h_goto C 2 dX11_sideFor_37 (by decide) ?_
      refine h_sub [1, 2, 0] rfl ?_
      refine ih (s + 1) ?_ ?_
      · have hng : ¬ sfG σ d s := fun q => q.1 c_9
        have hne : s ≠ s0 := fun q => hng (by rw [q]; exact hs0e.2)
        have hle := hI.2.1
        have hs6 := hs0e.1
        refine ⟨by have h := hI.1; clear C; grind, by clear C; grind, fun x h0 h1 => ?_⟩
        by_cases e : x = s
        · rw [e]; exact hng
        · exact hI.2.2 x h0 (by clear C; grind)
      · exact tm_lt hsl
    · refine h_aload_n C 0 dX11_sideFor_12 rfl rfl ?_
      refine gfX11_91 C (ty_44 hY) dX11_sideFor_13 ?_
      refine h_tref (b := 62) (rf_44_26 hY) ?_
      refine h_aload_n C 0 dX11_sideFor_16 rfl rfl ?_
      refine h_iload_n C 1 dX11_sideFor_17 rfl rfl ?_
      refine h_iload_n C 2 dX11_sideFor_18 rfl rfl ?_
      refine h_callV C (m_X11_work hY hs0 hs1) caX11_256 kX11 (ty_44 hY) ⟨by decide, by decide, by decide, by decide⟩ rfl rfl (Nat.le_of_ble_eq_true rfl) dX11_sideFor_19 ?_
      rintro v σ' ⟨rfl, h2⟩; rw [h2]; clear h2
      show hW _ _ _ _ _ _ _ _ _ _ _ _ _ 22 [(0, .ref (ad G 44)), (1, .int d), (2, .int s)] [.int (WK σ d s), .ref (ad G 62)] σ 0 0
      refine h_iald C (ty_62 hY) hvw dX11_sideFor_22 ?_
      refine h_iconst C 1 dX11_sideFor_23 (by decide) ?_
      refine h_iadd C dX11_sideFor_24 ?_
      refine h_aload_n C 0 dX11_sideFor_25 rfl rfl ?_
      refine gfX11_91 C (ty_44 hY) dX11_sideFor_26 ?_
      refine h_tref (b := 62) (rf_44_26 hY) ?_
      refine h_iload_n C 1 dX11_sideFor_29 rfl rfl ?_
      refine h_iald C (ty_62 hY) hvd dX11_sideFor_30 ?_
      refine h_icmp_eq C 40 dX11_sideFor_31 (by decide) (fun c_31 => ?_) (fun c_31 => ?_)
      · refine h_iload_n C 2 dX11_sideFor_40 rfl rfl ?_
        refine h_iret C rfl (Nat.zero_le _) (Nat.zero_le _) dX11_sideFor_41 ?_
        exact ⟨⟨_, rfl, ⟨hI.1, hsl⟩, ⟨c_9, c_31⟩, hI.2.2⟩, rfl⟩
      · refine h_iinc C [(2, .int (s + 1)), (0, .ref (ad G 44)), (1, .int d)] 2 (s + 1) dX11_sideFor_34 rfl rfl (by decide) rfl ?_
        refine h_goto C 2 dX11_sideFor_37 (by decide) ?_
        refine h_sub [1, 2, 0] rfl ?_
        refine ih (s + 1) ?_ ?_
        · have hng : ¬ sfG σ d s := fun q => c_31 q.2
          have hne : s ≠ s0 := fun q => hng (by rw [q]; exact hs0e.2)
          have hle := hI.2.1
          have hs6 := hs0e.1
          refine ⟨by have h := hI.1; clear C; grind, by clear C; grind, fun x h0 h1 => ?_⟩
          by_cases e : x = s
          · rw [e]; exact hng
          · exact hI.2.2 x h0 (by clear C; grind)
        · exact tm_lt hsl
  · exact ⟨by decide, hs0e.1.1, fun x h0 h1 => by grind⟩
