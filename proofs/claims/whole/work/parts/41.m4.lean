/-! ===== the reference: common divisor, hidden motion, form ===== -/
theorem natAbs_tmod_lt (a : Int) {b : Int} (h : b ≠ 0) : (a.tmod b).natAbs < b.natAbs := by
  rw [Int.natAbs_tmod]
  exact Nat.mod_lt _ (by omega)
theorem lrem_int {a b : Int64} (h : b ≠ 0) : (a - a / b * b).toInt = a.toInt.tmod b.toInt := by
  have hb : b.toInt ≠ 0 := fun q => h (Int64.toInt_inj.mp (by rw [q]; rfl))
  rw [Int64.toInt_sub, Int64.toInt_mul, Int64.toInt_div]
  simp only [Int.bmod_mul_bmod, Int.sub_bmod_bmod, Int.bmod_bmod]
  have e : a.toInt - a.toInt.tdiv b.toInt * b.toInt = a.toInt.tmod b.toInt := by
    have := Int.tmod_add_tdiv_mul a.toInt b.toInt
    omega
  rw [e]
  have h1 := natAbs_tmod_lt a.toInt hb
  have h2 := Int64.toInt_lt b
  have h3 := Int64.le_toInt b
  rw [Int.bmod_eq_of_le (by omega) (by omega)]
def eucT : Nat → Int64 → Int64 → Int64 → Prop
  | 0, a, b, d => b = 0 ∧ d = a
  | n + 1, a, b, d => b ≠ 0 ∧ eucT n b (a - a / b * b) d
/-- the common divisor, by Euclid's steps -/
def gcE (a b d : Int64) : Prop := ∃ n, eucT n a b d
theorem gcE_s {a b d : Int64} (h : b ≠ 0) (g : gcE b (a - a / b * b) d) : gcE a b d := by
  obtain ⟨n, g⟩ := g
  exact ⟨n + 1, h, g⟩
theorem gcE_e {a b d : Int64} (h : gcE a b d) (hb : b ≠ 0) : gcE b (a - a / b * b) d := by
  obtain ⟨n, g⟩ := h
  cases n with
  | zero => exact absurd g.1 hb
  | succ n => exact ⟨n, g.2⟩
theorem gcE_ne {a b d : Int64} (h : gcE a b d) (g : a ≠ 0 ∨ b ≠ 0) : d ≠ 0 := by
  obtain ⟨n, h⟩ := h
  induction n generalizing a b with
  | zero => rw [h.2]; exact g.resolve_right (fun q => q h.1)
  | succ n ih => exact ih (Or.inl h.1) h.2
def gm (b : Int64) : Nat := b.toInt.natAbs
theorem gm_lt {a b : Int64} (h : b ≠ 0) : gm (a - a / b * b) < gm b := by
  have hb : b.toInt ≠ 0 := fun q => h (Int64.toInt_inj.mp (by rw [q]; rfl))
  unfold gm
  rw [lrem_int h]
  exact natAbs_tmod_lt _ hb
set_option maxRecDepth 100000 in
set_option maxHeartbeats 4000000 in
theorem m_X11_divisor {G : ha_G} {l : Launch} {σ : ha_St} {x y : Int64} (hY : LY σ) : hM G l yX11_divisor cX11_divisor 11 (some .long) { frames := 1, cells := 0, slots := 0, locals := 22 } [.ref (ad G 44), .long x, .long y] σ (fun v σ' => (∃ d, v = some (.long d) ∧ gcE (lAbs x) (lAbs y) d) ∧ σ' = σ) := by
  refine hM_ofF [(0, .ref (ad G 44)), (1, .long x), (3, .long y)] (by decide +kernel) (Nat.le_of_ble_eq_true rfl) rfl ?_
  intro p e s m args below meth c0 C hin
  refine h_aload_n C 0 dX11_divisor_0 rfl rfl ?_
  refine h_lload_n C 1 dX11_divisor_1 rfl rfl ?_
  refine h_callV C m_X11_abs caX11_191 kX11 (ty_44 hY) ⟨by decide, by decide, by decide, by decide⟩ rfl rfl (Nat.le_of_ble_eq_true rfl) dX11_divisor_2 ?_
  rintro v σ' ⟨rfl, h2⟩; rw [h2]; clear h2
  show hW _ _ _ _ _ _ _ _ _ _ _ _ _ 5 [(0, .ref (ad G 44)), (1, .long x), (3, .long y)] [.long (lAbs x)] σ 0 0
  refine h_lstore C [(5, .long (lAbs x)), (0, .ref (ad G 44)), (1, .long x), (3, .long y)] dX11_divisor_5 (by decide) rfl ?_
  refine h_aload_n C 1 dX11_divisor_7 rfl rfl ?_
  refine h_lload_n C 3 dX11_divisor_8 rfl rfl ?_
  refine h_callV C m_X11_abs caX11_191 kX11 (ty_44 hY) ⟨by decide, by decide, by decide, by decide⟩ rfl rfl (Nat.le_of_ble_eq_true rfl) dX11_divisor_9 ?_
  rintro v σ' ⟨rfl, h2⟩; rw [h2]; clear h2
  show hW _ _ _ _ _ _ _ _ _ _ _ _ _ 12 [(5, .long (lAbs x)), (0, .ref (ad G 44)), (1, .long x), (3, .long y)] [.long (lAbs y)] σ 0 0
  refine h_lstore C [(7, .long (lAbs y)), (5, .long (lAbs x)), (0, .ref (ad G 44)), (1, .long x), (3, .long y)] dX11_divisor_12 (by decide) rfl ?_
  refine h_sub [2, 1, 0] rfl ?_
  refine h_loop (α := Int64 × Int64) (fun (a, b) => ∀ d, gcE a b d → gcE (lAbs x) (lAbs y) d) (fun (a, b) => gm b) (fun (a, b) => [(0, .ref (ad G 44)), (5, .long a), (7, .long b)]) (fun (a, b) => []) (fun (a, b) => σ) (fun (a, b) => 0) (fun (a, b) => 0) ?_ ((lAbs x), (lAbs y)) ?_
  · rintro ⟨a, b⟩ hI ih
    show hW _ _ _ _ _ _ _ _ _ _ _ _ _ 14 [(0, .ref (ad G 44)), (5, .long a), (7, .long b)] [] σ 0 0
    refine h_lload C 2 dX11_divisor_14 rfl ?_
    refine h_lconst C 0 dX11_divisor_16 rfl ?_
    refine h_lcmp C dX11_divisor_17 ?_
    refine h_if_eq C 39 dX11_divisor_18 (by decide) (fun c_18 => ?_) (fun c_18 => ?_)
    · refine h_lload C 1 dX11_divisor_39 rfl ?_
      refine h_lret C rfl (Nat.zero_le _) (Nat.zero_le _) dX11_divisor_41 ?_
      exact ⟨⟨_, rfl, hI _ ⟨0, lg_eq0.mp c_18, rfl⟩⟩, rfl⟩
    · refine h_lload C 1 dX11_divisor_21 rfl ?_
      refine h_lload C 2 dX11_divisor_23 rfl ?_
      refine h_lrem C dX11_divisor_25 (fun q => c_18 (lg_eq0.mpr q)) ?_
      refine h_lstore C [(9, .long (a - a / b * b)), (0, .ref (ad G 44)), (5, .long a), (7, .long b)] dX11_divisor_26 (by decide) rfl ?_
      refine h_lload C 3 dX11_divisor_28 rfl ?_
      refine h_lstore C [(5, .long b), (9, .long (a - a / b * b)), (0, .ref (ad G 44)), (7, .long b)] dX11_divisor_30 (by decide) rfl ?_
      refine h_lload C 1 dX11_divisor_32 rfl ?_
      refine h_lstore C [(7, .long (a - a / b * b)), (5, .long b), (9, .long (a - a / b * b)), (0, .ref (ad G 44))] dX11_divisor_34 (by decide) rfl ?_
      refine h_goto C 14 dX11_divisor_36 (by decide) ?_
      refine h_sub [3, 1, 0] rfl ?_
      refine ih (b, (a - a / b * b)) ?_ ?_
      · have hb : b ≠ 0 := fun q => c_18 (lg_eq0.mpr q)
        exact fun d q => hI d (gcE_s hb q)
      · exact gm_lt (fun q => c_18 (lg_eq0.mpr q))
  · exact fun _ q => q
def fhQ (ρ : Nat → Int64) (n : Int32) (σ' : ha_St) : Prop := R2 ρ n → ∃ i j, (0 ≤ j ∧ j < i ∧ i < n) ∧ crR ρ i j ≠ zer ∧ cr3 σ' = crR ρ i j
set_option maxRecDepth 100000 in
set_option maxHeartbeats 4000000 in
theorem m_X11_findHidden {G : ha_G} {l : Launch} {σ : ha_St} (hY : LY σ) (hm0 : 0 ≤ gI σ 44 9) (hm1 : gI σ 44 9 ≤ 30) : hM G l yX11_findHidden cX11_findHidden 3 none { frames := 1, cells := 0, slots := 0, locals := 23 } [.ref (ad G 44)] σ (fun v σ' => v = none ∧ frX 53 54 σ σ' ∧ fhQ (gL σ 52) (gI σ 44 9) σ') := by
  have hY0 := hY
  refine hM_ofF [(0, .ref (ad G 44))] (by decide +kernel) (Nat.le_of_ble_eq_true rfl) rfl ?_
  intro p e s m args below meth c0 C hin
  refine h_iconst C 0 dX11_findHidden_0 (by decide) ?_
  refine h_istore_n C [(1, .int 0), (0, .ref (ad G 44))] dX11_findHidden_1 rfl (by decide) rfl ?_
  refine h_sub [1, 0] rfl ?_
  refine h_loop (α := Int32 × ha_St) (fun (i, σ1) => 0 ≤ i ∧ i ≤ gI σ 44 9 ∧ frX 53 54 σ σ1 ∧ ¬ R2 (gL σ 52) i) (fun (i, σ1) => tm (gI σ 44 9) i) (fun (i, σ1) => [(0, .ref (ad G 44)), (1, .int i)]) (fun (i, σ1) => []) (fun (i, σ1) => σ1) (fun (i, σ1) => 0) (fun (i, σ1) => 0) ?_ (0, σ) ?_
  · rintro ⟨i, σ1⟩ hI1 ih1
    show hW _ _ _ _ _ _ _ _ _ _ _ _ _ 2 [(0, .ref (ad G 44)), (1, .int i)] [] σ1 0 0
    have hY : LY σ1 := hI1.2.2.1.LY hY0
    have hz : gI σ1 44 9 = gI σ 44 9 := frX_44 hI1.2.2.1
    have h52 : gL σ1 52 = gL σ 52 := frX_52 hI1.2.2.1
    refine h_iload_n C 1 dX11_findHidden_2 rfl rfl ?_
    refine h_aload_n C 0 dX11_findHidden_3 rfl rfl ?_
    refine gfX11_38 C (ty_44 hY) dX11_findHidden_4 ?_
    refine h_icmp_ge C 39 dX11_findHidden_7 (by decide) (fun c_7 => ?_) (fun c_7 => ?_)
    · refine h_vret C rfl (Nat.zero_le _) (Nat.zero_le _) dX11_findHidden_39 ?_
      have he := eq_end hI1.2.1 (by rw [← hz]; exact Int32.not_lt.mpr c_7)
      have hq := hI1.2.2.2
      rw [he] at hq
      exact ⟨rfl, hI1.2.2.1, fun q => absurd q hq⟩
    · have hil : i < gI σ 44 9 := by rw [← hz]; exact Int32.not_le.mp c_7
      have hib : 0 ≤ i ∧ i < 30 := ⟨hI1.1, Int32.lt_of_lt_of_le hil hm1⟩
      refine h_iconst C 0 dX11_findHidden_10 (by decide) ?_
      refine h_istore_n C [(2, .int 0), (0, .ref (ad G 44)), (1, .int i)] dX11_findHidden_11 rfl (by decide) rfl ?_
      refine h_sub [1, 2, 0] rfl ?_
      refine h_loop (α := Int32 × ha_St) (fun (j, σ2) => 0 ≤ j ∧ j ≤ i ∧ frX 53 54 σ σ2 ∧ ¬ R2j (gL σ 52) i j) (fun (j, σ2) => tm i j) (fun (j, σ2) => [(0, .ref (ad G 44)), (1, .int i), (2, .int j)]) (fun (j, σ2) => []) (fun (j, σ2) => σ2) (fun (j, σ2) => 0) (fun (j, σ2) => 0) ?_ (0, σ1) ?_
      · rintro ⟨j, σ2⟩ hI2 ih2
        show hW _ _ _ _ _ _ _ _ _ _ _ _ _ 12 [(0, .ref (ad G 44)), (1, .int i), (2, .int j)] [] σ2 0 0
        have hY : LY σ2 := hI2.2.2.1.LY hY0
        have hz : gI σ2 44 9 = gI σ 44 9 := frX_44 hI2.2.2.1
        have h52 : gL σ2 52 = gL σ 52 := frX_52 hI2.2.2.1
        refine h_iload_n C 2 dX11_findHidden_12 rfl rfl ?_
        refine h_iload_n C 1 dX11_findHidden_13 rfl rfl ?_
        refine h_icmp_ge C 33 dX11_findHidden_14 (by decide) (fun c_14 => ?_) (fun c_14 => ?_)
        · refine h_iinc C [(1, .int (i + 1)), (0, .ref (ad G 44)), (2, .int j)] 1 (i + 1) dX11_findHidden_33 rfl rfl (by decide) rfl ?_
          refine h_goto C 2 dX11_findHidden_36 (by decide) ?_
          refine h_sub [1, 0] rfl ?_
          refine ih1 ((i + 1), σ2) ?_ ?_
          · have hje := eq_end hI2.2.1 (Int32.not_lt.mpr c_14)
            have hq := hI2.2.2.2
            rw [hje] at hq
            exact ⟨(le_succ hI1.1 hil).1, (le_succ hI1.1 hil).2, hI2.2.2.1, fun q => hq ((R2_s hil).mp q)⟩
          · exact tm_lt hil
        · have hjl := Int32.not_le.mp c_14
          have hjb : 0 ≤ j ∧ j < 30 := ⟨hI2.1, by grind⟩
          refine h_aload_n C 0 dX11_findHidden_17 rfl rfl ?_
          refine h_iload_n C 1 dX11_findHidden_18 rfl rfl ?_
          refine h_iload_n C 2 dX11_findHidden_19 rfl rfl ?_
          refine h_callV C (m_X11_across hY hib hjb) caX11_176 kX11 (ty_44 hY) ⟨by decide, by decide, by decide, by decide⟩ rfl rfl (Nat.le_of_ble_eq_true rfl) dX11_findHidden_20 ?_
          rintro v σ3 ⟨⟨ra, rfl, ha⟩, h2⟩
          rw [h52] at ha
          have hx3 : frX 53 54 σ σ3 := by rw [h2]; exact hI2.2.2.1.tr acrF_x
          have hc3 : cr3 σ3 = crR (gL σ 52) i j := by rw [h2, acrF_c, h52]
          clear h2
          have hY : LY σ3 := hx3.LY hY0
          have hz : gI σ3 44 9 = gI σ 44 9 := frX_44 hx3
          have h52 : gL σ3 52 = gL σ 52 := frX_52 hx3
          show hW _ _ _ _ _ _ _ _ _ _ _ _ _ 23 [(0, .ref (ad G 44)), (1, .int i), (2, .int j)] [.int ra] σ3 0 0
          refine h_if_eq C 27 dX11_findHidden_23 (by decide) (fun c_23 => ?_) (fun c_23 => ?_)
          · refine h_iinc C [(2, .int (j + 1)), (0, .ref (ad G 44)), (1, .int i)] 2 (j + 1) dX11_findHidden_27 rfl rfl (by decide) rfl ?_
            refine h_goto C 12 dX11_findHidden_30 (by decide) ?_
            refine h_sub [1, 2, 0] rfl ?_
            refine ih2 ((j + 1), σ3) ?_ ?_
            · refine ⟨(le_succ hI2.1 hjl).1, (le_succ hI2.1 hjl).2, hx3, fun q => ?_⟩
              rcases (R2j_s hI2.1 hjl).mp q with q | q
              · exact hI2.2.2.2 q
              · exact isB_0 ha c_23 q
            · exact tm_lt hjl
          · refine h_vret C rfl (Nat.zero_le _) (Nat.zero_le _) dX11_findHidden_26 ?_
            exact ⟨rfl, hx3, fun _ => ⟨i, j, ⟨hI2.1, hjl, hil⟩, isB_1 ha c_23, hc3⟩⟩
      · exact ⟨by decide, hI1.1, hI1.2.2.1, fun q => hI1.2.2.2 (R2j_0.mp q)⟩
  · exact ⟨by decide, hm0, frX.rf, fun ⟨x, y, h, _⟩ => by grind⟩
def hidC (c : Int64 × Int64 × Int64) (w : Int32) : Int64 := if w = 0 then c.1 else if w = 1 then c.2.1 else c.2.2
def hidL (c : Int64 × Int64 × Int64) : Int64 := if c.2.2 = 0 then (if c.1 = 0 then c.2.1 else c.1) else c.2.2
def mHidQ (σ : ha_St) (w : Int32) (x : Int64) (σ' : ha_St) : Prop := frJ σ σ' ∧ ((¬ (0 ≤ w ∧ w ≤ 2) ∧ gI σ' 44 0 = 1) ∨ ((0 ≤ w ∧ w ≤ 2) ∧ ∃ r, rkL (plR σ) r ∧ ((r ≠ 2 ∧ gI σ' 44 0 = 2) ∨ (r = 2 ∧ gI σ' 44 0 = 0 ∧
  ∃ ρ i j d e, (∀ k, k < (plR σ).length → (ρ (3 * k), ρ (3 * k + 1), ρ (3 * k + 2)) = (plR σ).getD k zer) ∧ (0 ≤ j ∧ j < i ∧ i < Int32.ofNat (plR σ).length) ∧ crR ρ i j ≠ zer ∧ gcE (lAbs (crR ρ i j).1) (lAbs (crR ρ i j).2.1) d ∧ gcE (lAbs d) (lAbs (crR ρ i j).2.2) e ∧
    x = hidC (crR ρ i j) w / (if hidL (crR ρ i j) < 0 then -e else e)))))
theorem hidL_a {c : Int64 × Int64 × Int64} (h : ¬ c.2.2 = 0) : c.2.2 = hidL c := by unfold hidL; rw [if_neg h]
theorem hidL_b {c : Int64 × Int64 × Int64} (h : c.2.2 = 0) (g : ¬ c.1 = 0) : c.1 = hidL c := by unfold hidL; rw [if_pos h, if_neg g]
theorem hidL_c {c : Int64 × Int64 × Int64} (h : c.2.2 = 0) (g : c.1 = 0) : c.2.1 = hidL c := by unfold hidL; rw [if_pos h, if_pos g]
theorem lAbs_0 {x : Int64} (h : lAbs x = 0) : x = 0 := by unfold lAbs at h; grind
theorem cr3_ne {c : Int64 × Int64 × Int64} (h : c ≠ zer) : c.1 ≠ 0 ∨ c.2.1 ≠ 0 ∨ c.2.2 ≠ 0 := by
  refine Classical.byContradiction (fun q => h ?_)
  have h1 : c.1 = 0 := Classical.byContradiction fun z => q (Or.inl z)
  have h2 : c.2.1 = 0 := Classical.byContradiction fun z => q (Or.inr (Or.inl z))
  have h3 : c.2.2 = 0 := Classical.byContradiction fun z => q (Or.inr (Or.inr z))
  exact Prod.ext h1 (Prod.ext h2 h3)
theorem hid_ne {c : Int64 × Int64 × Int64} {d e : Int64} (h : c ≠ zer) (h1 : gcE (lAbs c.1) (lAbs c.2.1) d) (h2 : gcE (lAbs d) (lAbs c.2.2) e) : e ≠ 0 := by
  refine gcE_ne h2 ?_
  rcases cr3_ne h with q | q | q
  · exact Or.inl (fun z => gcE_ne h1 (Or.inl (fun y => q (lAbs_0 y))) (lAbs_0 z))
  · exact Or.inl (fun z => gcE_ne h1 (Or.inr (fun y => q (lAbs_0 y))) (lAbs_0 z))
  · exact Or.inr (fun y => q (lAbs_0 y))
theorem in02 {w : Int32} (h : 0 ≤ w ∧ w ≤ 2) : vp_in w 3 := vp32 (N := 3) h.1 (by grind) (by decide)
theorem hidC_at {σ : ha_St} {w : Int32} (h : 0 ≤ w ∧ w ≤ 2) : gL σ 53 w.toNatClampNeg = hidC (cr3 σ) w := by
  unfold hidC cr3
  have e : w = 0 ∨ w = 1 ∨ w = 2 := by grind
  rcases e with e | e | e <;> subst e <;> rfl
theorem inV_1 {w lo hi : Int32} (h : ¬ inV w lo hi = 0) : lo ≤ w ∧ w ≤ hi := by unfold inV at h; exact if_one h
theorem inV_0 {w lo hi : Int32} (h : inV w lo hi = 0) : ¬ (lo ≤ w ∧ w ≤ hi) := by
  unfold inV at h
  intro q
  rw [if_pos q] at h
  exact absurd h (by decide)
set_option maxRecDepth 100000 in
set_option maxHeartbeats 4000000 in
theorem m_X11_hidden {G : ha_G} {l : Launch} {σ : ha_St} {w : Int32} (hY : LY σ) (hN : MN σ) : hM G l yX11_hidden cX11_hidden 6 (some .long) { frames := 4, cells := 0, slots := 0, locals := 92 } [.ref (ad G 44), .int w] σ (fun v σ' => ∃ x, v = some (.long x) ∧ mHidQ σ w x σ') := by
  refine hM_ofF [(0, .ref (ad G 44)), (1, .int w)] (by decide +kernel) (Nat.le_of_ble_eq_true rfl) rfl ?_
  intro p e s m args below meth c0 C hin
  refine h_aload_n C 0 dX11_hidden_0 rfl rfl ?_
  refine h_aload_n C 0 dX11_hidden_1 rfl rfl ?_
  refine h_iload_n C 1 dX11_hidden_2 rfl rfl ?_
  refine h_iconst C 0 dX11_hidden_3 (by decide) ?_
  refine h_iconst C 2 dX11_hidden_4 (by decide) ?_
  refine h_callV C m_X11_in caX11_130 kX11 (ty_44 hY) ⟨by decide, by decide, by decide, by decide⟩ rfl rfl (Nat.le_of_ble_eq_true rfl) dX11_hidden_5 ?_
  rintro v σ' ⟨rfl, h2⟩; rw [h2]; clear h2
  show hW _ _ _ _ _ _ _ _ _ _ _ _ _ 8 [(0, .ref (ad G 44)), (1, .int w)] [.int (inV w 0 2), .ref (ad G 44)] σ 0 0
  refine h_if_eq C 27 dX11_hidden_8 (by decide) (fun c_8 => ?_) (fun c_8 => ?_)
  · refine h_iconst C 1 dX11_hidden_27 (by decide) ?_
    refine pfX11_7 C (ty_44 hY) dX11_hidden_28 ?_
    refine h_aload_n C 0 dX11_hidden_31 rfl rfl ?_
    refine gfX11_7 C (ty_44 hY) dX11_hidden_32 ?_
    show hW _ _ _ _ _ _ _ _ _ _ _ _ _ 35 [(0, .ref (ad G 44)), (1, .int w)] [.int 1] (sI σ 44 0 1) 0 0
    refine h_if_le C 40 dX11_hidden_35 (by decide) (fun c_35 => ?_) (fun c_35 => ?_)
    · exact absurd c_35 (by decide)
    · refine h_lconst C 0 dX11_hidden_38 rfl ?_
      refine h_lret C rfl (Nat.zero_le _) (Nat.zero_le _) dX11_hidden_39 ?_
      exact ⟨_, rfl, frJ_sI (by unfold scJ; omega), Or.inl ⟨inV_0 c_8, rfl⟩⟩
  · refine h_aload_n C 0 dX11_hidden_11 rfl rfl ?_
    refine h_callV C (m_X11_rank hY hN) caX11_195 kX11 (ty_44 hY) ⟨by decide, by decide, by decide, by decide⟩ rfl rfl (Nat.le_of_ble_eq_true rfl) dX11_hidden_12 ?_
    rintro v σ2 ⟨r, rfl, hf2, hr2, hrk⟩
    have hL : rkL (plR σ) r := rkL_of hr2 hrk
    have hY : LY σ2 := hf2.LY hY
    show hW _ _ _ _ _ _ _ _ _ _ _ _ _ 15 [(0, .ref (ad G 44)), (1, .int w)] [.int r, .ref (ad G 44)] σ2 0 0
    refine h_iconst C 2 dX11_hidden_15 (by decide) ?_
    refine h_icmp_ne C 23 dX11_hidden_16 (by decide) (fun c_16 => ?_) (fun c_16 => ?_)
    · refine h_iconst C 2 dX11_hidden_23 (by decide) ?_
      refine h_goto C 28 dX11_hidden_24 (by decide) ?_
      refine pfX11_7 C (ty_44 hY) dX11_hidden_28 ?_
      refine h_aload_n C 0 dX11_hidden_31 rfl rfl ?_
      refine gfX11_7 C (ty_44 hY) dX11_hidden_32 ?_
      show hW _ _ _ _ _ _ _ _ _ _ _ _ _ 35 [(0, .ref (ad G 44)), (1, .int w)] [.int 2] (sI σ2 44 0 2) 0 0
      refine h_if_le C 40 dX11_hidden_35 (by decide) (fun c_35 => ?_) (fun c_35 => ?_)
      · exact absurd c_35 (by decide)
      · refine h_lconst C 0 dX11_hidden_38 rfl ?_
        refine h_lret C rfl (Nat.zero_le _) (Nat.zero_le _) dX11_hidden_39 ?_
        exact ⟨_, rfl, hf2.tr (frJ_sI (by unfold scJ; omega)), Or.inr ⟨inV_1 c_8, r, hL, Or.inl ⟨c_16, rfl⟩⟩⟩
    · refine h_iconst C 0 dX11_hidden_19 (by decide) ?_
      refine h_goto C 28 dX11_hidden_20 (by decide) ?_
      refine pfX11_7 C (ty_44 hY) dX11_hidden_28 ?_
      refine h_aload_n C 0 dX11_hidden_31 rfl rfl ?_
      refine gfX11_7 C (ty_44 hY) dX11_hidden_32 ?_
      show hW _ _ _ _ _ _ _ _ _ _ _ _ _ 35 [(0, .ref (ad G 44)), (1, .int w)] [.int 0] (sI σ2 44 0 0) 0 0
      refine h_if_le C 40 dX11_hidden_35 (by decide) (fun c_35 => ?_) (fun c_35 => ?_)
      · refine h_aload_n C 0 dX11_hidden_40 rfl rfl ?_
        refine h_callV C (m_X11_findHidden (σ := sI σ2 44 0 0) (hY.same rfl rfl rfl) hr2.b.1 hr2.b.2) caX11_198 kX11 (ty_44 hY) ⟨by decide, by decide, by decide, by decide⟩ rfl rfl (Nat.le_of_ble_eq_true rfl) dX11_hidden_41 ?_
        rintro v σ3 ⟨rfl, hx3, hq3⟩
        have hR2 : R2 (gL σ2 52) (gI σ2 44 9) := by
          rcases hrk with ⟨q, -⟩ | ⟨-, q⟩
          · exact absurd (q.symm.trans c_16) (by decide)
          · rcases q with ⟨-, q⟩ | ⟨q, -⟩ | ⟨q, -⟩
            · exact q
            · exact absurd (q.symm.trans c_16) (by decide)
            · exact absurd (q.symm.trans c_16) (by decide)
        obtain ⟨i, j, hij, hnz, hc3⟩ := hq3 hR2
        have hc3 : cr3 σ3 = crR (gL σ2 52) i j := hc3
        have hY : LY σ3 := hx3.LY (hY.same rfl rfl rfl)
        have hnz : crR (gL σ2 52) i j ≠ zer := hnz
        have hth : gI σ3 44 0 = 0 := by rw [(hx3.2.2.2 44 (by omega)).1]; rfl
        rw [← hc3] at hnz
        show hW _ _ _ _ _ _ _ _ _ _ _ _ _ 44 [(0, .ref (ad G 44)), (1, .int w)] [] σ3 0 0
        refine h_aload_n C 0 dX11_hidden_44 rfl rfl ?_
        refine h_aload_n C 0 dX11_hidden_45 rfl rfl ?_
        refine h_aload_n C 0 dX11_hidden_46 rfl rfl ?_
        refine gfX11_45 C (ty_44 hY) dX11_hidden_47 ?_
        refine h_tref (b := 53) (rf_44_11 hY) ?_
        refine h_iconst C 0 dX11_hidden_50 (by decide) ?_
        refine h_lald C (ty_53 hY) (vp32 (N := 3) (by decide) (by decide) (by decide)) dX11_hidden_51 ?_
        show hW _ _ _ _ _ _ _ _ _ _ _ _ _ 52 [(0, .ref (ad G 44)), (1, .int w)] [.long (gL σ3 53 0), .ref (ad G 44), .ref (ad G 44)] σ3 0 0
        refine h_aload_n C 0 dX11_hidden_52 rfl rfl ?_
        refine gfX11_45 C (ty_44 hY) dX11_hidden_53 ?_
        refine h_tref (b := 53) (rf_44_11 hY) ?_
        refine h_iconst C 1 dX11_hidden_56 (by decide) ?_
        refine h_lald C (ty_53 hY) (vp32 (N := 3) (by decide) (by decide) (by decide)) dX11_hidden_57 ?_
        show hW _ _ _ _ _ _ _ _ _ _ _ _ _ 58 [(0, .ref (ad G 44)), (1, .int w)] [.long (gL σ3 53 1), .long (gL σ3 53 0), .ref (ad G 44), .ref (ad G 44)] σ3 0 0
        refine h_callV C (m_X11_divisor hY) caX11_201 kX11 (ty_44 hY) ⟨by decide, by decide, by decide, by decide⟩ rfl rfl (Nat.le_of_ble_eq_true rfl) dX11_hidden_58 ?_
        rintro v σ' ⟨⟨d, rfl, hd⟩, h2⟩; rw [h2]; clear h2
        show hW _ _ _ _ _ _ _ _ _ _ _ _ _ 61 [(0, .ref (ad G 44)), (1, .int w)] [.long d, .ref (ad G 44)] σ3 0 0
        refine h_aload_n C 0 dX11_hidden_61 rfl rfl ?_
        refine gfX11_45 C (ty_44 hY) dX11_hidden_62 ?_
        refine h_tref (b := 53) (rf_44_11 hY) ?_
        refine h_iconst C 2 dX11_hidden_65 (by decide) ?_
        refine h_lald C (ty_53 hY) (vp32 (N := 3) (by decide) (by decide) (by decide)) dX11_hidden_66 ?_
        show hW _ _ _ _ _ _ _ _ _ _ _ _ _ 67 [(0, .ref (ad G 44)), (1, .int w)] [.long (gL σ3 53 2), .long d, .ref (ad G 44)] σ3 0 0
        refine h_callV C (m_X11_divisor hY) caX11_201 kX11 (ty_44 hY) ⟨by decide, by decide, by decide, by decide⟩ rfl rfl (Nat.le_of_ble_eq_true rfl) dX11_hidden_67 ?_
        rintro v σ' ⟨⟨e, rfl, he⟩, h2⟩; rw [h2]; clear h2
        show hW _ _ _ _ _ _ _ _ _ _ _ _ _ 70 [(0, .ref (ad G 44)), (1, .int w)] [.long e] σ3 0 0
        refine h_lstore_n C [(2, .long e), (0, .ref (ad G 44)), (1, .int w)] dX11_hidden_70 rfl (by decide) rfl ?_
        refine h_join (α := Int64) 117 (fun f => f = hidL (cr3 σ3)) (fun f => [(0, .ref (ad G 44)), (1, .int w), (2, .long e)]) (fun f => [.long f]) (fun f => σ3) (fun f => 0) (fun f => 0) ?_ (fun J_1 => ?_)
        · rintro f hJ
          show hW _ _ _ _ _ _ _ _ _ _ _ _ _ 117 [(0, .ref (ad G 44)), (1, .int w), (2, .long e)] [.long f] σ3 0 0
          subst hJ
          refine h_lstore C [(4, .long (hidL (cr3 σ3))), (0, .ref (ad G 44)), (1, .int w), (2, .long e)] dX11_hidden_117 (by decide) rfl ?_
          refine h_aload_n C 1 dX11_hidden_119 rfl rfl ?_
          refine gfX11_45 C (ty_44 hY) dX11_hidden_120 ?_
          refine h_tref (b := 53) (rf_44_11 hY) ?_
          refine h_iload_n C 2 dX11_hidden_123 rfl rfl ?_
          refine h_lald C (ty_53 hY) (in02 (inV_1 c_8)) dX11_hidden_124 ?_
          refine h_join (α := Int64) 138 (fun z => z = if hidL (cr3 σ3) < 0 then -e else e) (fun z => [(0, .ref (ad G 44))]) (fun z => [.long z, .long (gL σ3 53 w.toNatClampNeg)]) (fun z => σ3) (fun z => 0) (fun z => 0) ?_ (fun J_2 => ?_)
          · rintro z hJ
            show hW _ _ _ _ _ _ _ _ _ _ _ _ _ 138 [(0, .ref (ad G 44))] [.long z, .long (gL σ3 53 w.toNatClampNeg)] σ3 0 0
            refine h_ldiv C dX11_hidden_138 (by rw [hJ]; have := hid_ne hnz hd he; split <;> grind) ?_
            refine h_lret C rfl (Nat.zero_le _) (Nat.zero_le _) dX11_hidden_139 ?_
            refine ⟨_, rfl, (hf2.tr (frJ_sI (by unfold scJ; omega))).tr (frX_J hx3), Or.inr ⟨inV_1 c_8, r, hL, Or.inr ⟨c_16, hth, gL σ2 52, i, j, d, e, hr2.2.2, ?_, ?_, ?_, ?_, ?_⟩⟩⟩
            · rw [← hr2.2.1]; exact hij
            · rw [← hc3]; exact hnz
            · rw [← hc3]; exact hd
            · rw [← hc3]; exact he
            · rw [← hc3, hidC_at (inV_1 c_8), hJ]
          · refine h_lload C 0 dX11_hidden_125 rfl ?_
            refine h_lconst C 0 dX11_hidden_127 rfl ?_
            refine h_lcmp C dX11_hidden_128 ?_
            refine h_if_ge C 137 dX11_hidden_129 (by decide) (fun c_129 => ?_) (fun c_129 => ?_)
            · refine h_lload_n C 3 dX11_hidden_137 rfl rfl ?_
              refine h_sub [1] rfl ?_
              refine J_2 e ?_
              rw [if_neg (fun q => absurd ((lg_lt0 _).mpr q) (Int32.not_lt.mpr c_129))]
            · refine h_lload_n C 3 dX11_hidden_132 rfl rfl ?_
              refine h_lneg C dX11_hidden_133 ?_
              refine h_goto C 138 dX11_hidden_134 (by decide) ?_
              refine h_sub [1] rfl ?_
              refine J_2 (-e) ?_
              rw [if_pos ((lg_lt0 _).mp (Int32.not_le.mp c_129))]
        · refine h_aload_n C 1 dX11_hidden_71 rfl rfl ?_
          refine gfX11_45 C (ty_44 hY) dX11_hidden_72 ?_
          refine h_tref (b := 53) (rf_44_11 hY) ?_
          refine h_iconst C 2 dX11_hidden_75 (by decide) ?_
          refine h_lald C (ty_53 hY) (vp32 (N := 3) (by decide) (by decide) (by decide)) dX11_hidden_76 ?_
          show hW _ _ _ _ _ _ _ _ _ _ _ _ _ 77 [(2, .long e), (0, .ref (ad G 44)), (1, .int w)] [.long (gL σ3 53 2)] σ3 0 0
          refine h_lconst C 0 dX11_hidden_77 rfl ?_
          refine h_lcmp C dX11_hidden_78 ?_
          refine h_if_eq C 91 dX11_hidden_79 (by decide) (fun c_79 => ?_) (fun c_79 => ?_)
          · refine h_aload_n C 1 dX11_hidden_91 rfl rfl ?_
            refine gfX11_45 C (ty_44 hY) dX11_hidden_92 ?_
            refine h_tref (b := 53) (rf_44_11 hY) ?_
            refine h_iconst C 0 dX11_hidden_95 (by decide) ?_
            refine h_lald C (ty_53 hY) (vp32 (N := 3) (by decide) (by decide) (by decide)) dX11_hidden_96 ?_
            show hW _ _ _ _ _ _ _ _ _ _ _ _ _ 97 [(2, .long e), (0, .ref (ad G 44)), (1, .int w)] [.long (gL σ3 53 0)] σ3 0 0
            refine h_lconst C 0 dX11_hidden_97 rfl ?_
            refine h_lcmp C dX11_hidden_98 ?_
            refine h_if_eq C 111 dX11_hidden_99 (by decide) (fun c_99 => ?_) (fun c_99 => ?_)
            · refine h_aload_n C 1 dX11_hidden_111 rfl rfl ?_
              refine gfX11_45 C (ty_44 hY) dX11_hidden_112 ?_
              refine h_tref (b := 53) (rf_44_11 hY) ?_
              refine h_iconst C 1 dX11_hidden_115 (by decide) ?_
              refine h_lald C (ty_53 hY) (vp32 (N := 3) (by decide) (by decide) (by decide)) dX11_hidden_116 ?_
              show hW _ _ _ _ _ _ _ _ _ _ _ _ _ 117 [(2, .long e), (0, .ref (ad G 44)), (1, .int w)] [.long (gL σ3 53 1)] σ3 0 0
              refine h_sub [1, 2, 0] rfl ?_
              refine J_1 (gL σ3 53 1) ?_
              exact hidL_c (c := cr3 σ3) (lg_eq0.mp c_79) (lg_eq0.mp c_99)
            · refine h_aload_n C 1 dX11_hidden_102 rfl rfl ?_
              refine gfX11_45 C (ty_44 hY) dX11_hidden_103 ?_
              refine h_tref (b := 53) (rf_44_11 hY) ?_
              refine h_iconst C 0 dX11_hidden_106 (by decide) ?_
              refine h_lald C (ty_53 hY) (vp32 (N := 3) (by decide) (by decide) (by decide)) dX11_hidden_107 ?_
              show hW _ _ _ _ _ _ _ _ _ _ _ _ _ 108 [(2, .long e), (0, .ref (ad G 44)), (1, .int w)] [.long (gL σ3 53 0)] σ3 0 0
              refine h_goto C 117 dX11_hidden_108 (by decide) ?_
              refine h_sub [1, 2, 0] rfl ?_
              refine J_1 (gL σ3 53 0) ?_
              exact hidL_b (c := cr3 σ3) (lg_eq0.mp c_79) (fun q => c_99 (lg_eq0.mpr q))
          · refine h_aload_n C 1 dX11_hidden_82 rfl rfl ?_
            refine gfX11_45 C (ty_44 hY) dX11_hidden_83 ?_
            refine h_tref (b := 53) (rf_44_11 hY) ?_
            refine h_iconst C 2 dX11_hidden_86 (by decide) ?_
            refine h_lald C (ty_53 hY) (vp32 (N := 3) (by decide) (by decide) (by decide)) dX11_hidden_87 ?_
            show hW _ _ _ _ _ _ _ _ _ _ _ _ _ 88 [(2, .long e), (0, .ref (ad G 44)), (1, .int w)] [.long (gL σ3 53 2)] σ3 0 0
            refine h_goto C 117 dX11_hidden_88 (by decide) ?_
            refine h_sub [1, 2, 0] rfl ?_
            refine J_1 (gL σ3 53 2) ?_
            exact hidL_a (c := cr3 σ3) (fun q => c_79 (lg_eq0.mpr q))
      · exact absurd c_35 (by decide)
def fmA (ρ : Nat → Int64) (n x y : Int32) : Prop := crR ρ x y ≠ zer → ¬ sdP (crR ρ x y) ρ n ∧ ¬ sdM (crR ρ x y) ρ n
def fmP (ρ : Nat → Int64) (n i : Int32) : Prop := ∀ x y, (0 ≤ y ∧ y < x ∧ x < i) → fmA ρ n x y
def fmJ (ρ : Nat → Int64) (n i j : Int32) : Prop := fmP ρ n i ∧ AL j (fmA ρ n i)
def fmQ (ρ : Nat → Int64) (n : Int32) : Prop := R3 ρ n ∧ fmP ρ n n
theorem fmP_s {ρ : Nat → Int64} {n i m : Int32} (h : i < m) (hj : fmJ ρ n i i) : fmP ρ n (i + 1) := by
  intro x y hx
  by_cases e : x = i
  · subst e; exact hj.2 y hx.1 hx.2.1
  · exact hj.1 x y (by grind)
set_option maxRecDepth 100000 in
set_option maxHeartbeats 4000000 in
theorem m_X11_isForm {G : ha_G} {l : Launch} {σ : ha_St} (hY : LY σ) (hm0 : 0 ≤ gI σ 44 9) (hm1 : gI σ 44 9 ≤ 30) : hM G l yX11_isForm cX11_isForm 3 (some .int) { frames := 2, cells := 0, slots := 0, locals := 47 } [.ref (ad G 44)] σ (fun v σ' => (∃ r, v = some (.int r) ∧ isB r (fmQ (gL σ 52) (gI σ 44 9))) ∧ frX 53 54 σ σ') := by
  have hY0 := hY
  refine hM_ofF [(0, .ref (ad G 44))] (by decide +kernel) (Nat.le_of_ble_eq_true rfl) rfl ?_
  intro p e s m args below meth c0 C hin
  refine h_aload_n C 0 dX11_isForm_0 rfl rfl ?_
  refine h_callV C (m_X11_rankOf hY hm0 hm1) caX11_187 kX11 (ty_44 hY) ⟨by decide, by decide, by decide, by decide⟩ rfl rfl (Nat.le_of_ble_eq_true rfl) dX11_isForm_1 ?_
  rintro v σ0 ⟨⟨r, rfl, hrk⟩, hx0⟩
  have hY : LY σ0 := hx0.LY hY
  show hW _ _ _ _ _ _ _ _ _ _ _ _ _ 4 [(0, .ref (ad G 44))] [.int r] σ0 0 0
  refine h_iconst C 3 dX11_isForm_4 (by decide) ?_
  refine h_icmp_ge C 10 dX11_isForm_5 (by decide) (fun c_5 => ?_) (fun c_5 => ?_)
  · refine h_iconst C 0 dX11_isForm_10 (by decide) ?_
    refine h_istore_n C [(1, .int 0), (0, .ref (ad G 44))] dX11_isForm_11 rfl (by decide) rfl ?_
    refine h_sub [1, 0] rfl ?_
    refine h_loop (α := Int32 × ha_St) (fun (i, σ1) => 0 ≤ i ∧ i ≤ gI σ 44 9 ∧ frX 53 54 σ σ1 ∧ fmP (gL σ 52) (gI σ 44 9) i) (fun (i, σ1) => tm (gI σ 44 9) i) (fun (i, σ1) => [(0, .ref (ad G 44)), (1, .int i)]) (fun (i, σ1) => []) (fun (i, σ1) => σ1) (fun (i, σ1) => 0) (fun (i, σ1) => 0) ?_ (0, σ0) ?_
    · rintro ⟨i, σ1⟩ hI1 ih1
      show hW _ _ _ _ _ _ _ _ _ _ _ _ _ 12 [(0, .ref (ad G 44)), (1, .int i)] [] σ1 0 0
      have hY : LY σ1 := hI1.2.2.1.LY hY0
      have hz : gI σ1 44 9 = gI σ 44 9 := frX_44 hI1.2.2.1
      have h52 : gL σ1 52 = gL σ 52 := frX_52 hI1.2.2.1
      refine h_iload_n C 1 dX11_isForm_12 rfl rfl ?_
      refine h_aload_n C 0 dX11_isForm_13 rfl rfl ?_
      refine gfX11_38 C (ty_44 hY) dX11_isForm_14 ?_
      refine h_icmp_ge C 57 dX11_isForm_17 (by decide) (fun c_17 => ?_) (fun c_17 => ?_)
      · refine h_iconst C 1 dX11_isForm_57 (by decide) ?_
        refine h_iret C rfl (Nat.zero_le _) (Nat.zero_le _) dX11_isForm_58 ?_
        have he := eq_end hI1.2.1 (by rw [← hz]; exact Int32.not_lt.mpr c_17)
        have hq := hI1.2.2.2
        rw [he] at hq
        refine ⟨⟨_, rfl, isB1 ⟨?_, hq⟩⟩, hI1.2.2.1⟩
        rcases hrk with ⟨-, z⟩ | ⟨-, z⟩
        · exact z
        · rcases z with ⟨z, -⟩ | ⟨z, -⟩ | ⟨z, -⟩ <;> rw [z] at c_5 <;> exact absurd c_5 (by decide)
      · have hil : i < gI σ 44 9 := by rw [← hz]; exact Int32.not_le.mp c_17
        have hib : 0 ≤ i ∧ i < 30 := ⟨hI1.1, Int32.lt_of_lt_of_le hil hm1⟩
        refine h_iconst C 0 dX11_isForm_20 (by decide) ?_
        refine h_istore_n C [(2, .int 0), (0, .ref (ad G 44)), (1, .int i)] dX11_isForm_21 rfl (by decide) rfl ?_
        refine h_sub [1, 2, 0] rfl ?_
        refine h_loop (α := Int32 × ha_St) (fun (j, σ2) => 0 ≤ j ∧ j ≤ i ∧ frX 53 54 σ σ2 ∧ fmJ (gL σ 52) (gI σ 44 9) i j) (fun (j, σ2) => tm i j) (fun (j, σ2) => [(0, .ref (ad G 44)), (1, .int i), (2, .int j)]) (fun (j, σ2) => []) (fun (j, σ2) => σ2) (fun (j, σ2) => 0) (fun (j, σ2) => 0) ?_ (0, σ1) ?_
        · rintro ⟨j, σ2⟩ hI2 ih2
          show hW _ _ _ _ _ _ _ _ _ _ _ _ _ 22 [(0, .ref (ad G 44)), (1, .int i), (2, .int j)] [] σ2 0 0
          have hY : LY σ2 := hI2.2.2.1.LY hY0
          have hz : gI σ2 44 9 = gI σ 44 9 := frX_44 hI2.2.2.1
          have h52 : gL σ2 52 = gL σ 52 := frX_52 hI2.2.2.1
          refine h_iload_n C 2 dX11_isForm_22 rfl rfl ?_
          refine h_iload_n C 1 dX11_isForm_23 rfl rfl ?_
          refine h_icmp_ge C 51 dX11_isForm_24 (by decide) (fun c_24 => ?_) (fun c_24 => ?_)
          · refine h_iinc C [(1, .int (i + 1)), (0, .ref (ad G 44)), (2, .int j)] 1 (i + 1) dX11_isForm_51 rfl rfl (by decide) rfl ?_
            refine h_goto C 12 dX11_isForm_54 (by decide) ?_
            refine h_sub [1, 0] rfl ?_
            refine ih1 ((i + 1), σ2) ?_ ?_
            · have hje := eq_end hI2.2.1 (Int32.not_lt.mpr c_24)
              have hq := hI2.2.2.2
              rw [hje] at hq
              exact ⟨(le_succ hI1.1 hil).1, (le_succ hI1.1 hil).2, hI2.2.2.1, fmP_s hil hq⟩
            · exact tm_lt hil
          · have hjl := Int32.not_le.mp c_24
            have hjb : 0 ≤ j ∧ j < 30 := ⟨hI2.1, by grind⟩
            refine h_aload_n C 0 dX11_isForm_27 rfl rfl ?_
            refine h_iload_n C 1 dX11_isForm_28 rfl rfl ?_
            refine h_iload_n C 2 dX11_isForm_29 rfl rfl ?_
            refine h_callV C (m_X11_across hY hib hjb) caX11_176 kX11 (ty_44 hY) ⟨by decide, by decide, by decide, by decide⟩ rfl rfl (Nat.le_of_ble_eq_true rfl) dX11_isForm_30 ?_
            rintro v σ3 ⟨⟨ra, rfl, ha⟩, h2⟩
            rw [h52] at ha
            have hx3 : frX 53 54 σ σ3 := by rw [h2]; exact hI2.2.2.1.tr acrF_x
            have hc3 : cr3 σ3 = crR (gL σ 52) i j := by rw [h2, acrF_c, h52]
            clear h2
            have hY : LY σ3 := hx3.LY hY0
            have hz : gI σ3 44 9 = gI σ 44 9 := frX_44 hx3
            have h52 : gL σ3 52 = gL σ 52 := frX_52 hx3
            show hW _ _ _ _ _ _ _ _ _ _ _ _ _ 33 [(0, .ref (ad G 44)), (1, .int i), (2, .int j)] [.int ra] σ3 0 0
            refine h_if_eq C 45 dX11_isForm_33 (by decide) (fun c_33 => ?_) (fun c_33 => ?_)
            · refine h_iinc C [(2, .int (j + 1)), (0, .ref (ad G 44)), (1, .int i)] 2 (j + 1) dX11_isForm_45 rfl rfl (by decide) rfl ?_
              refine h_goto C 22 dX11_isForm_48 (by decide) ?_
              refine h_sub [1, 2, 0] rfl ?_
              refine ih2 ((j + 1), σ3) ?_ ?_
              · refine ⟨(le_succ hI2.1 hjl).1, (le_succ hI2.1 hjl).2, hx3, hI2.2.2.2.1, (AL_i hI2.1 hjl).mpr ⟨hI2.2.2.2.2, ?_⟩⟩
                exact fun q => absurd q (isB_0 ha c_33)
              · exact tm_lt hjl
            · refine h_aload_n C 0 dX11_isForm_36 rfl rfl ?_
              refine h_callV C (m_X11_sideOf hY (by rw [hz]; exact hm0) (by rw [hz]; exact hm1)) caX11_205 kX11 (ty_44 hY) ⟨by decide, by decide, by decide, by decide⟩ rfl rfl (Nat.le_of_ble_eq_true rfl) dX11_isForm_37 ?_
              rintro v σ' ⟨⟨rs, rfl, hs⟩, h2⟩; rw [h2]; clear h2; rw [hc3, h52, hz] at hs
              show hW _ _ _ _ _ _ _ _ _ _ _ _ _ 40 [(0, .ref (ad G 44)), (1, .int i), (2, .int j)] [.int rs] σ3 0 0
              refine h_if_eq C 45 dX11_isForm_40 (by decide) (fun c_40 => ?_) (fun c_40 => ?_)
              · refine h_iinc C [(2, .int (j + 1)), (0, .ref (ad G 44)), (1, .int i)] 2 (j + 1) dX11_isForm_45 rfl rfl (by decide) rfl ?_
                refine h_goto C 22 dX11_isForm_48 (by decide) ?_
                refine h_sub [1, 2, 0] rfl ?_
                refine ih2 ((j + 1), σ3) ?_ ?_
                · refine ⟨(le_succ hI2.1 hjl).1, (le_succ hI2.1 hjl).2, hx3, hI2.2.2.2.1, (AL_i hI2.1 hjl).mpr ⟨hI2.2.2.2.2, ?_⟩⟩
                  intro _
                  rcases hs with ⟨q, -⟩ | ⟨q, -⟩ | ⟨-, q⟩
                  · exact absurd (q.symm.trans c_40) (by decide)
                  · exact absurd (q.symm.trans c_40) (by decide)
                  · exact q
                · exact tm_lt hjl
              · refine h_iconst C 0 dX11_isForm_43 (by decide) ?_
                refine h_iret C rfl (Nat.zero_le _) (Nat.zero_le _) dX11_isForm_44 ?_
                refine ⟨⟨_, rfl, isB0 (fun q => ?_)⟩, hx3⟩
                have hq := q.2 i j ⟨hI2.1, hjl, hil⟩ (isB_1 ha c_33)
                rcases hs with ⟨-, z⟩ | ⟨-, -, z⟩ | ⟨z, -⟩
                · exact hq.1 z
                · exact hq.2 z
                · exact c_40 z
        · exact ⟨by decide, hI1.1, hI1.2.2.1, hI1.2.2.2, AL_0⟩
    · exact ⟨by decide, hm0, hx0, fun x y h => by grind⟩
  · refine h_iconst C 0 dX11_isForm_8 (by decide) ?_
    refine h_iret C rfl (Nat.zero_le _) (Nat.zero_le _) dX11_isForm_9 ?_
    refine ⟨⟨_, rfl, isB0 (fun q => ?_)⟩, hx0⟩
    rcases hrk with ⟨z, -⟩ | ⟨z, -⟩
    · rw [z] at c_5; exact c_5 (by decide)
    · exact z q.1
noncomputable def foR (σ : ha_St) (but : Int32) : List (Int64 × Int64 × Int64) := adL σ (adP σ but 1) (gI σ 44 1).toNatClampNeg
def fmL (L : List (Int64 × Int64 × Int64)) (r : Int32) : Prop := ∃ ρ, (∀ k, k < L.length → (ρ (3 * k), ρ (3 * k + 1), ρ (3 * k + 2)) = L.getD k zer) ∧ isB r (fmQ ρ (Int32.ofNat L.length))
theorem fmL_of {σ : ha_St} {L : List (Int64 × Int64 × Int64)} {r : Int32} (h : mR σ L) (g : isB r (fmQ (gL σ 52) (gI σ 44 9))) : fmL L r := ⟨_, h.2.2, by rw [← h.2.1]; exact g⟩
set_option maxRecDepth 100000 in
set_option maxHeartbeats 4000000 in
theorem m_X11_form {G : ha_G} {l : Launch} {σ : ha_St} (hY : LY σ) (hN : MN σ) : hM G l yX11_form cX11_form 1 (some .int) { frames := 3, cells := 0, slots := 0, locals := 72 } [.ref (ad G 44)] σ (fun v σ' => ∃ r, v = some (.int r) ∧ frJ σ σ' ∧ fmL (foR σ (-1)) r) := by
  refine hM_ofF [(0, .ref (ad G 44))] (by decide +kernel) (Nat.le_of_ble_eq_true rfl) rfl ?_
  intro p e s m args below meth c0 C hin
  refine h_aload_n C 0 dX11_form_0 rfl rfl ?_
  refine h_iconst C (-1) dX11_form_1 (by decide) ?_
  refine h_iconst C 1 dX11_form_2 (by decide) ?_
  refine h_callV C (m_X11_addDirections hY hN) caX11_183 kX11 (ty_44 hY) ⟨by decide, by decide, by decide, by decide⟩ rfl rfl (Nat.le_of_ble_eq_true rfl) dX11_form_3 ?_
  rintro v σ1 ⟨rfl, hf1, hr1⟩
  have hY : LY σ1 := hf1.LY hY
  show hW _ _ _ _ _ _ _ _ _ _ _ _ _ 6 [(0, .ref (ad G 44))] [] σ1 0 0
  refine h_aload_n C 0 dX11_form_6 rfl rfl ?_
  refine h_callV C (m_X11_isForm hY hr1.b.1 hr1.b.2) caX11_208 kX11 (ty_44 hY) ⟨by decide, by decide, by decide, by decide⟩ rfl rfl (Nat.le_of_ble_eq_true rfl) dX11_form_7 ?_
  rintro v σ2 ⟨⟨r, rfl, hrk⟩, hx2⟩
  show hW _ _ _ _ _ _ _ _ _ _ _ _ _ 10 [(0, .ref (ad G 44))] [.int r] σ2 0 0
  refine h_iret C rfl (Nat.zero_le _) (Nat.zero_le _) dX11_form_10 ?_
  exact ⟨_, rfl, hf1.tr (frX_J hx2), fmL_of hr1 hrk⟩
set_option maxRecDepth 100000 in
set_option maxHeartbeats 4000000 in
theorem m_X11_without {G : ha_G} {l : Launch} {σ : ha_St} {c : Int32} (hY : LY σ) (hN : MN σ) : hM G l yX11_without cX11_without 2 (some .int) { frames := 3, cells := 0, slots := 0, locals := 72 } [.ref (ad G 44), .int c] σ (fun v σ' => ∃ r, v = some (.int r) ∧ ((icV σ c = 0 ∧ r = -1 ∧ σ' = σ) ∨ (icV σ c ≠ 0 ∧ frJ σ σ' ∧ fmL (foR σ c) r))) := by
  refine hM_ofF [(0, .ref (ad G 44)), (1, .int c)] (by decide +kernel) (Nat.le_of_ble_eq_true rfl) rfl ?_
  intro p e s m args below meth c0 C hin
  refine h_aload_n C 0 dX11_without_0 rfl rfl ?_
  refine h_iload_n C 1 dX11_without_1 rfl rfl ?_
  refine h_callV C (m_X11_isContact hY hN) caX11_142 kX11 (ty_44 hY) ⟨by decide, by decide, by decide, by decide⟩ rfl rfl (Nat.le_of_ble_eq_true rfl) dX11_without_2 ?_
  rintro v σ' ⟨rfl, h2⟩; rw [h2]; clear h2
  show hW _ _ _ _ _ _ _ _ _ _ _ _ _ 5 [(0, .ref (ad G 44)), (1, .int c)] [.int (icV σ c)] σ 0 0
  refine h_if_ne C 10 dX11_without_5 (by decide) (fun c_5 => ?_) (fun c_5 => ?_)
  · refine h_aload_n C 0 dX11_without_10 rfl rfl ?_
    refine h_iload_n C 1 dX11_without_11 rfl rfl ?_
    refine h_iconst C 1 dX11_without_12 (by decide) ?_
    refine h_callV C (m_X11_addDirections hY hN) caX11_183 kX11 (ty_44 hY) ⟨by decide, by decide, by decide, by decide⟩ rfl rfl (Nat.le_of_ble_eq_true rfl) dX11_without_13 ?_
    rintro v σ1 ⟨rfl, hf1, hr1⟩
    have hY : LY σ1 := hf1.LY hY
    show hW _ _ _ _ _ _ _ _ _ _ _ _ _ 16 [(0, .ref (ad G 44)), (1, .int c)] [] σ1 0 0
    refine h_aload_n C 0 dX11_without_16 rfl rfl ?_
    refine h_callV C (m_X11_isForm hY hr1.b.1 hr1.b.2) caX11_208 kX11 (ty_44 hY) ⟨by decide, by decide, by decide, by decide⟩ rfl rfl (Nat.le_of_ble_eq_true rfl) dX11_without_17 ?_
    rintro v σ2 ⟨⟨r, rfl, hrk⟩, hx2⟩
    show hW _ _ _ _ _ _ _ _ _ _ _ _ _ 20 [(0, .ref (ad G 44)), (1, .int c)] [.int r] σ2 0 0
    refine h_iret C rfl (Nat.zero_le _) (Nat.zero_le _) dX11_without_20 ?_
    exact ⟨_, rfl, Or.inr ⟨c_5, hf1.tr (frX_J hx2), fmL_of hr1 hrk⟩⟩
  · refine h_iconst C (-1) dX11_without_8 (by decide) ?_
    refine h_iret C rfl (Nat.zero_le _) (Nat.zero_le _) dX11_without_9 ?_
    exact ⟨_, rfl, Or.inl ⟨c_5, rfl, rfl⟩⟩
