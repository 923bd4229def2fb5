/-! ===== the reference: rows, crosses, ranks ===== -/
theorem t30_1 : ∀ k, k < 30 → (0 ≤ (3 * Int32.ofNat k).toInt ∧ (3 * Int32.ofNat k).toInt < 90) ∧ (0 ≤ (3 * Int32.ofNat k + 1).toInt ∧ (3 * Int32.ofNat k + 1).toInt < 90) ∧ 0 ≤ (3 * Int32.ofNat k + 2).toInt ∧ (3 * Int32.ofNat k + 2).toInt < 90 := by decide
theorem t30 {i : Int32} (h0 : 0 ≤ i) (h1 : i < 30) : vp_in (3 * i) 90 ∧ vp_in (3 * i + 1) 90 ∧ vp_in (3 * i + 2) 90 := by
  have e : i.toNatClampNeg < 30 := by have := tn_lt h0 h1; rw [show (30 : Int32).toNatClampNeg = 30 by decide] at this; exact this
  have a := t30_1 _ e
  rw [ofNat_succ_tn h0 rfl] at a
  exact ⟨vp_in_iff.mpr a.1, vp_in_iff.mpr a.2.1, vp_in_iff.mpr a.2.2⟩
theorem t30z {i : Int32} (h0 : 0 ≤ i) (h1 : i < 30) : vp_in (3 * i + 0) 90 := by
  rw [show 3 * i + 0 = 3 * i by grind]
  exact (t30 h0 h1).1
def AL (n : Int32) (P : Int32 → Prop) : Prop := ∀ x, 0 ≤ x → x < n → P x
theorem AL_0 {P : Int32 → Prop} : AL 0 P := fun x h0 h1 => absurd h1 (Int32.not_lt.mpr h0)
theorem AL_s {P : Int32 → Prop} {i N : Int32} (h : i < N) : AL (i + 1) P ↔ (AL i P ∧ (0 ≤ i → P i)) := by
  constructor
  · intro ha
    exact ⟨fun x h0 h1 => ha x h0 (by grind), fun h0 => ha i h0 (by grind)⟩
  · rintro ⟨ha, hp⟩ x h0 h1
    by_cases hx : x = i
    · subst hx; exact hp h0
    · exact ha x h0 (by grind)
theorem AL_i {P : Int32 → Prop} {i N : Int32} (h0 : 0 ≤ i) (h : i < N) : AL (i + 1) P ↔ (AL i P ∧ P i) := (AL_s h).trans (and_congr_right fun _ => ⟨fun g => g h0, fun g _ => g⟩)
theorem lg_n {x y : Int64} (h : ¬ lg_cmp x y = 0) : x ≠ y := fun e => h (by subst e; unfold lg_cmp; grind)
/-- what the reference may change as it reckons -/
def scJ (a j : Nat) : Prop := (52 ≤ a ∧ a ≤ 56) ∨ a = 58 ∨ a = 59 ∨ a = 62 ∨ a = 72 ∨ (a = 44 ∧ (j = 0 ∨ j = 9 ∨ j = 12 ∨ j = 13))
def frJ (σ σ' : ha_St) : Prop := gT σ' = gT σ ∧ gR σ' = gR σ ∧ gn σ' = gn σ ∧ (∀ a j, ¬ scJ a j → gI σ' a j = gI σ a j) ∧ ∀ a, a < 44 ∨ 60 ≤ a → gL σ' a = gL σ a
theorem frJ.rf {σ : ha_St} : frJ σ σ := ⟨rfl, rfl, rfl, fun _ _ _ => rfl, fun _ _ => rfl⟩
theorem frJ.tr {σ σ1 σ2 : ha_St} (h : frJ σ σ1) (g : frJ σ1 σ2) : frJ σ σ2 := ⟨g.1.trans h.1, g.2.1.trans h.2.1, g.2.2.1.trans h.2.2.1, fun a j ha => (g.2.2.2.1 a j ha).trans (h.2.2.2.1 a j ha), fun a ha => (g.2.2.2.2 a ha).trans (h.2.2.2.2 a ha)⟩
theorem frJ.LY {σ σ' : ha_St} (h : frJ σ σ') (hY : LY σ) : LY σ' := hY.same h.1 h.2.1 h.2.2.1
theorem frJ_sI {σ : ha_St} {a j : Nat} {v : Int32} (h : scJ a j) : frJ σ (sI σ a j v) := ⟨rfl, rfl, rfl, fun x y hx => by rw [gI_sI, if_neg (fun q => hx (by rw [q.1, q.2]; exact h))], fun _ _ => rfl⟩
theorem frJ_sL {σ : ha_St} {a j : Nat} {v : Int64} (h1 : 44 ≤ a) (h2 : a < 60) : frJ σ (sL σ a j v) := ⟨rfl, rfl, rfl, fun _ _ _ => rfl, fun x hx => funext fun y => by rw [gL_sL, if_neg (by omega)]⟩
theorem frJ_X {σ σ' : ha_St} (h : frX 53 54 σ σ') (hi : gI σ' = gI σ) : frJ σ σ' := ⟨h.1, h.2.1, h.2.2.1, fun a j _ => by rw [hi], fun a ha => (h.2.2.2 a (by omega)).2⟩
/-- the rows, by three -/
def q0 (ρ : Nat → Int64) (i : Int32) : Int64 := ρ (3 * i).toNatClampNeg
def q1 (ρ : Nat → Int64) (i : Int32) : Int64 := ρ (3 * i + 1).toNatClampNeg
def q2 (ρ : Nat → Int64) (i : Int32) : Int64 := ρ (3 * i + 2).toNatClampNeg
theorem q0z {ρ : Nat → Int64} {i : Int32} : ρ (3 * i + 0).toNatClampNeg = q0 ρ i := by unfold q0; rw [show 3 * i + 0 = 3 * i by grind]
def crR (ρ : Nat → Int64) (i j : Int32) : Int64 × Int64 × Int64 := (q1 ρ i * q2 ρ j - q2 ρ i * q1 ρ j, q2 ρ i * q0 ρ j - q0 ρ i * q2 ρ j, q0 ρ i * q1 ρ j - q1 ρ i * q0 ρ j)
def dtR (c : Int64 × Int64 × Int64) (ρ : Nat → Int64) (k : Int32) : Int64 := c.1 * q0 ρ k + c.2.1 * q1 ρ k + c.2.2 * q2 ρ k
def nzR (ρ : Nat → Int64) (i : Int32) : Prop := q0 ρ i = 0 ∧ q1 ρ i = 0 ∧ q2 ρ i = 0
def cr3 (σ : ha_St) : Int64 × Int64 × Int64 := (gL σ 53 0, gL σ 53 1, gL σ 53 2)
def acrF (σ : ha_St) (i j : Int32) : ha_St := sL (sL (sL σ 53 0 (crR (gL σ 52) i j).1) 53 1 (crR (gL σ 52) i j).2.1) 53 2 (crR (gL σ 52) i j).2.2
theorem acrF_c {σ : ha_St} {i j : Int32} : cr3 (acrF σ i j) = crR (gL σ 52) i j := rfl
theorem acrF_r {σ : ha_St} {i j : Int32} : gL (acrF σ i j) 52 = gL σ 52 := rfl
theorem acrF_x {σ : ha_St} {i j : Int32} : frX 53 54 σ (acrF σ i j) := ((frX_sL (by omega) (by omega)).tr (frX_sL (by omega) (by omega))).tr (frX_sL (by omega) (by omega))
def mAdd (σ : ha_St) (x y z : Int64) : ha_St := sI (sL (sL (sL σ 52 (3 * gI σ 44 9).toNatClampNeg x) 52 (3 * gI σ 44 9 + 1).toNatClampNeg y) 52 (3 * gI σ 44 9 + 2).toNatClampNeg z) 44 9 (gI σ 44 9 + 1)
theorem mAdd_J {σ : ha_St} {x y z : Int64} : frJ σ (mAdd σ x y z) := (((frJ_sL (by omega) (by omega)).tr (frJ_sL (by omega) (by omega))).tr (frJ_sL (by omega) (by omega))).tr (frJ_sI (by unfold scJ; omega))
set_option maxRecDepth 100000 in
set_option maxHeartbeats 4000000 in
theorem m_X11_add {G : ha_G} {l : Launch} {σ : ha_St} {x y z : Int64} (hY : LY σ) (hm0 : 0 ≤ gI σ 44 9) (hm1 : gI σ 44 9 < 30) : hM G l yX11_add cX11_add 7 none { frames := 0, cells := 0, slots := 0, locals := 0 } [.ref (ad G 44), .long x, .long y, .long z] σ (fun v σ' => v = none ∧ σ' = mAdd σ x y z) := by
  refine hM_ofF [(0, .ref (ad G 44)), (1, .long x), (3, .long y), (5, .long z)] (by decide +kernel) (Nat.le_of_ble_eq_true rfl) rfl ?_
  intro p e s m args below meth c0 C hin
  refine h_aload_n C 0 dX11_add_0 rfl rfl ?_
  refine gfX11_41 C (ty_44 hY) dX11_add_1 ?_
  refine h_tref (b := 52) (rf_44_10 hY) ?_
  refine h_iconst C 3 dX11_add_4 (by decide) ?_
  refine h_aload_n C 0 dX11_add_5 rfl rfl ?_
  refine gfX11_38 C (ty_44 hY) dX11_add_6 ?_
  refine h_imul C dX11_add_9 ?_
  refine h_lload_n C 1 dX11_add_10 rfl rfl ?_
  refine h_last C _ (ty_52 hY) (t30 hm0 hm1).1 dX11_add_11 rfl ?_
  refine h_aload_n C 0 dX11_add_12 rfl rfl ?_
  refine gfX11_41 C (ty_44 hY) dX11_add_13 ?_
  refine h_tref (b := 52) (rf_44_10 hY) ?_
  refine h_iconst C 3 dX11_add_16 (by decide) ?_
  refine h_aload_n C 0 dX11_add_17 rfl rfl ?_
  refine gfX11_38 C (ty_44 hY) dX11_add_18 ?_
  refine h_imul C dX11_add_21 ?_
  refine h_iconst C 1 dX11_add_22 (by decide) ?_
  refine h_iadd C dX11_add_23 ?_
  refine h_lload_n C 2 dX11_add_24 rfl rfl ?_
  refine h_last C _ (ty_52 hY) (t30 hm0 hm1).2.1 dX11_add_25 rfl ?_
  refine h_aload_n C 0 dX11_add_26 rfl rfl ?_
  refine gfX11_41 C (ty_44 hY) dX11_add_27 ?_
  refine h_tref (b := 52) (rf_44_10 hY) ?_
  refine h_iconst C 3 dX11_add_30 (by decide) ?_
  refine h_aload_n C 0 dX11_add_31 rfl rfl ?_
  refine gfX11_38 C (ty_44 hY) dX11_add_32 ?_
  refine h_imul C dX11_add_35 ?_
  refine h_iconst C 2 dX11_add_36 (by decide) ?_
  refine h_iadd C dX11_add_37 ?_
  refine h_lload C 3 dX11_add_38 rfl ?_
  refine h_last C _ (ty_52 hY) (t30 hm0 hm1).2.2 dX11_add_40 rfl ?_
  refine h_aload_n C 0 dX11_add_41 rfl rfl ?_
  refine h_dup C dX11_add_42 rfl ?_
  refine gfX11_38 C (ty_44 hY) dX11_add_43 ?_
  refine h_iconst C 1 dX11_add_46 (by decide) ?_
  refine h_iadd C dX11_add_47 ?_
  refine pfX11_38 C (ty_44 hY) dX11_add_48 ?_
  refine h_vret C rfl (Nat.zero_le _) (Nat.zero_le _) dX11_add_51 ?_
  exact ⟨rfl, rfl⟩
set_option maxRecDepth 100000 in
set_option maxHeartbeats 4000000 in
theorem m_X11_across {G : ha_G} {l : Launch} {σ : ha_St} {i j : Int32} (hY : LY σ) (hi : 0 ≤ i ∧ i < 30) (hj : 0 ≤ j ∧ j < 30) : hM G l yX11_across cX11_across 4 (some .boolean) { frames := 0, cells := 0, slots := 0, locals := 0 } [.ref (ad G 44), .int i, .int j] σ (fun v σ' => (∃ r, v = some (.int r) ∧ isB r (crR (gL σ 52) i j ≠ zer)) ∧ σ' = acrF σ i j) := by
  refine hM_ofF [(0, .ref (ad G 44)), (1, .int i), (2, .int j)] (by decide +kernel) (Nat.le_of_ble_eq_true rfl) rfl ?_
  intro p e s m args below meth c0 C hin
  refine h_iconst C 0 dX11_across_0 (by decide) ?_
  refine h_istore_n C [(3, .int 0), (0, .ref (ad G 44)), (1, .int i), (2, .int j)] dX11_across_1 rfl (by decide) rfl ?_
  refine h_iload_n C 0 dX11_across_2 rfl rfl ?_
  refine h_iconst C 3 dX11_across_3 (by decide) ?_
  refine h_icmp_ge C 78 dX11_across_4 (by decide) (fun c_4 => ?_) (fun c_4 => ?_)
  · exact absurd c_4 (by decide)
  · refine h_aload_n C 1 dX11_across_7 rfl rfl ?_
    refine gfX11_45 C (ty_44 hY) dX11_across_8 ?_
    refine h_tref (b := 53) (rf_44_11 hY) ?_
    refine h_iload_n C 0 dX11_across_11 rfl rfl ?_
    refine h_aload_n C 1 dX11_across_12 rfl rfl ?_
    refine gfX11_41 C (ty_44 hY) dX11_across_13 ?_
    refine h_tref (b := 52) (rf_44_10 hY) ?_
    refine h_iconst C 3 dX11_across_16 (by decide) ?_
    refine h_iload_n C 2 dX11_across_17 rfl rfl ?_
    refine h_imul C dX11_across_18 ?_
    refine h_iload_n C 0 dX11_across_19 rfl rfl ?_
    refine h_iconst C 1 dX11_across_20 (by decide) ?_
    refine h_iadd C dX11_across_21 ?_
    show hW _ _ _ _ _ _ _ _ _ _ _ _ _ 22 [(3, .int 0), (0, .ref (ad G 44)), (1, .int i), (2, .int j)] [.int 1, .int (3 * i), .ref (ad G 52), .int 0, .ref (ad G 53)] σ 0 0
    refine h_iconst C 3 dX11_across_22 (by decide) ?_
    refine h_irem C dX11_across_23 (by decide) ?_
    show hW _ _ _ _ _ _ _ _ _ _ _ _ _ 24 [(3, .int 0), (0, .ref (ad G 44)), (1, .int i), (2, .int j)] [.int 1, .int (3 * i), .ref (ad G 52), .int 0, .ref (ad G 53)] σ 0 0
    refine h_iadd C dX11_across_24 ?_
    refine h_lald C (ty_52 hY) (t30 hi.1 hi.2).2.1 dX11_across_25 ?_
    refine h_aload_n C 1 dX11_across_26 rfl rfl ?_
    refine gfX11_41 C (ty_44 hY) dX11_across_27 ?_
    refine h_tref (b := 52) (rf_44_10 hY) ?_
    refine h_iconst C 3 dX11_across_30 (by decide) ?_
    refine h_iload_n C 3 dX11_across_31 rfl rfl ?_
    refine h_imul C dX11_across_32 ?_
    refine h_iload_n C 0 dX11_across_33 rfl rfl ?_
    refine h_iconst C 2 dX11_across_34 (by decide) ?_
    refine h_iadd C dX11_across_35 ?_
    show hW _ _ _ _ _ _ _ _ _ _ _ _ _ 36 [(3, .int 0), (0, .ref (ad G 44)), (1, .int i), (2, .int j)] [.int 2, .int (3 * j), .ref (ad G 52), .long (gL σ 52 ((3 * i) + 1).toNatClampNeg), .int 0, .ref (ad G 53)] σ 0 0
    refine h_iconst C 3 dX11_across_36 (by decide) ?_
    refine h_irem C dX11_across_37 (by decide) ?_
    show hW _ _ _ _ _ _ _ _ _ _ _ _ _ 38 [(3, .int 0), (0, .ref (ad G 44)), (1, .int i), (2, .int j)] [.int 2, .int (3 * j), .ref (ad G 52), .long (gL σ 52 ((3 * i) + 1).toNatClampNeg), .int 0, .ref (ad G 53)] σ 0 0
    refine h_iadd C dX11_across_38 ?_
    refine h_lald C (ty_52 hY) (t30 hj.1 hj.2).2.2 dX11_across_39 ?_
    refine h_lmul C dX11_across_40 ?_
    refine h_aload_n C 1 dX11_across_41 rfl rfl ?_
    refine gfX11_41 C (ty_44 hY) dX11_across_42 ?_
    refine h_tref (b := 52) (rf_44_10 hY) ?_
    refine h_iconst C 3 dX11_across_45 (by decide) ?_
    refine h_iload_n C 2 dX11_across_46 rfl rfl ?_
    refine h_imul C dX11_across_47 ?_
    refine h_iload_n C 0 dX11_across_48 rfl rfl ?_
    refine h_iconst C 2 dX11_across_49 (by decide) ?_
    refine h_iadd C dX11_across_50 ?_
    show hW _ _ _ _ _ _ _ _ _ _ _ _ _ 51 [(3, .int 0), (0, .ref (ad G 44)), (1, .int i), (2, .int j)] [.int 2, .int (3 * i), .ref (ad G 52), .long ((gL σ 52 ((3 * i) + 1).toNatClampNeg) * (gL σ 52 ((3 * j) + 2).toNatClampNeg)), .int 0, .ref (ad G 53)] σ 0 0
    refine h_iconst C 3 dX11_across_51 (by decide) ?_
    refine h_irem C dX11_across_52 (by decide) ?_
    show hW _ _ _ _ _ _ _ _ _ _ _ _ _ 53 [(3, .int 0), (0, .ref (ad G 44)), (1, .int i), (2, .int j)] [.int 2, .int (3 * i), .ref (ad G 52), .long ((gL σ 52 ((3 * i) + 1).toNatClampNeg) * (gL σ 52 ((3 * j) + 2).toNatClampNeg)), .int 0, .ref (ad G 53)] σ 0 0
    refine h_iadd C dX11_across_53 ?_
    refine h_lald C (ty_52 hY) (t30 hi.1 hi.2).2.2 dX11_across_54 ?_
    refine h_aload_n C 1 dX11_across_55 rfl rfl ?_
    refine gfX11_41 C (ty_44 hY) dX11_across_56 ?_
    refine h_tref (b := 52) (rf_44_10 hY) ?_
    refine h_iconst C 3 dX11_across_59 (by decide) ?_
    refine h_iload_n C 3 dX11_across_60 rfl rfl ?_
    refine h_imul C dX11_across_61 ?_
    refine h_iload_n C 0 dX11_across_62 rfl rfl ?_
    refine h_iconst C 1 dX11_across_63 (by decide) ?_
    refine h_iadd C dX11_across_64 ?_
    show hW _ _ _ _ _ _ _ _ _ _ _ _ _ 65 [(3, .int 0), (0, .ref (ad G 44)), (1, .int i), (2, .int j)] [.int 1, .int (3 * j), .ref (ad G 52), .long (gL σ 52 ((3 * i) + 2).toNatClampNeg), .long ((gL σ 52 ((3 * i) + 1).toNatClampNeg) * (gL σ 52 ((3 * j) + 2).toNatClampNeg)), .int 0, .ref (ad G 53)] σ 0 0
    refine h_iconst C 3 dX11_across_65 (by decide) ?_
    refine h_irem C dX11_across_66 (by decide) ?_
    show hW _ _ _ _ _ _ _ _ _ _ _ _ _ 67 [(3, .int 0), (0, .ref (ad G 44)), (1, .int i), (2, .int j)] [.int 1, .int (3 * j), .ref (ad G 52), .long (gL σ 52 ((3 * i) + 2).toNatClampNeg), .long ((gL σ 52 ((3 * i) + 1).toNatClampNeg) * (gL σ 52 ((3 * j) + 2).toNatClampNeg)), .int 0, .ref (ad G 53)] σ 0 0
    refine h_iadd C dX11_across_67 ?_
    refine h_lald C (ty_52 hY) (t30 hj.1 hj.2).2.1 dX11_across_68 ?_
    refine h_lmul C dX11_across_69 ?_
    refine h_lsub C dX11_across_70 ?_
    refine h_last C _ (ty_53 hY) (vp32 (N := 3) (by decide) (by decide) (by decide)) dX11_across_71 rfl ?_
    show hW _ _ _ _ _ _ _ _ _ _ _ _ _ 72 [(3, .int 0), (0, .ref (ad G 44)), (1, .int i), (2, .int j)] [] (sL σ 53 0 (((gL σ 52 ((3 * i) + 1).toNatClampNeg) * (gL σ 52 ((3 * j) + 2).toNatClampNeg)) - ((gL σ 52 ((3 * i) + 2).toNatClampNeg) * (gL σ 52 ((3 * j) + 1).toNatClampNeg)))) 0 0
    refine h_iinc C [(3, .int 1), (0, .ref (ad G 44)), (1, .int i), (2, .int j)] 0 1 dX11_across_72 rfl rfl (by decide) rfl ?_
    refine h_goto C 2 dX11_across_75 (by decide) ?_
    refine h_iload_n C 0 dX11_across_2 rfl rfl ?_
    refine h_iconst C 3 dX11_across_3 (by decide) ?_
    refine h_icmp_ge C 78 dX11_across_4 (by decide) (fun c_4 => ?_) (fun c_4 => ?_)
    · exact absurd c_4 (by decide)
    · refine h_aload_n C 1 dX11_across_7 rfl rfl ?_
      refine gfX11_45 C (ty_44 hY) dX11_across_8 ?_
      refine h_tref (b := 53) (rf_44_11 hY) ?_
      refine h_iload_n C 0 dX11_across_11 rfl rfl ?_
      refine h_aload_n C 1 dX11_across_12 rfl rfl ?_
      refine gfX11_41 C (ty_44 hY) dX11_across_13 ?_
      refine h_tref (b := 52) (rf_44_10 hY) ?_
      refine h_iconst C 3 dX11_across_16 (by decide) ?_
      refine h_iload_n C 2 dX11_across_17 rfl rfl ?_
      refine h_imul C dX11_across_18 ?_
      refine h_iload_n C 0 dX11_across_19 rfl rfl ?_
      refine h_iconst C 1 dX11_across_20 (by decide) ?_
      refine h_iadd C dX11_across_21 ?_
      show hW _ _ _ _ _ _ _ _ _ _ _ _ _ 22 [(3, .int 1), (0, .ref (ad G 44)), (1, .int i), (2, .int j)] [.int 2, .int (3 * i), .ref (ad G 52), .int 1, .ref (ad G 53)] (sL σ 53 0 (((gL σ 52 ((3 * i) + 1).toNatClampNeg) * (gL σ 52 ((3 * j) + 2).toNatClampNeg)) - ((gL σ 52 ((3 * i) + 2).toNatClampNeg) * (gL σ 52 ((3 * j) + 1).toNatClampNeg)))) 0 0
      refine h_iconst C 3 dX11_across_22 (by decide) ?_
      refine h_irem C dX11_across_23 (by decide) ?_
      show hW _ _ _ _ _ _ _ _ _ _ _ _ _ 24 [(3, .int 1), (0, .ref (ad G 44)), (1, .int i), (2, .int j)] [.int 2, .int (3 * i), .ref (ad G 52), .int 1, .ref (ad G 53)] (sL σ 53 0 (((gL σ 52 ((3 * i) + 1).toNatClampNeg) * (gL σ 52 ((3 * j) + 2).toNatClampNeg)) - ((gL σ 52 ((3 * i) + 2).toNatClampNeg) * (gL σ 52 ((3 * j) + 1).toNatClampNeg)))) 0 0
      refine h_iadd C dX11_across_24 ?_
      refine h_lald C (ty_52 hY) (t30 hi.1 hi.2).2.2 dX11_across_25 ?_
      show hW _ _ _ _ _ _ _ _ _ _ _ _ _ 26 [(3, .int 1), (0, .ref (ad G 44)), (1, .int i), (2, .int j)] [.long (gL σ 52 ((3 * i) + 2).toNatClampNeg), .int 1, .ref (ad G 53)] (sL σ 53 0 (((gL σ 52 ((3 * i) + 1).toNatClampNeg) * (gL σ 52 ((3 * j) + 2).toNatClampNeg)) - ((gL σ 52 ((3 * i) + 2).toNatClampNeg) * (gL σ 52 ((3 * j) + 1).toNatClampNeg)))) 0 0
      refine h_aload_n C 1 dX11_across_26 rfl rfl ?_
      refine gfX11_41 C (ty_44 hY) dX11_across_27 ?_
      refine h_tref (b := 52) (rf_44_10 hY) ?_
      refine h_iconst C 3 dX11_across_30 (by decide) ?_
      refine h_iload_n C 3 dX11_across_31 rfl rfl ?_
      refine h_imul C dX11_across_32 ?_
      refine h_iload_n C 0 dX11_across_33 rfl rfl ?_
      refine h_iconst C 2 dX11_across_34 (by decide) ?_
      refine h_iadd C dX11_across_35 ?_
      show hW _ _ _ _ _ _ _ _ _ _ _ _ _ 36 [(3, .int 1), (0, .ref (ad G 44)), (1, .int i), (2, .int j)] [.int 3, .int (3 * j), .ref (ad G 52), .long (gL σ 52 ((3 * i) + 2).toNatClampNeg), .int 1, .ref (ad G 53)] (sL σ 53 0 (((gL σ 52 ((3 * i) + 1).toNatClampNeg) * (gL σ 52 ((3 * j) + 2).toNatClampNeg)) - ((gL σ 52 ((3 * i) + 2).toNatClampNeg) * (gL σ 52 ((3 * j) + 1).toNatClampNeg)))) 0 0
      refine h_iconst C 3 dX11_across_36 (by decide) ?_
      refine h_irem C dX11_across_37 (by decide) ?_
      show hW _ _ _ _ _ _ _ _ _ _ _ _ _ 38 [(3, .int 1), (0, .ref (ad G 44)), (1, .int i), (2, .int j)] [.int 0, .int (3 * j), .ref (ad G 52), .long (gL σ 52 ((3 * i) + 2).toNatClampNeg), .int 1, .ref (ad G 53)] (sL σ 53 0 (((gL σ 52 ((3 * i) + 1).toNatClampNeg) * (gL σ 52 ((3 * j) + 2).toNatClampNeg)) - ((gL σ 52 ((3 * i) + 2).toNatClampNeg) * (gL σ 52 ((3 * j) + 1).toNatClampNeg)))) 0 0
      refine h_iadd C dX11_across_38 ?_
      refine h_lald C (ty_52 hY) (t30z hj.1 hj.2) dX11_across_39 ?_
      show hW _ _ _ _ _ _ _ _ _ _ _ _ _ 40 [(3, .int 1), (0, .ref (ad G 44)), (1, .int i), (2, .int j)] [.long (gL σ 52 ((3 * j) + 0).toNatClampNeg), .long (gL σ 52 ((3 * i) + 2).toNatClampNeg), .int 1, .ref (ad G 53)] (sL σ 53 0 (((gL σ 52 ((3 * i) + 1).toNatClampNeg) * (gL σ 52 ((3 * j) + 2).toNatClampNeg)) - ((gL σ 52 ((3 * i) + 2).toNatClampNeg) * (gL σ 52 ((3 * j) + 1).toNatClampNeg)))) 0 0
      refine h_lmul C dX11_across_40 ?_
      refine h_aload_n C 1 dX11_across_41 rfl rfl ?_
      refine gfX11_41 C (ty_44 hY) dX11_across_42 ?_
      refine h_tref (b := 52) (rf_44_10 hY) ?_
      refine h_iconst C 3 dX11_across_45 (by decide) ?_
      refine h_iload_n C 2 dX11_across_46 rfl rfl ?_
      refine h_imul C dX11_across_47 ?_
      refine h_iload_n C 0 dX11_across_48 rfl rfl ?_
      refine h_iconst C 2 dX11_across_49 (by decide) ?_
      refine h_iadd C dX11_across_50 ?_
      show hW _ _ _ _ _ _ _ _ _ _ _ _ _ 51 [(3, .int 1), (0, .ref (ad G 44)), (1, .int i), (2, .int j)] [.int 3, .int (3 * i), .ref (ad G 52), .long ((gL σ 52 ((3 * i) + 2).toNatClampNeg) * (gL σ 52 ((3 * j) + 0).toNatClampNeg)), .int 1, .ref (ad G 53)] (sL σ 53 0 (((gL σ 52 ((3 * i) + 1).toNatClampNeg) * (gL σ 52 ((3 * j) + 2).toNatClampNeg)) - ((gL σ 52 ((3 * i) + 2).toNatClampNeg) * (gL σ 52 ((3 * j) + 1).toNatClampNeg)))) 0 0
      refine h_iconst C 3 dX11_across_51 (by decide) ?_
      refine h_irem C dX11_across_52 (by decide) ?_
      show hW _ _ _ _ _ _ _ _ _ _ _ _ _ 53 [(3, .int 1), (0, .ref (ad G 44)), (1, .int i), (2, .int j)] [.int 0, .int (3 * i), .ref (ad G 52), .long ((gL σ 52 ((3 * i) + 2).toNatClampNeg) * (gL σ 52 ((3 * j) + 0).toNatClampNeg)), .int 1, .ref (ad G 53)] (sL σ 53 0 (((gL σ 52 ((3 * i) + 1).toNatClampNeg) * (gL σ 52 ((3 * j) + 2).toNatClampNeg)) - ((gL σ 52 ((3 * i) + 2).toNatClampNeg) * (gL σ 52 ((3 * j) + 1).toNatClampNeg)))) 0 0
      refine h_iadd C dX11_across_53 ?_
      refine h_lald C (ty_52 hY) (t30z hi.1 hi.2) dX11_across_54 ?_
      show hW _ _ _ _ _ _ _ _ _ _ _ _ _ 55 [(3, .int 1), (0, .ref (ad G 44)), (1, .int i), (2, .int j)] [.long (gL σ 52 ((3 * i) + 0).toNatClampNeg), .long ((gL σ 52 ((3 * i) + 2).toNatClampNeg) * (gL σ 52 ((3 * j) + 0).toNatClampNeg)), .int 1, .ref (ad G 53)] (sL σ 53 0 (((gL σ 52 ((3 * i) + 1).toNatClampNeg) * (gL σ 52 ((3 * j) + 2).toNatClampNeg)) - ((gL σ 52 ((3 * i) + 2).toNatClampNeg) * (gL σ 52 ((3 * j) + 1).toNatClampNeg)))) 0 0
      refine h_aload_n C 1 dX11_across_55 rfl rfl ?_
      refine gfX11_41 C (ty_44 hY) dX11_across_56 ?_
      refine h_tref (b := 52) (rf_44_10 hY) ?_
      refine h_iconst C 3 dX11_across_59 (by decide) ?_
      refine h_iload_n C 3 dX11_across_60 rfl rfl ?_
      refine h_imul C dX11_across_61 ?_
      refine h_iload_n C 0 dX11_across_62 rfl rfl ?_
      refine h_iconst C 1 dX11_across_63 (by decide) ?_
      refine h_iadd C dX11_across_64 ?_
      show hW _ _ _ _ _ _ _ _ _ _ _ _ _ 65 [(3, .int 1), (0, .ref (ad G 44)), (1, .int i), (2, .int j)] [.int 2, .int (3 * j), .ref (ad G 52), .long (gL σ 52 ((3 * i) + 0).toNatClampNeg), .long ((gL σ 52 ((3 * i) + 2).toNatClampNeg) * (gL σ 52 ((3 * j) + 0).toNatClampNeg)), .int 1, .ref (ad G 53)] (sL σ 53 0 (((gL σ 52 ((3 * i) + 1).toNatClampNeg) * (gL σ 52 ((3 * j) + 2).toNatClampNeg)) - ((gL σ 52 ((3 * i) + 2).toNatClampNeg) * (gL σ 52 ((3 * j) + 1).toNatClampNeg)))) 0 0
      refine h_iconst C 3 dX11_across_65 (by decide) ?_
      refine h_irem C dX11_across_66 (by decide) ?_
      show hW _ _ _ _ _ _ _ _ _ _ _ _ _ 67 [(3, .int 1), (0, .ref (ad G 44)), (1, .int i), (2, .int j)] [.int 2, .int (3 * j), .ref (ad G 52), .long (gL σ 52 ((3 * i) + 0).toNatClampNeg), .long ((gL σ 52 ((3 * i) + 2).toNatClampNeg) * (gL σ 52 ((3 * j) + 0).toNatClampNeg)), .int 1, .ref (ad G 53)] (sL σ 53 0 (((gL σ 52 ((3 * i) + 1).toNatClampNeg) * (gL σ 52 ((3 * j) + 2).toNatClampNeg)) - ((gL σ 52 ((3 * i) + 2).toNatClampNeg) * (gL σ 52 ((3 * j) + 1).toNatClampNeg)))) 0 0
      refine h_iadd C dX11_across_67 ?_
      refine h_lald C (ty_52 hY) (t30 hj.1 hj.2).2.2 dX11_across_68 ?_
      show hW _ _ _ _ _ _ _ _ _ _ _ _ _ 69 [(3, .int 1), (0, .ref (ad G 44)), (1, .int i), (2, .int j)] [.long (gL σ 52 ((3 * j) + 2).toNatClampNeg), .long (gL σ 52 ((3 * i) + 0).toNatClampNeg), .long ((gL σ 52 ((3 * i) + 2).toNatClampNeg) * (gL σ 52 ((3 * j) + 0).toNatClampNeg)), .int 1, .ref (ad G 53)] (sL σ 53 0 (((gL σ 52 ((3 * i) + 1).toNatClampNeg) * (gL σ 52 ((3 * j) + 2).toNatClampNeg)) - ((gL σ 52 ((3 * i) + 2).toNatClampNeg) * (gL σ 52 ((3 * j) + 1).toNatClampNeg)))) 0 0
      refine h_lmul C dX11_across_69 ?_
      refine h_lsub C dX11_across_70 ?_
      refine h_last C _ (ty_53 hY) (vp32 (N := 3) (by decide) (by decide) (by decide)) dX11_across_71 rfl ?_
      show hW _ _ _ _ _ _ _ _ _ _ _ _ _ 72 [(3, .int 1), (0, .ref (ad G 44)), (1, .int i), (2, .int j)] [] (sL (sL σ 53 0 (((gL σ 52 ((3 * i) + 1).toNatClampNeg) * (gL σ 52 ((3 * j) + 2).toNatClampNeg)) - ((gL σ 52 ((3 * i) + 2).toNatClampNeg) * (gL σ 52 ((3 * j) + 1).toNatClampNeg)))) 53 1 (((gL σ 52 ((3 * i) + 2).toNatClampNeg) * (gL σ 52 ((3 * j) + 0).toNatClampNeg)) - ((gL σ 52 ((3 * i) + 0).toNatClampNeg) * (gL σ 52 ((3 * j) + 2).toNatClampNeg)))) 0 0
      refine h_iinc C [(3, .int 2), (0, .ref (ad G 44)), (1, .int i), (2, .int j)] 0 2 dX11_across_72 rfl rfl (by decide) rfl ?_
      refine h_goto C 2 dX11_across_75 (by decide) ?_
      refine h_iload_n C 0 dX11_across_2 rfl rfl ?_
      refine h_iconst C 3 dX11_across_3 (by decide) ?_
      refine h_icmp_ge C 78 dX11_across_4 (by decide) (fun c_4 => ?_) (fun c_4 => ?_)
      · exact absurd c_4 (by decide)
      · refine h_aload_n C 1 dX11_across_7 rfl rfl ?_
        refine gfX11_45 C (ty_44 hY) dX11_across_8 ?_
        refine h_tref (b := 53) (rf_44_11 hY) ?_
        refine h_iload_n C 0 dX11_across_11 rfl rfl ?_
        refine h_aload_n C 1 dX11_across_12 rfl rfl ?_
        refine gfX11_41 C (ty_44 hY) dX11_across_13 ?_
        refine h_tref (b := 52) (rf_44_10 hY) ?_
        refine h_iconst C 3 dX11_across_16 (by decide) ?_
        refine h_iload_n C 2 dX11_across_17 rfl rfl ?_
        refine h_imul C dX11_across_18 ?_
        refine h_iload_n C 0 dX11_across_19 rfl rfl ?_
        refine h_iconst C 1 dX11_across_20 (by decide) ?_
        refine h_iadd C dX11_across_21 ?_
        show hW _ _ _ _ _ _ _ _ _ _ _ _ _ 22 [(3, .int 2), (0, .ref (ad G 44)), (1, .int i), (2, .int j)] [.int 3, .int (3 * i), .ref (ad G 52), .int 2, .ref (ad G 53)] (sL (sL σ 53 0 (((gL σ 52 ((3 * i) + 1).toNatClampNeg) * (gL σ 52 ((3 * j) + 2).toNatClampNeg)) - ((gL σ 52 ((3 * i) + 2).toNatClampNeg) * (gL σ 52 ((3 * j) + 1).toNatClampNeg)))) 53 1 (((gL σ 52 ((3 * i) + 2).toNatClampNeg) * (gL σ 52 ((3 * j) + 0).toNatClampNeg)) - ((gL σ 52 ((3 * i) + 0).toNatClampNeg) * (gL σ 52 ((3 * j) + 2).toNatClampNeg)))) 0 0
        refine h_iconst C 3 dX11_across_22 (by decide) ?_
        refine h_irem C dX11_across_23 (by decide) ?_
        show hW _ _ _ _ _ _ _ _ _ _ _ _ _ 24 [(3, .int 2), (0, .ref (ad G 44)), (1, .int i), (2, .int j)] [.int 0, .int (3 * i), .ref (ad G 52), .int 2, .ref (ad G 53)] (sL (sL σ 53 0 (((gL σ 52 ((3 * i) + 1).toNatClampNeg) * (gL σ 52 ((3 * j) + 2).toNatClampNeg)) - ((gL σ 52 ((3 * i) + 2).toNatClampNeg) * (gL σ 52 ((3 * j) + 1).toNatClampNeg)))) 53 1 (((gL σ 52 ((3 * i) + 2).toNatClampNeg) * (gL σ 52 ((3 * j) + 0).toNatClampNeg)) - ((gL σ 52 ((3 * i) + 0).toNatClampNeg) * (gL σ 52 ((3 * j) + 2).toNatClampNeg)))) 0 0
        refine h_iadd C dX11_across_24 ?_
        refine h_lald C (ty_52 hY) (t30z hi.1 hi.2) dX11_across_25 ?_
        show hW _ _ _ _ _ _ _ _ _ _ _ _ _ 26 [(3, .int 2), (0, .ref (ad G 44)), (1, .int i), (2, .int j)] [.long (gL σ 52 ((3 * i) + 0).toNatClampNeg), .int 2, .ref (ad G 53)] (sL (sL σ 53 0 (((gL σ 52 ((3 * i) + 1).toNatClampNeg) * (gL σ 52 ((3 * j) + 2).toNatClampNeg)) - ((gL σ 52 ((3 * i) + 2).toNatClampNeg) * (gL σ 52 ((3 * j) + 1).toNatClampNeg)))) 53 1 (((gL σ 52 ((3 * i) + 2).toNatClampNeg) * (gL σ 52 ((3 * j) + 0).toNatClampNeg)) - ((gL σ 52 ((3 * i) + 0).toNatClampNeg) * (gL σ 52 ((3 * j) + 2).toNatClampNeg)))) 0 0
        refine h_aload_n C 1 dX11_across_26 rfl rfl ?_
        refine gfX11_41 C (ty_44 hY) dX11_across_27 ?_
        refine h_tref (b := 52) (rf_44_10 hY) ?_
        refine h_iconst C 3 dX11_across_30 (by decide) ?_
        refine h_iload_n C 3 dX11_across_31 rfl rfl ?_
        refine h_imul C dX11_across_32 ?_
        refine h_iload_n C 0 dX11_across_33 rfl rfl ?_
        refine h_iconst C 2 dX11_across_34 (by decide) ?_
        refine h_iadd C dX11_across_35 ?_
        show hW _ _ _ _ _ _ _ _ _ _ _ _ _ 36 [(3, .int 2), (0, .ref (ad G 44)), (1, .int i), (2, .int j)] [.int 4, .int (3 * j), .ref (ad G 52), .long (gL σ 52 ((3 * i) + 0).toNatClampNeg), .int 2, .ref (ad G 53)] (sL (sL σ 53 0 (((gL σ 52 ((3 * i) + 1).toNatClampNeg) * (gL σ 52 ((3 * j) + 2).toNatClampNeg)) - ((gL σ 52 ((3 * i) + 2).toNatClampNeg) * (gL σ 52 ((3 * j) + 1).toNatClampNeg)))) 53 1 (((gL σ 52 ((3 * i) + 2).toNatClampNeg) * (gL σ 52 ((3 * j) + 0).toNatClampNeg)) - ((gL σ 52 ((3 * i) + 0).toNatClampNeg) * (gL σ 52 ((3 * j) + 2).toNatClampNeg)))) 0 0
        refine h_iconst C 3 dX11_across_36 (by decide) ?_
        refine h_irem C dX11_across_37 (by decide) ?_
        show hW _ _ _ _ _ _ _ _ _ _ _ _ _ 38 [(3, .int 2), (0, .ref (ad G 44)), (1, .int i), (2, .int j)] [.int 1, .int (3 * j), .ref (ad G 52), .long (gL σ 52 ((3 * i) + 0).toNatClampNeg), .int 2, .ref (ad G 53)] (sL (sL σ 53 0 (((gL σ 52 ((3 * i) + 1).toNatClampNeg) * (gL σ 52 ((3 * j) + 2).toNatClampNeg)) - ((gL σ 52 ((3 * i) + 2).toNatClampNeg) * (gL σ 52 ((3 * j) + 1).toNatClampNeg)))) 53 1 (((gL σ 52 ((3 * i) + 2).toNatClampNeg) * (gL σ 52 ((3 * j) + 0).toNatClampNeg)) - ((gL σ 52 ((3 * i) + 0).toNatClampNeg) * (gL σ 52 ((3 * j) + 2).toNatClampNeg)))) 0 0
        refine h_iadd C dX11_across_38 ?_
        refine h_lald C (ty_52 hY) (t30 hj.1 hj.2).2.1 dX11_across_39 ?_
        show hW _ _ _ _ _ _ _ _ _ _ _ _ _ 40 [(3, .int 2), (0, .ref (ad G 44)), (1, .int i), (2, .int j)] [.long (gL σ 52 ((3 * j) + 1).toNatClampNeg), .long (gL σ 52 ((3 * i) + 0).toNatClampNeg), .int 2, .ref (ad G 53)] (sL (sL σ 53 0 (((gL σ 52 ((3 * i) + 1).toNatClampNeg) * (gL σ 52 ((3 * j) + 2).toNatClampNeg)) - ((gL σ 52 ((3 * i) + 2).toNatClampNeg) * (gL σ 52 ((3 * j) + 1).toNatClampNeg)))) 53 1 (((gL σ 52 ((3 * i) + 2).toNatClampNeg) * (gL σ 52 ((3 * j) + 0).toNatClampNeg)) - ((gL σ 52 ((3 * i) + 0).toNatClampNeg) * (gL σ 52 ((3 * j) + 2).toNatClampNeg)))) 0 0
        refine h_lmul C dX11_across_40 ?_
        refine h_aload_n C 1 dX11_across_41 rfl rfl ?_
        refine gfX11_41 C (ty_44 hY) dX11_across_42 ?_
        refine h_tref (b := 52) (rf_44_10 hY) ?_
        refine h_iconst C 3 dX11_across_45 (by decide) ?_
        refine h_iload_n C 2 dX11_across_46 rfl rfl ?_
        refine h_imul C dX11_across_47 ?_
        refine h_iload_n C 0 dX11_across_48 rfl rfl ?_
        refine h_iconst C 2 dX11_across_49 (by decide) ?_
        refine h_iadd C dX11_across_50 ?_
        show hW _ _ _ _ _ _ _ _ _ _ _ _ _ 51 [(3, .int 2), (0, .ref (ad G 44)), (1, .int i), (2, .int j)] [.int 4, .int (3 * i), .ref (ad G 52), .long ((gL σ 52 ((3 * i) + 0).toNatClampNeg) * (gL σ 52 ((3 * j) + 1).toNatClampNeg)), .int 2, .ref (ad G 53)] (sL (sL σ 53 0 (((gL σ 52 ((3 * i) + 1).toNatClampNeg) * (gL σ 52 ((3 * j) + 2).toNatClampNeg)) - ((gL σ 52 ((3 * i) + 2).toNatClampNeg) * (gL σ 52 ((3 * j) + 1).toNatClampNeg)))) 53 1 (((gL σ 52 ((3 * i) + 2).toNatClampNeg) * (gL σ 52 ((3 * j) + 0).toNatClampNeg)) - ((gL σ 52 ((3 * i) + 0).toNatClampNeg) * (gL σ 52 ((3 * j) + 2).toNatClampNeg)))) 0 0
        refine h_iconst C 3 dX11_across_51 (by decide) ?_
        refine h_irem C dX11_across_52 (by decide) ?_
        show hW _ _ _ _ _ _ _ _ _ _ _ _ _ 53 [(3, .int 2), (0, .ref (ad G 44)), (1, .int i), (2, .int j)] [.int 1, .int (3 * i), .ref (ad G 52), .long ((gL σ 52 ((3 * i) + 0).toNatClampNeg) * (gL σ 52 ((3 * j) + 1).toNatClampNeg)), .int 2, .ref (ad G 53)] (sL (sL σ 53 0 (((gL σ 52 ((3 * i) + 1).toNatClampNeg) * (gL σ 52 ((3 * j) + 2).toNatClampNeg)) - ((gL σ 52 ((3 * i) + 2).toNatClampNeg) * (gL σ 52 ((3 * j) + 1).toNatClampNeg)))) 53 1 (((gL σ 52 ((3 * i) + 2).toNatClampNeg) * (gL σ 52 ((3 * j) + 0).toNatClampNeg)) - ((gL σ 52 ((3 * i) + 0).toNatClampNeg) * (gL σ 52 ((3 * j) + 2).toNatClampNeg)))) 0 0
        refine h_iadd C dX11_across_53 ?_
        refine h_lald C (ty_52 hY) (t30 hi.1 hi.2).2.1 dX11_across_54 ?_
        show hW _ _ _ _ _ _ _ _ _ _ _ _ _ 55 [(3, .int 2), (0, .ref (ad G 44)), (1, .int i), (2, .int j)] [.long (gL σ 52 ((3 * i) + 1).toNatClampNeg), .long ((gL σ 52 ((3 * i) + 0).toNatClampNeg) * (gL σ 52 ((3 * j) + 1).toNatClampNeg)), .int 2, .ref (ad G 53)] (sL (sL σ 53 0 (((gL σ 52 ((3 * i) + 1).toNatClampNeg) * (gL σ 52 ((3 * j) + 2).toNatClampNeg)) - ((gL σ 52 ((3 * i) + 2).toNatClampNeg) * (gL σ 52 ((3 * j) + 1).toNatClampNeg)))) 53 1 (((gL σ 52 ((3 * i) + 2).toNatClampNeg) * (gL σ 52 ((3 * j) + 0).toNatClampNeg)) - ((gL σ 52 ((3 * i) + 0).toNatClampNeg) * (gL σ 52 ((3 * j) + 2).toNatClampNeg)))) 0 0
        refine h_aload_n C 1 dX11_across_55 rfl rfl ?_
        refine gfX11_41 C (ty_44 hY) dX11_across_56 ?_
        refine h_tref (b := 52) (rf_44_10 hY) ?_
        refine h_iconst C 3 dX11_across_59 (by decide) ?_
        refine h_iload_n C 3 dX11_across_60 rfl rfl ?_
        refine h_imul C dX11_across_61 ?_
        refine h_iload_n C 0 dX11_across_62 rfl rfl ?_
        refine h_iconst C 1 dX11_across_63 (by decide) ?_
        refine h_iadd C dX11_across_64 ?_
        show hW _ _ _ _ _ _ _ _ _ _ _ _ _ 65 [(3, .int 2), (0, .ref (ad G 44)), (1, .int i), (2, .int j)] [.int 3, .int (3 * j), .ref (ad G 52), .long (gL σ 52 ((3 * i) + 1).toNatClampNeg), .long ((gL σ 52 ((3 * i) + 0).toNatClampNeg) * (gL σ 52 ((3 * j) + 1).toNatClampNeg)), .int 2, .ref (ad G 53)] (sL (sL σ 53 0 (((gL σ 52 ((3 * i) + 1).toNatClampNeg) * (gL σ 52 ((3 * j) + 2).toNatClampNeg)) - ((gL σ 52 ((3 * i) + 2).toNatClampNeg) * (gL σ 52 ((3 * j) + 1).toNatClampNeg)))) 53 1 (((gL σ 52 ((3 * i) + 2).toNatClampNeg) * (gL σ 52 ((3 * j) + 0).toNatClampNeg)) - ((gL σ 52 ((3 * i) + 0).toNatClampNeg) * (gL σ 52 ((3 * j) + 2).toNatClampNeg)))) 0 0
        refine h_iconst C 3 dX11_across_65 (by decide) ?_
        refine h_irem C dX11_across_66 (by decide) ?_
        show hW _ _ _ _ _ _ _ _ _ _ _ _ _ 67 [(3, .int 2), (0, .ref (ad G 44)), (1, .int i), (2, .int j)] [.int 0, .int (3 * j), .ref (ad G 52), .long (gL σ 52 ((3 * i) + 1).toNatClampNeg), .long ((gL σ 52 ((3 * i) + 0).toNatClampNeg) * (gL σ 52 ((3 * j) + 1).toNatClampNeg)), .int 2, .ref (ad G 53)] (sL (sL σ 53 0 (((gL σ 52 ((3 * i) + 1).toNatClampNeg) * (gL σ 52 ((3 * j) + 2).toNatClampNeg)) - ((gL σ 52 ((3 * i) + 2).toNatClampNeg) * (gL σ 52 ((3 * j) + 1).toNatClampNeg)))) 53 1 (((gL σ 52 ((3 * i) + 2).toNatClampNeg) * (gL σ 52 ((3 * j) + 0).toNatClampNeg)) - ((gL σ 52 ((3 * i) + 0).toNatClampNeg) * (gL σ 52 ((3 * j) + 2).toNatClampNeg)))) 0 0
        refine h_iadd C dX11_across_67 ?_
        refine h_lald C (ty_52 hY) (t30z hj.1 hj.2) dX11_across_68 ?_
        show hW _ _ _ _ _ _ _ _ _ _ _ _ _ 69 [(3, .int 2), (0, .ref (ad G 44)), (1, .int i), (2, .int j)] [.long (gL σ 52 ((3 * j) + 0).toNatClampNeg), .long (gL σ 52 ((3 * i) + 1).toNatClampNeg), .long ((gL σ 52 ((3 * i) + 0).toNatClampNeg) * (gL σ 52 ((3 * j) + 1).toNatClampNeg)), .int 2, .ref (ad G 53)] (sL (sL σ 53 0 (((gL σ 52 ((3 * i) + 1).toNatClampNeg) * (gL σ 52 ((3 * j) + 2).toNatClampNeg)) - ((gL σ 52 ((3 * i) + 2).toNatClampNeg) * (gL σ 52 ((3 * j) + 1).toNatClampNeg)))) 53 1 (((gL σ 52 ((3 * i) + 2).toNatClampNeg) * (gL σ 52 ((3 * j) + 0).toNatClampNeg)) - ((gL σ 52 ((3 * i) + 0).toNatClampNeg) * (gL σ 52 ((3 * j) + 2).toNatClampNeg)))) 0 0
        refine h_lmul C dX11_across_69 ?_
        refine h_lsub C dX11_across_70 ?_
        refine h_last C _ (ty_53 hY) (vp32 (N := 3) (by decide) (by decide) (by decide)) dX11_across_71 rfl ?_
        show hW _ _ _ _ _ _ _ _ _ _ _ _ _ 72 [(3, .int 2), (0, .ref (ad G 44)), (1, .int i), (2, .int j)] [] (sL (sL (sL σ 53 0 (((gL σ 52 ((3 * i) + 1).toNatClampNeg) * (gL σ 52 ((3 * j) + 2).toNatClampNeg)) - ((gL σ 52 ((3 * i) + 2).toNatClampNeg) * (gL σ 52 ((3 * j) + 1).toNatClampNeg)))) 53 1 (((gL σ 52 ((3 * i) + 2).toNatClampNeg) * (gL σ 52 ((3 * j) + 0).toNatClampNeg)) - ((gL σ 52 ((3 * i) + 0).toNatClampNeg) * (gL σ 52 ((3 * j) + 2).toNatClampNeg)))) 53 2 (((gL σ 52 ((3 * i) + 0).toNatClampNeg) * (gL σ 52 ((3 * j) + 1).toNatClampNeg)) - ((gL σ 52 ((3 * i) + 1).toNatClampNeg) * (gL σ 52 ((3 * j) + 0).toNatClampNeg)))) 0 0
        refine h_iinc C [(3, .int 3), (0, .ref (ad G 44)), (1, .int i), (2, .int j)] 0 3 dX11_across_72 rfl rfl (by decide) rfl ?_
        refine h_goto C 2 dX11_across_75 (by decide) ?_
        refine h_iload_n C 0 dX11_across_2 rfl rfl ?_
        refine h_iconst C 3 dX11_across_3 (by decide) ?_
        refine h_icmp_ge C 78 dX11_across_4 (by decide) (fun c_4 => ?_) (fun c_4 => ?_)
        · refine h_aload_n C 1 dX11_across_78 rfl rfl ?_
          refine gfX11_45 C (ty_44 hY) dX11_across_79 ?_
          refine h_tref (b := 53) (rf_44_11 hY) ?_
          refine h_iconst C 0 dX11_across_82 (by decide) ?_
          refine h_lald C (ty_53 hY) (vp32 (N := 3) (by decide) (by decide) (by decide)) dX11_across_83 ?_
          show hW _ _ _ _ _ _ _ _ _ _ _ _ _ 84 [(3, .int 3), (0, .ref (ad G 44)), (1, .int i), (2, .int j)] [.long (((gL σ 52 ((3 * i) + 1).toNatClampNeg) * (gL σ 52 ((3 * j) + 2).toNatClampNeg)) - ((gL σ 52 ((3 * i) + 2).toNatClampNeg) * (gL σ 52 ((3 * j) + 1).toNatClampNeg)))] (sL (sL (sL σ 53 0 (((gL σ 52 ((3 * i) + 1).toNatClampNeg) * (gL σ 52 ((3 * j) + 2).toNatClampNeg)) - ((gL σ 52 ((3 * i) + 2).toNatClampNeg) * (gL σ 52 ((3 * j) + 1).toNatClampNeg)))) 53 1 (((gL σ 52 ((3 * i) + 2).toNatClampNeg) * (gL σ 52 ((3 * j) + 0).toNatClampNeg)) - ((gL σ 52 ((3 * i) + 0).toNatClampNeg) * (gL σ 52 ((3 * j) + 2).toNatClampNeg)))) 53 2 (((gL σ 52 ((3 * i) + 0).toNatClampNeg) * (gL σ 52 ((3 * j) + 1).toNatClampNeg)) - ((gL σ 52 ((3 * i) + 1).toNatClampNeg) * (gL σ 52 ((3 * j) + 0).toNatClampNeg)))) 0 0
          refine h_lconst C 0 dX11_across_84 rfl ?_
          refine h_lcmp C dX11_across_85 ?_
          refine h_if_ne C 111 dX11_across_86 (by decide) (fun c_86 => ?_) (fun c_86 => ?_)
          · refine h_iconst C 1 dX11_across_111 (by decide) ?_
            refine h_goto C 116 dX11_across_112 (by decide) ?_
            refine h_zret C rfl (by decide) (Nat.zero_le _) (Nat.zero_le _) dX11_across_116 ?_
            have hi0 := q0z (ρ := gL σ 52) (i := i)
            have hj0 := q0z (ρ := gL σ 52) (i := j)
            refine ⟨⟨_, rfl, ?_⟩, ?_⟩
            · exact isB1 (fun q => lg_n c_86 (congrArg (fun z : Int64 × Int64 × Int64 => z.1) q))
            · unfold acrF
              rw [hi0, hj0]
              rfl
          · refine h_aload_n C 1 dX11_across_89 rfl rfl ?_
            refine gfX11_45 C (ty_44 hY) dX11_across_90 ?_
            refine h_tref (b := 53) (rf_44_11 hY) ?_
            refine h_iconst C 1 dX11_across_93 (by decide) ?_
            refine h_lald C (ty_53 hY) (vp32 (N := 3) (by decide) (by decide) (by decide)) dX11_across_94 ?_
            show hW _ _ _ _ _ _ _ _ _ _ _ _ _ 95 [(3, .int 3), (0, .ref (ad G 44)), (1, .int i), (2, .int j)] [.long (((gL σ 52 ((3 * i) + 2).toNatClampNeg) * (gL σ 52 ((3 * j) + 0).toNatClampNeg)) - ((gL σ 52 ((3 * i) + 0).toNatClampNeg) * (gL σ 52 ((3 * j) + 2).toNatClampNeg)))] (sL (sL (sL σ 53 0 (((gL σ 52 ((3 * i) + 1).toNatClampNeg) * (gL σ 52 ((3 * j) + 2).toNatClampNeg)) - ((gL σ 52 ((3 * i) + 2).toNatClampNeg) * (gL σ 52 ((3 * j) + 1).toNatClampNeg)))) 53 1 (((gL σ 52 ((3 * i) + 2).toNatClampNeg) * (gL σ 52 ((3 * j) + 0).toNatClampNeg)) - ((gL σ 52 ((3 * i) + 0).toNatClampNeg) * (gL σ 52 ((3 * j) + 2).toNatClampNeg)))) 53 2 (((gL σ 52 ((3 * i) + 0).toNatClampNeg) * (gL σ 52 ((3 * j) + 1).toNatClampNeg)) - ((gL σ 52 ((3 * i) + 1).toNatClampNeg) * (gL σ 52 ((3 * j) + 0).toNatClampNeg)))) 0 0
            refine h_lconst C 0 dX11_across_95 rfl ?_
            refine h_lcmp C dX11_across_96 ?_
            refine h_if_ne C 111 dX11_across_97 (by decide) (fun c_97 => ?_) (fun c_97 => ?_)
            · refine h_iconst C 1 dX11_across_111 (by decide) ?_
              refine h_goto C 116 dX11_across_112 (by decide) ?_
              refine h_zret C rfl (by decide) (Nat.zero_le _) (Nat.zero_le _) dX11_across_116 ?_
              have hi0 := q0z (ρ := gL σ 52) (i := i)
              have hj0 := q0z (ρ := gL σ 52) (i := j)
              refine ⟨⟨_, rfl, ?_⟩, ?_⟩
              · rw [hi0, hj0] at c_97
                exact isB1 (fun q => lg_n c_97 (congrArg (fun z : Int64 × Int64 × Int64 => z.2.1) q))
              · unfold acrF
                rw [hi0, hj0]
                rfl
            · refine h_aload_n C 1 dX11_across_100 rfl rfl ?_
              refine gfX11_45 C (ty_44 hY) dX11_across_101 ?_
              refine h_tref (b := 53) (rf_44_11 hY) ?_
              refine h_iconst C 2 dX11_across_104 (by decide) ?_
              refine h_lald C (ty_53 hY) (vp32 (N := 3) (by decide) (by decide) (by decide)) dX11_across_105 ?_
              show hW _ _ _ _ _ _ _ _ _ _ _ _ _ 106 [(3, .int 3), (0, .ref (ad G 44)), (1, .int i), (2, .int j)] [.long (((gL σ 52 ((3 * i) + 0).toNatClampNeg) * (gL σ 52 ((3 * j) + 1).toNatClampNeg)) - ((gL σ 52 ((3 * i) + 1).toNatClampNeg) * (gL σ 52 ((3 * j) + 0).toNatClampNeg)))] (sL (sL (sL σ 53 0 (((gL σ 52 ((3 * i) + 1).toNatClampNeg) * (gL σ 52 ((3 * j) + 2).toNatClampNeg)) - ((gL σ 52 ((3 * i) + 2).toNatClampNeg) * (gL σ 52 ((3 * j) + 1).toNatClampNeg)))) 53 1 (((gL σ 52 ((3 * i) + 2).toNatClampNeg) * (gL σ 52 ((3 * j) + 0).toNatClampNeg)) - ((gL σ 52 ((3 * i) + 0).toNatClampNeg) * (gL σ 52 ((3 * j) + 2).toNatClampNeg)))) 53 2 (((gL σ 52 ((3 * i) + 0).toNatClampNeg) * (gL σ 52 ((3 * j) + 1).toNatClampNeg)) - ((gL σ 52 ((3 * i) + 1).toNatClampNeg) * (gL σ 52 ((3 * j) + 0).toNatClampNeg)))) 0 0
              refine h_lconst C 0 dX11_across_106 rfl ?_
              refine h_lcmp C dX11_across_107 ?_
              refine h_if_eq C 115 dX11_across_108 (by decide) (fun c_108 => ?_) (fun c_108 => ?_)
              · refine h_iconst C 0 dX11_across_115 (by decide) ?_
                refine h_zret C rfl (by decide) (Nat.zero_le _) (Nat.zero_le _) dX11_across_116 ?_
                have hi0 := q0z (ρ := gL σ 52) (i := i)
                have hj0 := q0z (ρ := gL σ 52) (i := j)
                refine ⟨⟨_, rfl, ?_⟩, ?_⟩
                · rw [hi0, hj0] at c_97 c_108
                  exact isB0 (fun q => q (Prod.ext (lg_0 c_86) (Prod.ext (lg_0 c_97) (lg_0 c_108))))
                · unfold acrF
                  rw [hi0, hj0]
                  rfl
              · refine h_iconst C 1 dX11_across_111 (by decide) ?_
                refine h_goto C 116 dX11_across_112 (by decide) ?_
                refine h_zret C rfl (by decide) (Nat.zero_le _) (Nat.zero_le _) dX11_across_116 ?_
                have hi0 := q0z (ρ := gL σ 52) (i := i)
                have hj0 := q0z (ρ := gL σ 52) (i := j)
                refine ⟨⟨_, rfl, ?_⟩, ?_⟩
                · rw [hi0, hj0] at c_108
                  exact isB1 (fun q => lg_n c_108 (congrArg (fun z : Int64 × Int64 × Int64 => z.2.2) q))
                · unfold acrF
                  rw [hi0, hj0]
                  rfl
        · exact absurd c_4 (by decide)
set_option maxRecDepth 100000 in
set_option maxHeartbeats 4000000 in
theorem m_X11_against {G : ha_G} {l : Launch} {σ : ha_St} {i : Int32} (hY : LY σ) (hi : 0 ≤ i ∧ i < 30) : hM G l yX11_against cX11_against 2 (some .long) { frames := 0, cells := 0, slots := 0, locals := 0 } [.ref (ad G 44), .int i] σ (fun v σ' => v = some (.long (dtR (cr3 σ) (gL σ 52) i)) ∧ σ' = σ) := by
  refine hM_ofF [(0, .ref (ad G 44)), (1, .int i)] (by decide +kernel) (Nat.le_of_ble_eq_true rfl) rfl ?_
  intro p e s m args below meth c0 C hin
  refine h_aload_n C 0 dX11_against_0 rfl rfl ?_
  refine gfX11_45 C (ty_44 hY) dX11_against_1 ?_
  refine h_tref (b := 53) (rf_44_11 hY) ?_
  refine h_iconst C 0 dX11_against_4 (by decide) ?_
  refine h_lald C (ty_53 hY) (vp32 (N := 3) (by decide) (by decide) (by decide)) dX11_against_5 ?_
  refine h_aload_n C 0 dX11_against_6 rfl rfl ?_
  refine gfX11_41 C (ty_44 hY) dX11_against_7 ?_
  refine h_tref (b := 52) (rf_44_10 hY) ?_
  refine h_iconst C 3 dX11_against_10 (by decide) ?_
  refine h_iload_n C 1 dX11_against_11 rfl rfl ?_
  refine h_imul C dX11_against_12 ?_
  refine h_lald C (ty_52 hY) (t30 hi.1 hi.2).1 dX11_against_13 ?_
  refine h_lmul C dX11_against_14 ?_
  refine h_aload_n C 0 dX11_against_15 rfl rfl ?_
  refine gfX11_45 C (ty_44 hY) dX11_against_16 ?_
  refine h_tref (b := 53) (rf_44_11 hY) ?_
  refine h_iconst C 1 dX11_against_19 (by decide) ?_
  refine h_lald C (ty_53 hY) (vp32 (N := 3) (by decide) (by decide) (by decide)) dX11_against_20 ?_
  refine h_aload_n C 0 dX11_against_21 rfl rfl ?_
  refine gfX11_41 C (ty_44 hY) dX11_against_22 ?_
  refine h_tref (b := 52) (rf_44_10 hY) ?_
  refine h_iconst C 3 dX11_against_25 (by decide) ?_
  refine h_iload_n C 1 dX11_against_26 rfl rfl ?_
  refine h_imul C dX11_against_27 ?_
  refine h_iconst C 1 dX11_against_28 (by decide) ?_
  refine h_iadd C dX11_against_29 ?_
  refine h_lald C (ty_52 hY) (t30 hi.1 hi.2).2.1 dX11_against_30 ?_
  refine h_lmul C dX11_against_31 ?_
  refine h_ladd C dX11_against_32 ?_
  refine h_aload_n C 0 dX11_against_33 rfl rfl ?_
  refine gfX11_45 C (ty_44 hY) dX11_against_34 ?_
  refine h_tref (b := 53) (rf_44_11 hY) ?_
  refine h_iconst C 2 dX11_against_37 (by decide) ?_
  refine h_lald C (ty_53 hY) (vp32 (N := 3) (by decide) (by decide) (by decide)) dX11_against_38 ?_
  refine h_aload_n C 0 dX11_against_39 rfl rfl ?_
  refine gfX11_41 C (ty_44 hY) dX11_against_40 ?_
  refine h_tref (b := 52) (rf_44_10 hY) ?_
  refine h_iconst C 3 dX11_against_43 (by decide) ?_
  refine h_iload_n C 1 dX11_against_44 rfl rfl ?_
  refine h_imul C dX11_against_45 ?_
  refine h_iconst C 2 dX11_against_46 (by decide) ?_
  refine h_iadd C dX11_against_47 ?_
  refine h_lald C (ty_52 hY) (t30 hi.1 hi.2).2.2 dX11_against_48 ?_
  refine h_lmul C dX11_against_49 ?_
  refine h_ladd C dX11_against_50 ?_
  refine h_lret C rfl (Nat.zero_le _) (Nat.zero_le _) dX11_against_51 ?_
  exact ⟨rfl, rfl⟩
set_option maxRecDepth 100000 in
set_option maxHeartbeats 4000000 in
theorem m_X11_isNought {G : ha_G} {l : Launch} {σ : ha_St} {i : Int32} (hY : LY σ) (hi : 0 ≤ i ∧ i < 30) : hM G l yX11_isNought cX11_isNought 2 (some .boolean) { frames := 0, cells := 0, slots := 0, locals := 0 } [.ref (ad G 44), .int i] σ (fun v σ' => (∃ r, v = some (.int r) ∧ isB r (nzR (gL σ 52) i)) ∧ σ' = σ) := by
  refine hM_ofF [(0, .ref (ad G 44)), (1, .int i)] (by decide +kernel) (Nat.le_of_ble_eq_true rfl) rfl ?_
  intro p e s m args below meth c0 C hin
  refine h_aload_n C 0 dX11_isNought_0 rfl rfl ?_
  refine gfX11_41 C (ty_44 hY) dX11_isNought_1 ?_
  refine h_tref (b := 52) (rf_44_10 hY) ?_
  refine h_iconst C 3 dX11_isNought_4 (by decide) ?_
  refine h_iload_n C 1 dX11_isNought_5 rfl rfl ?_
  refine h_imul C dX11_isNought_6 ?_
  refine h_lald C (ty_52 hY) (t30 hi.1 hi.2).1 dX11_isNought_7 ?_
  refine h_lconst C 0 dX11_isNought_8 rfl ?_
  refine h_lcmp C dX11_isNought_9 ?_
  refine h_if_ne C 47 dX11_isNought_10 (by decide) (fun c_10 => ?_) (fun c_10 => ?_)
  · refine h_iconst C 0 dX11_isNought_47 (by decide) ?_
    refine h_zret C rfl (by decide) (Nat.zero_le _) (Nat.zero_le _) dX11_isNought_48 ?_
    exact ⟨⟨_, rfl, isB0 (fun q => lg_n c_10 q.1)⟩, rfl⟩
  · refine h_aload_n C 0 dX11_isNought_13 rfl rfl ?_
    refine gfX11_41 C (ty_44 hY) dX11_isNought_14 ?_
    refine h_tref (b := 52) (rf_44_10 hY) ?_
    refine h_iconst C 3 dX11_isNought_17 (by decide) ?_
    refine h_iload_n C 1 dX11_isNought_18 rfl rfl ?_
    refine h_imul C dX11_isNought_19 ?_
    refine h_iconst C 1 dX11_isNought_20 (by decide) ?_
    refine h_iadd C dX11_isNought_21 ?_
    refine h_lald C (ty_52 hY) (t30 hi.1 hi.2).2.1 dX11_isNought_22 ?_
    refine h_lconst C 0 dX11_isNought_23 rfl ?_
    refine h_lcmp C dX11_isNought_24 ?_
    refine h_if_ne C 47 dX11_isNought_25 (by decide) (fun c_25 => ?_) (fun c_25 => ?_)
    · refine h_iconst C 0 dX11_isNought_47 (by decide) ?_
      refine h_zret C rfl (by decide) (Nat.zero_le _) (Nat.zero_le _) dX11_isNought_48 ?_
      exact ⟨⟨_, rfl, isB0 (fun q => lg_n c_25 q.2.1)⟩, rfl⟩
    · refine h_aload_n C 0 dX11_isNought_28 rfl rfl ?_
      refine gfX11_41 C (ty_44 hY) dX11_isNought_29 ?_
      refine h_tref (b := 52) (rf_44_10 hY) ?_
      refine h_iconst C 3 dX11_isNought_32 (by decide) ?_
      refine h_iload_n C 1 dX11_isNought_33 rfl rfl ?_
      refine h_imul C dX11_isNought_34 ?_
      refine h_iconst C 2 dX11_isNought_35 (by decide) ?_
      refine h_iadd C dX11_isNought_36 ?_
      refine h_lald C (ty_52 hY) (t30 hi.1 hi.2).2.2 dX11_isNought_37 ?_
      refine h_lconst C 0 dX11_isNought_38 rfl ?_
      refine h_lcmp C dX11_isNought_39 ?_
      refine h_if_ne C 47 dX11_isNought_40 (by decide) (fun c_40 => ?_) (fun c_40 => ?_)
      · refine h_iconst C 0 dX11_isNought_47 (by decide) ?_
        refine h_zret C rfl (by decide) (Nat.zero_le _) (Nat.zero_le _) dX11_isNought_48 ?_
        exact ⟨⟨_, rfl, isB0 (fun q => lg_n c_40 q.2.2)⟩, rfl⟩
      · refine h_iconst C 1 dX11_isNought_43 (by decide) ?_
        refine h_goto C 48 dX11_isNought_44 (by decide) ?_
        refine h_zret C rfl (by decide) (Nat.zero_le _) (Nat.zero_le _) dX11_isNought_48 ?_
        exact ⟨⟨_, rfl, isB1 ⟨lg_0 c_10, lg_0 c_25, lg_0 c_40⟩⟩, rfl⟩
def sdP (c : Int64 × Int64 × Int64) (ρ : Nat → Int64) (n : Int32) : Prop := AL n (fun i => 0 ≤ dtR c ρ i)
def sdM (c : Int64 × Int64 × Int64) (ρ : Nat → Int64) (n : Int32) : Prop := AL n (fun i => dtR c ρ i ≤ 0)
def sdQ (c : Int64 × Int64 × Int64) (ρ : Nat → Int64) (n r : Int32) : Prop := (r = 1 ∧ sdP c ρ n) ∨ (r = -1 ∧ ¬ sdP c ρ n ∧ sdM c ρ n) ∨ (r = 0 ∧ ¬ sdP c ρ n ∧ ¬ sdM c ρ n)
theorem isB_and {r r' : Int32} {P Q : Prop} (h : isB r P) (h' : isB r' (P ∧ Q)) : True := trivial
theorem isB_i {r : Int32} {P Q : Prop} (h : isB r P) (e : P ↔ Q) : isB r Q := by
  rcases h with ⟨a, b⟩ | ⟨a, b⟩
  · exact Or.inl ⟨a, e.mp b⟩
  · exact Or.inr ⟨a, fun q => b (e.mpr q)⟩
theorem lg_gt0 {x : Int64} (h : 0 < lg_cmp x 0) : 0 < x := by
  rcases lg_cases x 0 with ⟨q, -⟩ | ⟨-, z⟩ | ⟨-, z⟩
  · exact q
  · rw [z] at h; exact absurd h (by decide)
  · rw [z] at h; exact absurd h (by decide)
theorem lg_le0n {x : Int64} (h : ¬ 0 < lg_cmp x 0) : x ≤ 0 := by
  rcases lg_cases x 0 with ⟨-, z⟩ | ⟨q, -⟩ | ⟨q, -⟩
  · rw [z] at h; exact absurd (by decide) h
  · rw [q]; exact Int64.le_refl _
  · exact Int64.le_of_lt q
set_option maxRecDepth 100000 in
set_option maxHeartbeats 4000000 in
theorem m_X11_sideOf {G : ha_G} {l : Launch} {σ : ha_St} (hY : LY σ) (hm0 : 0 ≤ gI σ 44 9) (hm1 : gI σ 44 9 ≤ 30) : hM G l yX11_sideOf cX11_sideOf 6 (some .int) { frames := 1, cells := 0, slots := 0, locals := 21 } [.ref (ad G 44)] σ (fun v σ' => (∃ r, v = some (.int r) ∧ sdQ (cr3 σ) (gL σ 52) (gI σ 44 9) r) ∧ σ' = σ) := by
  refine hM_ofF [(0, .ref (ad G 44))] (by decide +kernel) (Nat.le_of_ble_eq_true rfl) rfl ?_
  intro p e s m args below meth c0 C hin
  refine h_iconst C 1 dX11_sideOf_0 (by decide) ?_
  refine h_istore_n C [(1, .int 1), (0, .ref (ad G 44))] dX11_sideOf_1 rfl (by decide) rfl ?_
  refine h_iconst C 1 dX11_sideOf_2 (by decide) ?_
  refine h_istore_n C [(2, .int 1), (1, .int 1), (0, .ref (ad G 44))] dX11_sideOf_3 rfl (by decide) rfl ?_
  refine h_iconst C 0 dX11_sideOf_4 (by decide) ?_
  refine h_istore_n C [(3, .int 0), (2, .int 1), (1, .int 1), (0, .ref (ad G 44))] dX11_sideOf_5 rfl (by decide) rfl ?_
  refine h_sub [3, 2, 1, 0] rfl ?_
  refine h_loop (α := Int32 × Int32 × Int32) (fun (a, b, i) => 0 ≤ i ∧ i ≤ gI σ 44 9 ∧ isB a (sdP (cr3 σ) (gL σ 52) i) ∧ isB b (sdM (cr3 σ) (gL σ 52) i)) (fun (a, b, i) => tm (gI σ 44 9) i) (fun (a, b, i) => [(0, .ref (ad G 44)), (1, .int a), (2, .int b), (3, .int i)]) (fun (a, b, i) => []) (fun (a, b, i) => σ) (fun (a, b, i) => 0) (fun (a, b, i) => 0) ?_ (1, 1, 0) ?_
  · rintro ⟨a, b, i⟩ hI ih
    show hW _ _ _ _ _ _ _ _ _ _ _ _ _ 6 [(0, .ref (ad G 44)), (1, .int a), (2, .int b), (3, .int i)] [] σ 0 0
    refine h_iload_n C 3 dX11_sideOf_6 rfl rfl ?_
    refine h_aload_n C 0 dX11_sideOf_7 rfl rfl ?_
    refine gfX11_38 C (ty_44 hY) dX11_sideOf_8 ?_
    refine h_icmp_ge C 61 dX11_sideOf_11 (by decide) (fun c_11 => ?_) (fun c_11 => ?_)
    · refine h_iload_n C 1 dX11_sideOf_61 rfl rfl ?_
      refine h_if_eq C 69 dX11_sideOf_62 (by decide) (fun c_62 => ?_) (fun c_62 => ?_)
      · refine h_iload_n C 2 dX11_sideOf_69 rfl rfl ?_
        refine h_if_eq C 77 dX11_sideOf_70 (by decide) (fun c_70 => ?_) (fun c_70 => ?_)
        · refine h_iconst C 0 dX11_sideOf_77 (by decide) ?_
          refine h_iret C rfl (Nat.zero_le _) (Nat.zero_le _) dX11_sideOf_78 ?_
          have he := eq_end hI.2.1 (Int32.not_lt.mpr c_11)
          rw [he] at hI
          exact ⟨⟨_, rfl, Or.inr (Or.inr ⟨rfl, isB_0 hI.2.2.1 c_62, isB_0 hI.2.2.2 c_70⟩)⟩, rfl⟩
        · refine h_iconst C (-1) dX11_sideOf_73 (by decide) ?_
          refine h_goto C 78 dX11_sideOf_74 (by decide) ?_
          refine h_iret C rfl (Nat.zero_le _) (Nat.zero_le _) dX11_sideOf_78 ?_
          have he := eq_end hI.2.1 (Int32.not_lt.mpr c_11)
          rw [he] at hI
          exact ⟨⟨_, rfl, Or.inr (Or.inl ⟨rfl, isB_0 hI.2.2.1 c_62, isB_1 hI.2.2.2 c_70⟩)⟩, rfl⟩
      · refine h_iconst C 1 dX11_sideOf_65 (by decide) ?_
        refine h_goto C 78 dX11_sideOf_66 (by decide) ?_
        refine h_iret C rfl (Nat.zero_le _) (Nat.zero_le _) dX11_sideOf_78 ?_
        have he := eq_end hI.2.1 (Int32.not_lt.mpr c_11)
        rw [he] at hI
        exact ⟨⟨_, rfl, Or.inl ⟨rfl, isB_1 hI.2.2.1 c_62⟩⟩, rfl⟩
    · have hil := Int32.not_le.mp c_11
      have hib : 0 ≤ i ∧ i < 30 := ⟨hI.1, Int32.lt_of_lt_of_le hil hm1⟩
      refine h_aload_n C 0 dX11_sideOf_14 rfl rfl ?_
      refine h_iload_n C 3 dX11_sideOf_15 rfl rfl ?_
      refine h_callV C (m_X11_against hY hib) caX11_179 kX11 (ty_44 hY) ⟨by decide, by decide, by decide, by decide⟩ rfl rfl (Nat.le_of_ble_eq_true rfl) dX11_sideOf_16 ?_
      rintro v σ' ⟨rfl, h2⟩; rw [h2]; clear h2
      show hW _ _ _ _ _ _ _ _ _ _ _ _ _ 19 [(0, .ref (ad G 44)), (1, .int a), (2, .int b), (3, .int i)] [.long (dtR (cr3 σ) (gL σ 52) i)] σ 0 0
      refine h_lstore C [(4, .long (dtR (cr3 σ) (gL σ 52) i)), (0, .ref (ad G 44)), (1, .int a), (2, .int b), (3, .int i)] dX11_sideOf_19 (by decide) rfl ?_
      refine h_join (α := Int32) 37 (fun a2 => isB a2 (sdP (cr3 σ) (gL σ 52) (i + 1))) (fun a2 => [(0, .ref (ad G 44)), (2, .int b), (3, .int i), (4, .long (dtR (cr3 σ) (gL σ 52) i))]) (fun a2 => [.int a2]) (fun a2 => σ) (fun a2 => 0) (fun a2 => 0) ?_ (fun J_1 => ?_)
      · rintro a2 hJ
        show hW _ _ _ _ _ _ _ _ _ _ _ _ _ 37 [(0, .ref (ad G 44)), (2, .int b), (3, .int i), (4, .long (dtR (cr3 σ) (gL σ 52) i))] [.int a2] σ 0 0
        refine h_istore_n C [(1, .int a2), (0, .ref (ad G 44)), (2, .int b), (3, .int i), (4, .long (dtR (cr3 σ) (gL σ 52) i))] dX11_sideOf_37 rfl (by decide) rfl ?_
        have hJa := hJ
        refine h_join (α := Int32) 54 (fun b2 => isB b2 (sdM (cr3 σ) (gL σ 52) (i + 1))) (fun b2 => [(0, .ref (ad G 44)), (1, .int a2), (3, .int i)]) (fun b2 => [.int b2]) (fun b2 => σ) (fun b2 => 0) (fun b2 => 0) ?_ (fun J_2 => ?_)
        · rintro b2 hJ
          show hW _ _ _ _ _ _ _ _ _ _ _ _ _ 54 [(0, .ref (ad G 44)), (1, .int a2), (3, .int i)] [.int b2] σ 0 0
          have hJb := hJ
          refine h_istore_n C [(2, .int b2), (0, .ref (ad G 44)), (1, .int a2), (3, .int i)] dX11_sideOf_54 rfl (by decide) rfl ?_
          refine h_iinc C [(3, .int (i + 1)), (2, .int b2), (0, .ref (ad G 44)), (1, .int a2)] 3 (i + 1) dX11_sideOf_55 rfl rfl (by decide) rfl ?_
          refine h_goto C 6 dX11_sideOf_58 (by decide) ?_
          refine h_sub [2, 3, 1, 0] rfl ?_
          refine ih (a2, b2, (i + 1)) ?_ ?_
          · exact ⟨(le_succ hI.1 hil).1, (le_succ hI.1 hil).2, hJa, hJb⟩
          · exact tm_lt hil
        · refine h_iload_n C 2 dX11_sideOf_38 rfl rfl ?_
          refine h_if_eq C 53 dX11_sideOf_39 (by decide) (fun c_39 => ?_) (fun c_39 => ?_)
          · refine h_iconst C 0 dX11_sideOf_53 (by decide) ?_
            refine h_sub [1, 0, 3] rfl ?_
            refine J_2 0 ?_
            refine isB_i ?_ (AL_i hI.1 hil).symm
            exact isB0 (fun q => isB_0 hI.2.2.2 c_39 q.1)
          · refine h_lload C 4 dX11_sideOf_42 rfl ?_
            refine h_lconst C 0 dX11_sideOf_44 rfl ?_
            refine h_lcmp C dX11_sideOf_45 ?_
            refine h_if_gt C 53 dX11_sideOf_46 (by decide) (fun c_46 => ?_) (fun c_46 => ?_)
            · refine h_iconst C 0 dX11_sideOf_53 (by decide) ?_
              refine h_sub [1, 0, 3] rfl ?_
              refine J_2 0 ?_
              refine isB_i ?_ (AL_i hI.1 hil).symm
              exact isB0 (fun q => absurd q.2 (Int64.not_le.mpr (lg_gt0 c_46)))
            · refine h_iconst C 1 dX11_sideOf_49 (by decide) ?_
              refine h_goto C 54 dX11_sideOf_50 (by decide) ?_
              refine h_sub [1, 0, 3] rfl ?_
              refine J_2 1 ?_
              refine isB_i ?_ (AL_i hI.1 hil).symm
              exact isB1 ⟨isB_1 hI.2.2.2 c_39, lg_le0n c_46⟩
      · refine h_iload_n C 2 dX11_sideOf_21 rfl rfl ?_
        refine h_if_eq C 36 dX11_sideOf_22 (by decide) (fun c_22 => ?_) (fun c_22 => ?_)
        · refine h_iconst C 0 dX11_sideOf_36 (by decide) ?_
          refine h_sub [1, 3, 4, 0] rfl ?_
          refine J_1 0 ?_
          refine isB_i ?_ (AL_i hI.1 hil).symm
          exact isB0 (fun q => isB_0 hI.2.2.1 c_22 q.1)
        · refine h_lload C 0 dX11_sideOf_25 rfl ?_
          refine h_lconst C 0 dX11_sideOf_27 rfl ?_
          refine h_lcmp C dX11_sideOf_28 ?_
          refine h_if_lt C 36 dX11_sideOf_29 (by decide) (fun c_29 => ?_) (fun c_29 => ?_)
          · refine h_iconst C 0 dX11_sideOf_36 (by decide) ?_
            refine h_sub [1, 3, 4, 0] rfl ?_
            refine J_1 0 ?_
            refine isB_i ?_ (AL_i hI.1 hil).symm
            exact isB0 (fun q => absurd q.2 (Int64.not_le.mpr ((lg_lt0 _).mp c_29)))
          · refine h_iconst C 1 dX11_sideOf_32 (by decide) ?_
            refine h_goto C 37 dX11_sideOf_33 (by decide) ?_
            refine h_sub [1, 3, 4, 0] rfl ?_
            refine J_1 1 ?_
            refine isB_i ?_ (AL_i hI.1 hil).symm
            exact isB1 ⟨isB_1 hI.2.2.1 c_22, Int64.not_lt.mp (fun q => c_29 ((lg_lt0 _).mpr q))⟩
  · exact ⟨by decide, hm0, isB1 AL_0, isB1 AL_0⟩
