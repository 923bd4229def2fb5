/-! ===== the reference: faces, goals ===== -/
abbrev I3 : Type := Int64 × Int64 × Int64
theorem t900_i {i : Int32} (h0 : 0 ≤ i) (h1 : i < 900) : (3 * i).toInt = 3 * i.toInt ∧ (3 * i + 1).toInt = 3 * i.toInt + 1 ∧ (3 * i + 2).toInt = 3 * i.toInt + 2 := by
  have a0 := Int32.le_iff_toInt_le.mp h0
  have a1 := Int32.lt_iff_toInt_lt.mp h1
  rw [Int32.toInt_zero] at a0
  rw [show (900 : Int32).toInt = 900 by decide] at a1
  have e : (3 * i).toInt = 3 * i.toInt := by
    rw [Int32.toInt_mul, show (3 : Int32).toInt = 3 by decide, Int.bmod_eq_of_le (by omega) (by omega)]
  refine ⟨e, ?_, ?_⟩
  · rw [Int32.toInt_add, e, show (1 : Int32).toInt = 1 by decide, Int.bmod_eq_of_le (by omega) (by omega)]
  · rw [Int32.toInt_add, e, show (2 : Int32).toInt = 2 by decide, Int.bmod_eq_of_le (by omega) (by omega)]
theorem t900_n {i : Int32} (h0 : 0 ≤ i) (h1 : i < 900) : (3 * i).toNatClampNeg = 3 * i.toNatClampNeg ∧ (3 * i + 1).toNatClampNeg = 3 * i.toNatClampNeg + 1 ∧ (3 * i + 2).toNatClampNeg = 3 * i.toNatClampNeg + 2 := by
  have e := t900_i h0 h1
  have a0 := Int32.le_iff_toInt_le.mp h0
  rw [Int32.toInt_zero] at a0
  unfold Int32.toNatClampNeg
  rw [e.1, e.2.1, e.2.2]
  omega
theorem t900 {i : Int32} (h0 : 0 ≤ i) (h1 : i < 900) : vp_in (3 * i) 2700 ∧ vp_in (3 * i + 1) 2700 ∧ vp_in (3 * i + 2) 2700 := by
  have e := t900_i h0 h1
  have a0 := Int32.le_iff_toInt_le.mp h0
  have a1 := Int32.lt_iff_toInt_lt.mp h1
  rw [Int32.toInt_zero] at a0
  rw [show (900 : Int32).toInt = 900 by decide] at a1
  rw [vp_in_iff, vp_in_iff, vp_in_iff, e.1, e.2.1, e.2.2]
  omega
theorem t900z {i : Int32} (h0 : 0 ≤ i) (h1 : i < 900) : vp_in (3 * i + 0) 2700 := by
  rw [show 3 * i + 0 = 3 * i by grind]
  exact (t900 h0 h1).1
theorem lg_le {x : Int64} (h : lg_cmp x 0 ≤ 0) : ¬ 0 < x := by
  rcases lg_cases x 0 with ⟨-, z⟩ | ⟨q, -⟩ | ⟨q, -⟩
  · rw [z] at h; exact absurd h (by decide)
  · rw [q]; exact Int64.lt_irrefl
  · exact Int64.not_lt.mpr (Int64.le_of_lt q)
theorem lg_gt {x : Int64} (h : ¬ lg_cmp x 0 ≤ 0) : 0 < x := by
  rcases lg_cases x 0 with ⟨q, -⟩ | ⟨-, z⟩ | ⟨-, z⟩
  · exact q
  · rw [z] at h; exact absurd (by decide) h
  · rw [z] at h; exact absurd (by decide) h
theorem lg_ge {x : Int64} (h : ¬ lg_cmp x 0 < 0) : 0 ≤ x := Int64.not_lt.mp (fun q => h ((lg_lt0 _).mpr q))
theorem lg_e {x y : Int64} (h : lg_cmp x y = 0) : x = y := by
  rcases lg_cases x y with ⟨-, z⟩ | ⟨q, -⟩ | ⟨-, z⟩
  · rw [z] at h; exact absurd h (by decide)
  · exact q
  · rw [z] at h; exact absurd h (by decide)
def fc (φ : Nat → Int64) (f : Int32) : I3 := (q0 φ f, q1 φ f, q2 φ f)
def gl3 (σ : ha_St) : I3 := (gL σ 56 0, gL σ 56 1, gL σ 56 2)
def eqP (a c : I3) : Prop := (a.1 * c.2.1 = a.2.1 * c.1 ∧ a.2.1 * c.2.2 = a.2.2 * c.2.1) ∧ a.2.2 * c.1 = a.1 * c.2.2
def smF (a : I3) (s : Int64) (c : I3) : Prop := eqP a c ∧ (0 < a.1 * s * c.1 ∨ 0 < a.2.1 * s * c.2.1 ∨ 0 < a.2.2 * s * c.2.2)
def alQ (g : I3) (ρ : Nat → Int64) (i : Int32) : Prop := ((g.1 * q1 ρ i = g.2.1 * q0 ρ i ∧ g.2.1 * q2 ρ i = g.2.2 * q1 ρ i) ∧ g.2.2 * q0 ρ i = g.1 * q2 ρ i) ∧ 0 < dtR g ρ i
def tr3 (c u v : I3) : Int64 := c.1 * (u.2.1 * v.2.2 - u.2.2 * v.2.1) + c.2.1 * (u.2.2 * v.1 - u.1 * v.2.2) + c.2.2 * (u.1 * v.2.1 - u.2.1 * v.1)
def dt3 (c g : I3) : Int64 := c.1 * g.1 + c.2.1 * g.2.1 + c.2.2 * g.2.2
def btQ (c g : I3) (ρ : Nat → Int64) (i j : Int32) : Prop := dt3 c g = 0 ∧ 0 ≤ tr3 c g (fc ρ j) ∧ 0 ≤ tr3 c (fc ρ i) g
theorem z3 {a b c : Int64} : 0 < ((0 + (if 0 < a then 1 else 0)) + (if 0 < b then 1 else 0)) + (if 0 < c then (1 : Int64) else 0) ↔ (0 < a ∨ 0 < b ∨ 0 < c) := by
  by_cases h1 : 0 < a <;> by_cases h2 : 0 < b <;> by_cases h3 : 0 < c <;> simp only [h1, h2, h3, if_true, if_false, true_or, or_true, or_false, false_or, iff_true, iff_false] <;> decide
set_option maxRecDepth 100000 in
set_option maxHeartbeats 4000000 in
theorem m_X11_isAlong {G : ha_G} {l : Launch} {σ : ha_St} {i : Int32} (hY : LY σ) (hi : 0 ≤ i ∧ i < 30) : hM G l yX11_isAlong cX11_isAlong 7 (some .boolean) { frames := 0, cells := 0, slots := 0, locals := 0 } [.ref (ad G 44), .int i] σ (fun v σ' => (∃ r, v = some (.int r) ∧ isB r (alQ (gl3 σ) (gL σ 52) i)) ∧ σ' = σ) := by
  refine hM_ofF [(0, .ref (ad G 44)), (1, .int i)] (by decide +kernel) (Nat.le_of_ble_eq_true rfl) rfl ?_
  intro p e s m args below meth c0 C hin
  refine h_iconst C 1 dX11_isAlong_0 (by decide) ?_
  refine h_istore_n C [(2, .int 1), (0, .ref (ad G 44)), (1, .int i)] dX11_isAlong_1 rfl (by decide) rfl ?_
  refine h_lconst C 0 dX11_isAlong_2 rfl ?_
  refine h_lstore_n C [(3, .long 0), (2, .int 1), (0, .ref (ad G 44)), (1, .int i)] dX11_isAlong_3 rfl (by decide) rfl ?_
  refine h_iconst C 0 dX11_isAlong_4 (by decide) ?_
  refine h_istore C [(5, .int 0), (3, .long 0), (2, .int 1), (0, .ref (ad G 44)), (1, .int i)] dX11_isAlong_5 (by decide) rfl ?_
  refine h_iload C 0 dX11_isAlong_7 rfl ?_
  refine h_iconst C 3 dX11_isAlong_9 (by decide) ?_
  refine h_icmp_ge C 101 dX11_isAlong_10 (by decide) (fun c_10 => ?_) (fun c_10 => ?_)
  · exact absurd c_10 (by decide)
  · refine h_iload C 0 dX11_isAlong_13 rfl ?_
    refine h_iconst C 1 dX11_isAlong_15 (by decide) ?_
    refine h_iadd C dX11_isAlong_16 ?_
    show hW _ _ _ _ _ _ _ _ _ _ _ _ _ 17 [(5, .int 0), (3, .long 0), (2, .int 1), (0, .ref (ad G 44)), (1, .int i)] [.int 1] σ 0 0
    refine h_iconst C 3 dX11_isAlong_17 (by decide) ?_
    refine h_irem C dX11_isAlong_18 (by decide) ?_
    show hW _ _ _ _ _ _ _ _ _ _ _ _ _ 19 [(5, .int 0), (3, .long 0), (2, .int 1), (0, .ref (ad G 44)), (1, .int i)] [.int 1] σ 0 0
    refine h_istore C [(6, .int 1), (5, .int 0), (3, .long 0), (2, .int 1), (0, .ref (ad G 44)), (1, .int i)] dX11_isAlong_19 (by decide) rfl ?_
    refine h_join (α := Int32) 72 (fun t0 => isB t0 (gL σ 56 0 * q1 (gL σ 52) i = gL σ 56 1 * q0 (gL σ 52) i)) (fun t0 => [(0, .ref (ad G 44)), (1, .int i), (3, .long 0), (5, .int 0), (6, .int 1)]) (fun t0 => [.int t0]) (fun t0 => σ) (fun t0 => 0) (fun t0 => 0) ?_ (fun J_1 => ?_)
    · rintro t0 hJ0
      show hW _ _ _ _ _ _ _ _ _ _ _ _ _ 72 [(0, .ref (ad G 44)), (1, .int i), (3, .long 0), (5, .int 0), (6, .int 1)] [.int t0] σ 0 0
      refine h_istore_n C [(2, .int t0), (0, .ref (ad G 44)), (1, .int i), (3, .long 0), (5, .int 0), (6, .int 1)] dX11_isAlong_72 rfl (by decide) rfl ?_
      refine h_lload_n C 3 dX11_isAlong_73 rfl rfl ?_
      refine h_aload_n C 1 dX11_isAlong_74 rfl rfl ?_
      refine gfX11_60 C (ty_44 hY) dX11_isAlong_75 ?_
      refine h_tref (b := 56) (rf_44_16 hY) ?_
      refine h_iload C 4 dX11_isAlong_78 rfl ?_
      refine h_lald C (ty_56 hY) (vp32 (N := 3) (by decide) (by decide) (by decide)) dX11_isAlong_80 ?_
      show hW _ _ _ _ _ _ _ _ _ _ _ _ _ 81 [(2, .int t0), (0, .ref (ad G 44)), (1, .int i), (3, .long 0), (5, .int 0), (6, .int 1)] [.long (gL σ 56 0), .long 0] σ 0 0
      refine h_aload_n C 1 dX11_isAlong_81 rfl rfl ?_
      refine gfX11_41 C (ty_44 hY) dX11_isAlong_82 ?_
      refine h_tref (b := 52) (rf_44_10 hY) ?_
      refine h_iconst C 3 dX11_isAlong_85 (by decide) ?_
      refine h_iload_n C 2 dX11_isAlong_86 rfl rfl ?_
      refine h_imul C dX11_isAlong_87 ?_
      refine h_iload C 4 dX11_isAlong_88 rfl ?_
      refine h_iadd C dX11_isAlong_90 ?_
      refine h_lald C (ty_52 hY) (t30z hi.1 hi.2) dX11_isAlong_91 ?_
      refine h_lmul C dX11_isAlong_92 ?_
      refine h_ladd C dX11_isAlong_93 ?_
      refine h_lstore_n C [(3, .long (0 + ((gL σ 56 0) * (gL σ 52 ((3 * i) + 0).toNatClampNeg)))), (2, .int t0), (0, .ref (ad G 44)), (1, .int i), (5, .int 0), (6, .int 1)] dX11_isAlong_94 rfl (by decide) rfl ?_
      refine h_iinc C [(5, .int 1), (3, .long (0 + ((gL σ 56 0) * (gL σ 52 ((3 * i) + 0).toNatClampNeg)))), (2, .int t0), (0, .ref (ad G 44)), (1, .int i), (6, .int 1)] 4 1 dX11_isAlong_95 rfl rfl (by decide) rfl ?_
      refine h_goto C 7 dX11_isAlong_98 (by decide) ?_
      refine h_iload C 0 dX11_isAlong_7 rfl ?_
      refine h_iconst C 3 dX11_isAlong_9 (by decide) ?_
      refine h_icmp_ge C 101 dX11_isAlong_10 (by decide) (fun c_10 => ?_) (fun c_10 => ?_)
      · exact absurd c_10 (by decide)
      · refine h_iload C 0 dX11_isAlong_13 rfl ?_
        refine h_iconst C 1 dX11_isAlong_15 (by decide) ?_
        refine h_iadd C dX11_isAlong_16 ?_
        show hW _ _ _ _ _ _ _ _ _ _ _ _ _ 17 [(5, .int 1), (3, .long (0 + ((gL σ 56 0) * (gL σ 52 ((3 * i) + 0).toNatClampNeg)))), (2, .int t0), (0, .ref (ad G 44)), (1, .int i), (6, .int 1)] [.int 2] σ 0 0
        refine h_iconst C 3 dX11_isAlong_17 (by decide) ?_
        refine h_irem C dX11_isAlong_18 (by decide) ?_
        show hW _ _ _ _ _ _ _ _ _ _ _ _ _ 19 [(5, .int 1), (3, .long (0 + ((gL σ 56 0) * (gL σ 52 ((3 * i) + 0).toNatClampNeg)))), (2, .int t0), (0, .ref (ad G 44)), (1, .int i), (6, .int 1)] [.int 2] σ 0 0
        refine h_istore C [(6, .int 2), (5, .int 1), (3, .long (0 + ((gL σ 56 0) * (gL σ 52 ((3 * i) + 0).toNatClampNeg)))), (2, .int t0), (0, .ref (ad G 44)), (1, .int i)] dX11_isAlong_19 (by decide) rfl ?_
        refine h_join (α := Int32) 72 (fun t1 => isB t1 (gL σ 56 0 * q1 (gL σ 52) i = gL σ 56 1 * q0 (gL σ 52) i ∧ gL σ 56 1 * q2 (gL σ 52) i = gL σ 56 2 * q1 (gL σ 52) i)) (fun t1 => [(0, .ref (ad G 44)), (1, .int i), (3, .long (0 + ((gL σ 56 0) * (gL σ 52 ((3 * i) + 0).toNatClampNeg)))), (5, .int 1), (6, .int 2)]) (fun t1 => [.int t1]) (fun t1 => σ) (fun t1 => 0) (fun t1 => 0) ?_ (fun J_2 => ?_)
        · rintro t1 hJ1
          show hW _ _ _ _ _ _ _ _ _ _ _ _ _ 72 [(0, .ref (ad G 44)), (1, .int i), (3, .long (0 + ((gL σ 56 0) * (gL σ 52 ((3 * i) + 0).toNatClampNeg)))), (5, .int 1), (6, .int 2)] [.int t1] σ 0 0
          refine h_istore_n C [(2, .int t1), (0, .ref (ad G 44)), (1, .int i), (3, .long (0 + ((gL σ 56 0) * (gL σ 52 ((3 * i) + 0).toNatClampNeg)))), (5, .int 1), (6, .int 2)] dX11_isAlong_72 rfl (by decide) rfl ?_
          refine h_lload_n C 3 dX11_isAlong_73 rfl rfl ?_
          refine h_aload_n C 1 dX11_isAlong_74 rfl rfl ?_
          refine gfX11_60 C (ty_44 hY) dX11_isAlong_75 ?_
          refine h_tref (b := 56) (rf_44_16 hY) ?_
          refine h_iload C 4 dX11_isAlong_78 rfl ?_
          refine h_lald C (ty_56 hY) (vp32 (N := 3) (by decide) (by decide) (by decide)) dX11_isAlong_80 ?_
          show hW _ _ _ _ _ _ _ _ _ _ _ _ _ 81 [(2, .int t1), (0, .ref (ad G 44)), (1, .int i), (3, .long (0 + ((gL σ 56 0) * (gL σ 52 ((3 * i) + 0).toNatClampNeg)))), (5, .int 1), (6, .int 2)] [.long (gL σ 56 1), .long (0 + ((gL σ 56 0) * (gL σ 52 ((3 * i) + 0).toNatClampNeg)))] σ 0 0
          refine h_aload_n C 1 dX11_isAlong_81 rfl rfl ?_
          refine gfX11_41 C (ty_44 hY) dX11_isAlong_82 ?_
          refine h_tref (b := 52) (rf_44_10 hY) ?_
          refine h_iconst C 3 dX11_isAlong_85 (by decide) ?_
          refine h_iload_n C 2 dX11_isAlong_86 rfl rfl ?_
          refine h_imul C dX11_isAlong_87 ?_
          refine h_iload C 4 dX11_isAlong_88 rfl ?_
          refine h_iadd C dX11_isAlong_90 ?_
          refine h_lald C (ty_52 hY) (t30 hi.1 hi.2).2.1 dX11_isAlong_91 ?_
          refine h_lmul C dX11_isAlong_92 ?_
          refine h_ladd C dX11_isAlong_93 ?_
          refine h_lstore_n C [(3, .long ((0 + ((gL σ 56 0) * (gL σ 52 ((3 * i) + 0).toNatClampNeg))) + ((gL σ 56 1) * (gL σ 52 ((3 * i) + 1).toNatClampNeg)))), (2, .int t1), (0, .ref (ad G 44)), (1, .int i), (5, .int 1), (6, .int 2)] dX11_isAlong_94 rfl (by decide) rfl ?_
          refine h_iinc C [(5, .int 2), (3, .long ((0 + ((gL σ 56 0) * (gL σ 52 ((3 * i) + 0).toNatClampNeg))) + ((gL σ 56 1) * (gL σ 52 ((3 * i) + 1).toNatClampNeg)))), (2, .int t1), (0, .ref (ad G 44)), (1, .int i), (6, .int 2)] 4 2 dX11_isAlong_95 rfl rfl (by decide) rfl ?_
          refine h_goto C 7 dX11_isAlong_98 (by decide) ?_
          refine h_iload C 0 dX11_isAlong_7 rfl ?_
          refine h_iconst C 3 dX11_isAlong_9 (by decide) ?_
          refine h_icmp_ge C 101 dX11_isAlong_10 (by decide) (fun c_10 => ?_) (fun c_10 => ?_)
          · exact absurd c_10 (by decide)
          · refine h_iload C 0 dX11_isAlong_13 rfl ?_
            refine h_iconst C 1 dX11_isAlong_15 (by decide) ?_
            refine h_iadd C dX11_isAlong_16 ?_
            show hW _ _ _ _ _ _ _ _ _ _ _ _ _ 17 [(5, .int 2), (3, .long ((0 + ((gL σ 56 0) * (gL σ 52 ((3 * i) + 0).toNatClampNeg))) + ((gL σ 56 1) * (gL σ 52 ((3 * i) + 1).toNatClampNeg)))), (2, .int t1), (0, .ref (ad G 44)), (1, .int i), (6, .int 2)] [.int 3] σ 0 0
            refine h_iconst C 3 dX11_isAlong_17 (by decide) ?_
            refine h_irem C dX11_isAlong_18 (by decide) ?_
            show hW _ _ _ _ _ _ _ _ _ _ _ _ _ 19 [(5, .int 2), (3, .long ((0 + ((gL σ 56 0) * (gL σ 52 ((3 * i) + 0).toNatClampNeg))) + ((gL σ 56 1) * (gL σ 52 ((3 * i) + 1).toNatClampNeg)))), (2, .int t1), (0, .ref (ad G 44)), (1, .int i), (6, .int 2)] [.int 0] σ 0 0
            refine h_istore C [(6, .int 0), (5, .int 2), (3, .long ((0 + ((gL σ 56 0) * (gL σ 52 ((3 * i) + 0).toNatClampNeg))) + ((gL σ 56 1) * (gL σ 52 ((3 * i) + 1).toNatClampNeg)))), (2, .int t1), (0, .ref (ad G 44)), (1, .int i)] dX11_isAlong_19 (by decide) rfl ?_
            refine h_join (α := Int32) 72 (fun t2 => isB t2 ((gL σ 56 0 * q1 (gL σ 52) i = gL σ 56 1 * q0 (gL σ 52) i ∧ gL σ 56 1 * q2 (gL σ 52) i = gL σ 56 2 * q1 (gL σ 52) i) ∧ gL σ 56 2 * q0 (gL σ 52) i = gL σ 56 0 * q2 (gL σ 52) i)) (fun t2 => [(0, .ref (ad G 44)), (1, .int i), (3, .long ((0 + ((gL σ 56 0) * (gL σ 52 ((3 * i) + 0).toNatClampNeg))) + ((gL σ 56 1) * (gL σ 52 ((3 * i) + 1).toNatClampNeg)))), (5, .int 2), (6, .int 0)]) (fun t2 => [.int t2]) (fun t2 => σ) (fun t2 => 0) (fun t2 => 0) ?_ (fun J_3 => ?_)
            · rintro t2 hJ2
              show hW _ _ _ _ _ _ _ _ _ _ _ _ _ 72 [(0, .ref (ad G 44)), (1, .int i), (3, .long ((0 + ((gL σ 56 0) * (gL σ 52 ((3 * i) + 0).toNatClampNeg))) + ((gL σ 56 1) * (gL σ 52 ((3 * i) + 1).toNatClampNeg)))), (5, .int 2), (6, .int 0)] [.int t2] σ 0 0
              refine h_istore_n C [(2, .int t2), (0, .ref (ad G 44)), (1, .int i), (3, .long ((0 + ((gL σ 56 0) * (gL σ 52 ((3 * i) + 0).toNatClampNeg))) + ((gL σ 56 1) * (gL σ 52 ((3 * i) + 1).toNatClampNeg)))), (5, .int 2), (6, .int 0)] dX11_isAlong_72 rfl (by decide) rfl ?_
              refine h_lload_n C 3 dX11_isAlong_73 rfl rfl ?_
              refine h_aload_n C 1 dX11_isAlong_74 rfl rfl ?_
              refine gfX11_60 C (ty_44 hY) dX11_isAlong_75 ?_
              refine h_tref (b := 56) (rf_44_16 hY) ?_
              refine h_iload C 4 dX11_isAlong_78 rfl ?_
              refine h_lald C (ty_56 hY) (vp32 (N := 3) (by decide) (by decide) (by decide)) dX11_isAlong_80 ?_
              show hW _ _ _ _ _ _ _ _ _ _ _ _ _ 81 [(2, .int t2), (0, .ref (ad G 44)), (1, .int i), (3, .long ((0 + ((gL σ 56 0) * (gL σ 52 ((3 * i) + 0).toNatClampNeg))) + ((gL σ 56 1) * (gL σ 52 ((3 * i) + 1).toNatClampNeg)))), (5, .int 2), (6, .int 0)] [.long (gL σ 56 2), .long ((0 + ((gL σ 56 0) * (gL σ 52 ((3 * i) + 0).toNatClampNeg))) + ((gL σ 56 1) * (gL σ 52 ((3 * i) + 1).toNatClampNeg)))] σ 0 0
              refine h_aload_n C 1 dX11_isAlong_81 rfl rfl ?_
              refine gfX11_41 C (ty_44 hY) dX11_isAlong_82 ?_
              refine h_tref (b := 52) (rf_44_10 hY) ?_
              refine h_iconst C 3 dX11_isAlong_85 (by decide) ?_
              refine h_iload_n C 2 dX11_isAlong_86 rfl rfl ?_
              refine h_imul C dX11_isAlong_87 ?_
              refine h_iload C 4 dX11_isAlong_88 rfl ?_
              refine h_iadd C dX11_isAlong_90 ?_
              refine h_lald C (ty_52 hY) (t30 hi.1 hi.2).2.2 dX11_isAlong_91 ?_
              refine h_lmul C dX11_isAlong_92 ?_
              refine h_ladd C dX11_isAlong_93 ?_
              refine h_lstore_n C [(3, .long (((0 + ((gL σ 56 0) * (gL σ 52 ((3 * i) + 0).toNatClampNeg))) + ((gL σ 56 1) * (gL σ 52 ((3 * i) + 1).toNatClampNeg))) + ((gL σ 56 2) * (gL σ 52 ((3 * i) + 2).toNatClampNeg)))), (2, .int t2), (0, .ref (ad G 44)), (1, .int i), (5, .int 2), (6, .int 0)] dX11_isAlong_94 rfl (by decide) rfl ?_
              refine h_iinc C [(5, .int 3), (3, .long (((0 + ((gL σ 56 0) * (gL σ 52 ((3 * i) + 0).toNatClampNeg))) + ((gL σ 56 1) * (gL σ 52 ((3 * i) + 1).toNatClampNeg))) + ((gL σ 56 2) * (gL σ 52 ((3 * i) + 2).toNatClampNeg)))), (2, .int t2), (0, .ref (ad G 44)), (1, .int i), (6, .int 0)] 4 3 dX11_isAlong_95 rfl rfl (by decide) rfl ?_
              refine h_goto C 7 dX11_isAlong_98 (by decide) ?_
              refine h_iload C 0 dX11_isAlong_7 rfl ?_
              refine h_iconst C 3 dX11_isAlong_9 (by decide) ?_
              refine h_icmp_ge C 101 dX11_isAlong_10 (by decide) (fun c_10 => ?_) (fun c_10 => ?_)
              · refine h_iload_n C 2 dX11_isAlong_101 rfl rfl ?_
                refine h_if_eq C 115 dX11_isAlong_102 (by decide) (fun c_102 => ?_) (fun c_102 => ?_)
                · refine h_iconst C 0 dX11_isAlong_115 (by decide) ?_
                  refine h_zret C rfl (by decide) (Nat.zero_le _) (Nat.zero_le _) dX11_isAlong_116 ?_
                  exact ⟨⟨_, rfl, isB0 (fun q => isB_0 hJ2 c_102 q.1)⟩, rfl⟩
                · refine h_lload_n C 1 dX11_isAlong_105 rfl rfl ?_
                  refine h_lconst C 0 dX11_isAlong_106 rfl ?_
                  refine h_lcmp C dX11_isAlong_107 ?_
                  refine h_if_le C 115 dX11_isAlong_108 (by decide) (fun c_108 => ?_) (fun c_108 => ?_)
                  · refine h_iconst C 0 dX11_isAlong_115 (by decide) ?_
                    refine h_zret C rfl (by decide) (Nat.zero_le _) (Nat.zero_le _) dX11_isAlong_116 ?_
                    have e : 0 + gL σ 56 0 * gL σ 52 (3 * i + 0).toNatClampNeg + gL σ 56 1 * gL σ 52 (3 * i + 1).toNatClampNeg + gL σ 56 2 * gL σ 52 (3 * i + 2).toNatClampNeg = dtR (gl3 σ) (gL σ 52) i := by
                      rw [q0z (ρ := gL σ 52) (i := i)]
                      unfold dtR gl3 q1 q2
                      grind
                    rw [e] at c_108
                    exact ⟨⟨_, rfl, isB0 (fun q => lg_le c_108 q.2)⟩, rfl⟩
                  · refine h_iconst C 1 dX11_isAlong_111 (by decide) ?_
                    refine h_goto C 116 dX11_isAlong_112 (by decide) ?_
                    refine h_zret C rfl (by decide) (Nat.zero_le _) (Nat.zero_le _) dX11_isAlong_116 ?_
                    have e : 0 + gL σ 56 0 * gL σ 52 (3 * i + 0).toNatClampNeg + gL σ 56 1 * gL σ 52 (3 * i + 1).toNatClampNeg + gL σ 56 2 * gL σ 52 (3 * i + 2).toNatClampNeg = dtR (gl3 σ) (gL σ 52) i := by
                      rw [q0z (ρ := gL σ 52) (i := i)]
                      unfold dtR gl3 q1 q2
                      grind
                    rw [e] at c_108
                    exact ⟨⟨_, rfl, isB1 ⟨isB_1 hJ2 c_102, lg_gt c_108⟩⟩, rfl⟩
              · exact absurd c_10 (by decide)
            · refine h_iload_n C 3 dX11_isAlong_21 rfl rfl ?_
              refine h_if_eq C 71 dX11_isAlong_22 (by decide) (fun c_22 => ?_) (fun c_22 => ?_)
              · refine h_iconst C 0 dX11_isAlong_71 (by decide) ?_
                refine h_sub [4, 5, 2, 1, 0] rfl ?_
                refine J_3 0 ?_
                exact isB0 (fun q => isB_0 hJ1 c_22 q.1)
              · refine h_aload_n C 4 dX11_isAlong_25 rfl rfl ?_
                refine gfX11_60 C (ty_44 hY) dX11_isAlong_26 ?_
                refine h_tref (b := 56) (rf_44_16 hY) ?_
                refine h_iload C 1 dX11_isAlong_29 rfl ?_
                refine h_lald C (ty_56 hY) (vp32 (N := 3) (by decide) (by decide) (by decide)) dX11_isAlong_31 ?_
                show hW _ _ _ _ _ _ _ _ _ _ _ _ _ 32 [(6, .int 0), (5, .int 2), (3, .long ((0 + ((gL σ 56 0) * (gL σ 52 ((3 * i) + 0).toNatClampNeg))) + ((gL σ 56 1) * (gL σ 52 ((3 * i) + 1).toNatClampNeg)))), (2, .int t1), (0, .ref (ad G 44)), (1, .int i)] [.long (gL σ 56 2)] σ 0 0
                refine h_aload_n C 4 dX11_isAlong_32 rfl rfl ?_
                refine gfX11_41 C (ty_44 hY) dX11_isAlong_33 ?_
                refine h_tref (b := 52) (rf_44_10 hY) ?_
                refine h_iconst C 3 dX11_isAlong_36 (by decide) ?_
                refine h_iload_n C 5 dX11_isAlong_37 rfl rfl ?_
                refine h_imul C dX11_isAlong_38 ?_
                refine h_iload C 0 dX11_isAlong_39 rfl ?_
                refine h_iadd C dX11_isAlong_41 ?_
                refine h_lald C (ty_52 hY) (t30z hi.1 hi.2) dX11_isAlong_42 ?_
                refine h_lmul C dX11_isAlong_43 ?_
                refine h_aload_n C 4 dX11_isAlong_44 rfl rfl ?_
                refine gfX11_60 C (ty_44 hY) dX11_isAlong_45 ?_
                refine h_tref (b := 56) (rf_44_16 hY) ?_
                refine h_iload C 0 dX11_isAlong_48 rfl ?_
                refine h_lald C (ty_56 hY) (vp32 (N := 3) (by decide) (by decide) (by decide)) dX11_isAlong_50 ?_
                show hW _ _ _ _ _ _ _ _ _ _ _ _ _ 51 [(6, .int 0), (5, .int 2), (3, .long ((0 + ((gL σ 56 0) * (gL σ 52 ((3 * i) + 0).toNatClampNeg))) + ((gL σ 56 1) * (gL σ 52 ((3 * i) + 1).toNatClampNeg)))), (2, .int t1), (0, .ref (ad G 44)), (1, .int i)] [.long (gL σ 56 0), .long ((gL σ 56 2) * (gL σ 52 ((3 * i) + 0).toNatClampNeg))] σ 0 0
                refine h_aload_n C 4 dX11_isAlong_51 rfl rfl ?_
                refine gfX11_41 C (ty_44 hY) dX11_isAlong_52 ?_
                refine h_tref (b := 52) (rf_44_10 hY) ?_
                refine h_iconst C 3 dX11_isAlong_55 (by decide) ?_
                refine h_iload_n C 5 dX11_isAlong_56 rfl rfl ?_
                refine h_imul C dX11_isAlong_57 ?_
                refine h_iload C 1 dX11_isAlong_58 rfl ?_
                refine h_iadd C dX11_isAlong_60 ?_
                refine h_lald C (ty_52 hY) (t30 hi.1 hi.2).2.2 dX11_isAlong_61 ?_
                refine h_lmul C dX11_isAlong_62 ?_
                refine h_lcmp C dX11_isAlong_63 ?_
                refine h_if_ne C 71 dX11_isAlong_64 (by decide) (fun c_64 => ?_) (fun c_64 => ?_)
                · refine h_iconst C 0 dX11_isAlong_71 (by decide) ?_
                  refine h_sub [4, 5, 2, 1, 0] rfl ?_
                  refine J_3 0 ?_
                  have h := lg_n c_64
                  rw [q0z (ρ := gL σ 52) (i := i)] at h
                  exact isB0 (fun q => h q.2)
                · refine h_iconst C 1 dX11_isAlong_67 (by decide) ?_
                  refine h_goto C 72 dX11_isAlong_68 (by decide) ?_
                  refine h_sub [4, 5, 2, 1, 0] rfl ?_
                  refine J_3 1 ?_
                  have h := lg_e c_64
                  rw [q0z (ρ := gL σ 52) (i := i)] at h
                  exact isB1 ⟨isB_1 hJ1 c_22, h⟩
        · refine h_iload_n C 3 dX11_isAlong_21 rfl rfl ?_
          refine h_if_eq C 71 dX11_isAlong_22 (by decide) (fun c_22 => ?_) (fun c_22 => ?_)
          · refine h_iconst C 0 dX11_isAlong_71 (by decide) ?_
            refine h_sub [4, 5, 2, 1, 0] rfl ?_
            refine J_2 0 ?_
            exact isB0 (fun q => isB_0 hJ0 c_22 q.1)
          · refine h_aload_n C 4 dX11_isAlong_25 rfl rfl ?_
            refine gfX11_60 C (ty_44 hY) dX11_isAlong_26 ?_
            refine h_tref (b := 56) (rf_44_16 hY) ?_
            refine h_iload C 1 dX11_isAlong_29 rfl ?_
            refine h_lald C (ty_56 hY) (vp32 (N := 3) (by decide) (by decide) (by decide)) dX11_isAlong_31 ?_
            show hW _ _ _ _ _ _ _ _ _ _ _ _ _ 32 [(6, .int 2), (5, .int 1), (3, .long (0 + ((gL σ 56 0) * (gL σ 52 ((3 * i) + 0).toNatClampNeg)))), (2, .int t0), (0, .ref (ad G 44)), (1, .int i)] [.long (gL σ 56 1)] σ 0 0
            refine h_aload_n C 4 dX11_isAlong_32 rfl rfl ?_
            refine gfX11_41 C (ty_44 hY) dX11_isAlong_33 ?_
            refine h_tref (b := 52) (rf_44_10 hY) ?_
            refine h_iconst C 3 dX11_isAlong_36 (by decide) ?_
            refine h_iload_n C 5 dX11_isAlong_37 rfl rfl ?_
            refine h_imul C dX11_isAlong_38 ?_
            refine h_iload C 0 dX11_isAlong_39 rfl ?_
            refine h_iadd C dX11_isAlong_41 ?_
            refine h_lald C (ty_52 hY) (t30 hi.1 hi.2).2.2 dX11_isAlong_42 ?_
            refine h_lmul C dX11_isAlong_43 ?_
            refine h_aload_n C 4 dX11_isAlong_44 rfl rfl ?_
            refine gfX11_60 C (ty_44 hY) dX11_isAlong_45 ?_
            refine h_tref (b := 56) (rf_44_16 hY) ?_
            refine h_iload C 0 dX11_isAlong_48 rfl ?_
            refine h_lald C (ty_56 hY) (vp32 (N := 3) (by decide) (by decide) (by decide)) dX11_isAlong_50 ?_
            show hW _ _ _ _ _ _ _ _ _ _ _ _ _ 51 [(6, .int 2), (5, .int 1), (3, .long (0 + ((gL σ 56 0) * (gL σ 52 ((3 * i) + 0).toNatClampNeg)))), (2, .int t0), (0, .ref (ad G 44)), (1, .int i)] [.long (gL σ 56 2), .long ((gL σ 56 1) * (gL σ 52 ((3 * i) + 2).toNatClampNeg))] σ 0 0
            refine h_aload_n C 4 dX11_isAlong_51 rfl rfl ?_
            refine gfX11_41 C (ty_44 hY) dX11_isAlong_52 ?_
            refine h_tref (b := 52) (rf_44_10 hY) ?_
            refine h_iconst C 3 dX11_isAlong_55 (by decide) ?_
            refine h_iload_n C 5 dX11_isAlong_56 rfl rfl ?_
            refine h_imul C dX11_isAlong_57 ?_
            refine h_iload C 1 dX11_isAlong_58 rfl ?_
            refine h_iadd C dX11_isAlong_60 ?_
            refine h_lald C (ty_52 hY) (t30 hi.1 hi.2).2.1 dX11_isAlong_61 ?_
            refine h_lmul C dX11_isAlong_62 ?_
            refine h_lcmp C dX11_isAlong_63 ?_
            refine h_if_ne C 71 dX11_isAlong_64 (by decide) (fun c_64 => ?_) (fun c_64 => ?_)
            · refine h_iconst C 0 dX11_isAlong_71 (by decide) ?_
              refine h_sub [4, 5, 2, 1, 0] rfl ?_
              refine J_2 0 ?_
              have h := lg_n c_64
              exact isB0 (fun q => h q.2)
            · refine h_iconst C 1 dX11_isAlong_67 (by decide) ?_
              refine h_goto C 72 dX11_isAlong_68 (by decide) ?_
              refine h_sub [4, 5, 2, 1, 0] rfl ?_
              refine J_2 1 ?_
              have h := lg_e c_64
              exact isB1 ⟨isB_1 hJ0 c_22, h⟩
    · refine h_iload_n C 3 dX11_isAlong_21 rfl rfl ?_
      refine h_if_eq C 71 dX11_isAlong_22 (by decide) (fun c_22 => ?_) (fun c_22 => ?_)
      · exact absurd c_22 (by decide)
      · refine h_aload_n C 4 dX11_isAlong_25 rfl rfl ?_
        refine gfX11_60 C (ty_44 hY) dX11_isAlong_26 ?_
        refine h_tref (b := 56) (rf_44_16 hY) ?_
        refine h_iload C 1 dX11_isAlong_29 rfl ?_
        refine h_lald C (ty_56 hY) (vp32 (N := 3) (by decide) (by decide) (by decide)) dX11_isAlong_31 ?_
        show hW _ _ _ _ _ _ _ _ _ _ _ _ _ 32 [(6, .int 1), (5, .int 0), (3, .long 0), (2, .int 1), (0, .ref (ad G 44)), (1, .int i)] [.long (gL σ 56 0)] σ 0 0
        refine h_aload_n C 4 dX11_isAlong_32 rfl rfl ?_
        refine gfX11_41 C (ty_44 hY) dX11_isAlong_33 ?_
        refine h_tref (b := 52) (rf_44_10 hY) ?_
        refine h_iconst C 3 dX11_isAlong_36 (by decide) ?_
        refine h_iload_n C 5 dX11_isAlong_37 rfl rfl ?_
        refine h_imul C dX11_isAlong_38 ?_
        refine h_iload C 0 dX11_isAlong_39 rfl ?_
        refine h_iadd C dX11_isAlong_41 ?_
        refine h_lald C (ty_52 hY) (t30 hi.1 hi.2).2.1 dX11_isAlong_42 ?_
        refine h_lmul C dX11_isAlong_43 ?_
        refine h_aload_n C 4 dX11_isAlong_44 rfl rfl ?_
        refine gfX11_60 C (ty_44 hY) dX11_isAlong_45 ?_
        refine h_tref (b := 56) (rf_44_16 hY) ?_
        refine h_iload C 0 dX11_isAlong_48 rfl ?_
        refine h_lald C (ty_56 hY) (vp32 (N := 3) (by decide) (by decide) (by decide)) dX11_isAlong_50 ?_
        show hW _ _ _ _ _ _ _ _ _ _ _ _ _ 51 [(6, .int 1), (5, .int 0), (3, .long 0), (2, .int 1), (0, .ref (ad G 44)), (1, .int i)] [.long (gL σ 56 1), .long ((gL σ 56 0) * (gL σ 52 ((3 * i) + 1).toNatClampNeg))] σ 0 0
        refine h_aload_n C 4 dX11_isAlong_51 rfl rfl ?_
        refine gfX11_41 C (ty_44 hY) dX11_isAlong_52 ?_
        refine h_tref (b := 52) (rf_44_10 hY) ?_
        refine h_iconst C 3 dX11_isAlong_55 (by decide) ?_
        refine h_iload_n C 5 dX11_isAlong_56 rfl rfl ?_
        refine h_imul C dX11_isAlong_57 ?_
        refine h_iload C 1 dX11_isAlong_58 rfl ?_
        refine h_iadd C dX11_isAlong_60 ?_
        refine h_lald C (ty_52 hY) (t30z hi.1 hi.2) dX11_isAlong_61 ?_
        refine h_lmul C dX11_isAlong_62 ?_
        refine h_lcmp C dX11_isAlong_63 ?_
        refine h_if_ne C 71 dX11_isAlong_64 (by decide) (fun c_64 => ?_) (fun c_64 => ?_)
        · refine h_iconst C 0 dX11_isAlong_71 (by decide) ?_
          refine h_sub [4, 5, 2, 1, 0] rfl ?_
          refine J_1 0 ?_
          have h := lg_n c_64
          rw [q0z (ρ := gL σ 52) (i := i)] at h
          exact isB0 (fun q => h q)
        · refine h_iconst C 1 dX11_isAlong_67 (by decide) ?_
          refine h_goto C 72 dX11_isAlong_68 (by decide) ?_
          refine h_sub [4, 5, 2, 1, 0] rfl ?_
          refine J_1 1 ?_
          have h := lg_e c_64
          rw [q0z (ρ := gL σ 52) (i := i)] at h
          exact isB1 h
set_option maxRecDepth 100000 in
set_option maxHeartbeats 4000000 in
theorem m_X11_isBetween {G : ha_G} {l : Launch} {σ : ha_St} {i j : Int32} (hY : LY σ) (hi : 0 ≤ i ∧ i < 30) (hj : 0 ≤ j ∧ j < 30) : hM G l yX11_isBetween cX11_isBetween 10 (some .boolean) { frames := 0, cells := 0, slots := 0, locals := 0 } [.ref (ad G 44), .int i, .int j] σ (fun v σ' => (∃ r, v = some (.int r) ∧ isB r (btQ (cr3 σ) (gl3 σ) (gL σ 52) i j)) ∧ σ' = σ) := by
  refine hM_ofF [(0, .ref (ad G 44)), (1, .int i), (2, .int j)] (by decide +kernel) (Nat.le_of_ble_eq_true rfl) rfl ?_
  intro p e s m args below meth c0 C hin
  refine h_aload_n C 0 dX11_isBetween_0 rfl rfl ?_
  refine gfX11_45 C (ty_44 hY) dX11_isBetween_1 ?_
  refine h_tref (b := 53) (rf_44_11 hY) ?_
  refine h_iconst C 0 dX11_isBetween_4 (by decide) ?_
  refine h_lald C (ty_53 hY) (vp32 (N := 3) (by decide) (by decide) (by decide)) dX11_isBetween_5 ?_
  show hW _ _ _ _ _ _ _ _ _ _ _ _ _ 6 [(0, .ref (ad G 44)), (1, .int i), (2, .int j)] [.long (gL σ 53 0)] σ 0 0
  refine h_aload_n C 0 dX11_isBetween_6 rfl rfl ?_
  refine gfX11_60 C (ty_44 hY) dX11_isBetween_7 ?_
  refine h_tref (b := 56) (rf_44_16 hY) ?_
  refine h_iconst C 0 dX11_isBetween_10 (by decide) ?_
  refine h_lald C (ty_56 hY) (vp32 (N := 3) (by decide) (by decide) (by decide)) dX11_isBetween_11 ?_
  show hW _ _ _ _ _ _ _ _ _ _ _ _ _ 12 [(0, .ref (ad G 44)), (1, .int i), (2, .int j)] [.long (gL σ 56 0), .long (gL σ 53 0)] σ 0 0
  refine h_lmul C dX11_isBetween_12 ?_
  refine h_aload_n C 0 dX11_isBetween_13 rfl rfl ?_
  refine gfX11_45 C (ty_44 hY) dX11_isBetween_14 ?_
  refine h_tref (b := 53) (rf_44_11 hY) ?_
  refine h_iconst C 1 dX11_isBetween_17 (by decide) ?_
  refine h_lald C (ty_53 hY) (vp32 (N := 3) (by decide) (by decide) (by decide)) dX11_isBetween_18 ?_
  show hW _ _ _ _ _ _ _ _ _ _ _ _ _ 19 [(0, .ref (ad G 44)), (1, .int i), (2, .int j)] [.long (gL σ 53 1), .long ((gL σ 53 0) * (gL σ 56 0))] σ 0 0
  refine h_aload_n C 0 dX11_isBetween_19 rfl rfl ?_
  refine gfX11_60 C (ty_44 hY) dX11_isBetween_20 ?_
  refine h_tref (b := 56) (rf_44_16 hY) ?_
  refine h_iconst C 1 dX11_isBetween_23 (by decide) ?_
  refine h_lald C (ty_56 hY) (vp32 (N := 3) (by decide) (by decide) (by decide)) dX11_isBetween_24 ?_
  show hW _ _ _ _ _ _ _ _ _ _ _ _ _ 25 [(0, .ref (ad G 44)), (1, .int i), (2, .int j)] [.long (gL σ 56 1), .long (gL σ 53 1), .long ((gL σ 53 0) * (gL σ 56 0))] σ 0 0
  refine h_lmul C dX11_isBetween_25 ?_
  refine h_ladd C dX11_isBetween_26 ?_
  refine h_aload_n C 0 dX11_isBetween_27 rfl rfl ?_
  refine gfX11_45 C (ty_44 hY) dX11_isBetween_28 ?_
  refine h_tref (b := 53) (rf_44_11 hY) ?_
  refine h_iconst C 2 dX11_isBetween_31 (by decide) ?_
  refine h_lald C (ty_53 hY) (vp32 (N := 3) (by decide) (by decide) (by decide)) dX11_isBetween_32 ?_
  show hW _ _ _ _ _ _ _ _ _ _ _ _ _ 33 [(0, .ref (ad G 44)), (1, .int i), (2, .int j)] [.long (gL σ 53 2), .long (((gL σ 53 0) * (gL σ 56 0)) + ((gL σ 53 1) * (gL σ 56 1)))] σ 0 0
  refine h_aload_n C 0 dX11_isBetween_33 rfl rfl ?_
  refine gfX11_60 C (ty_44 hY) dX11_isBetween_34 ?_
  refine h_tref (b := 56) (rf_44_16 hY) ?_
  refine h_iconst C 2 dX11_isBetween_37 (by decide) ?_
  refine h_lald C (ty_56 hY) (vp32 (N := 3) (by decide) (by decide) (by decide)) dX11_isBetween_38 ?_
  show hW _ _ _ _ _ _ _ _ _ _ _ _ _ 39 [(0, .ref (ad G 44)), (1, .int i), (2, .int j)] [.long (gL σ 56 2), .long (gL σ 53 2), .long (((gL σ 53 0) * (gL σ 56 0)) + ((gL σ 53 1) * (gL σ 56 1)))] σ 0 0
  refine h_lmul C dX11_isBetween_39 ?_
  refine h_ladd C dX11_isBetween_40 ?_
  refine h_lconst C 0 dX11_isBetween_41 rfl ?_
  refine h_lcmp C dX11_isBetween_42 ?_
  refine h_if_eq C 48 dX11_isBetween_43 (by decide) (fun c_43 => ?_) (fun c_43 => ?_)
  · refine h_lconst C 0 dX11_isBetween_48 rfl ?_
    refine h_lstore_n C [(3, .long 0), (0, .ref (ad G 44)), (1, .int i), (2, .int j)] dX11_isBetween_49 rfl (by decide) rfl ?_
    refine h_lconst C 0 dX11_isBetween_50 rfl ?_
    refine h_lstore C [(5, .long 0), (3, .long 0), (0, .ref (ad G 44)), (1, .int i), (2, .int j)] dX11_isBetween_51 (by decide) rfl ?_
    refine h_iconst C 0 dX11_isBetween_53 (by decide) ?_
    refine h_istore C [(7, .int 0), (5, .long 0), (3, .long 0), (0, .ref (ad G 44)), (1, .int i), (2, .int j)] dX11_isBetween_54 (by decide) rfl ?_
    refine h_iload C 0 dX11_isBetween_56 rfl ?_
    refine h_iconst C 3 dX11_isBetween_58 (by decide) ?_
    refine h_icmp_ge C 186 dX11_isBetween_59 (by decide) (fun c_59 => ?_) (fun c_59 => ?_)
    · exact absurd c_59 (by decide)
    · refine h_iload C 0 dX11_isBetween_62 rfl ?_
      refine h_iconst C 1 dX11_isBetween_64 (by decide) ?_
      refine h_iadd C dX11_isBetween_65 ?_
      show hW _ _ _ _ _ _ _ _ _ _ _ _ _ 66 [(7, .int 0), (5, .long 0), (3, .long 0), (0, .ref (ad G 44)), (1, .int i), (2, .int j)] [.int 1] σ 0 0
      refine h_iconst C 3 dX11_isBetween_66 (by decide) ?_
      refine h_irem C dX11_isBetween_67 (by decide) ?_
      show hW _ _ _ _ _ _ _ _ _ _ _ _ _ 68 [(7, .int 0), (5, .long 0), (3, .long 0), (0, .ref (ad G 44)), (1, .int i), (2, .int j)] [.int 1] σ 0 0
      refine h_istore C [(8, .int 1), (7, .int 0), (5, .long 0), (3, .long 0), (0, .ref (ad G 44)), (1, .int i), (2, .int j)] dX11_isBetween_68 (by decide) rfl ?_
      refine h_iload C 1 dX11_isBetween_70 rfl ?_
      refine h_iconst C 2 dX11_isBetween_72 (by decide) ?_
      refine h_iadd C dX11_isBetween_73 ?_
      show hW _ _ _ _ _ _ _ _ _ _ _ _ _ 74 [(8, .int 1), (7, .int 0), (5, .long 0), (3, .long 0), (0, .ref (ad G 44)), (1, .int i), (2, .int j)] [.int 2] σ 0 0
      refine h_iconst C 3 dX11_isBetween_74 (by decide) ?_
      refine h_irem C dX11_isBetween_75 (by decide) ?_
      show hW _ _ _ _ _ _ _ _ _ _ _ _ _ 76 [(8, .int 1), (7, .int 0), (5, .long 0), (3, .long 0), (0, .ref (ad G 44)), (1, .int i), (2, .int j)] [.int 2] σ 0 0
      refine h_istore C [(9, .int 2), (8, .int 1), (7, .int 0), (5, .long 0), (3, .long 0), (0, .ref (ad G 44)), (1, .int i), (2, .int j)] dX11_isBetween_76 (by decide) rfl ?_
      refine h_lload_n C 4 dX11_isBetween_78 rfl rfl ?_
      refine h_aload_n C 5 dX11_isBetween_79 rfl rfl ?_
      refine gfX11_45 C (ty_44 hY) dX11_isBetween_80 ?_
      refine h_tref (b := 53) (rf_44_11 hY) ?_
      refine h_iload C 2 dX11_isBetween_83 rfl ?_
      refine h_lald C (ty_53 hY) (vp32 (N := 3) (by decide) (by decide) (by decide)) dX11_isBetween_85 ?_
      show hW _ _ _ _ _ _ _ _ _ _ _ _ _ 86 [(9, .int 2), (8, .int 1), (7, .int 0), (5, .long 0), (3, .long 0), (0, .ref (ad G 44)), (1, .int i), (2, .int j)] [.long (gL σ 53 0), .long 0] σ 0 0
      refine h_aload_n C 5 dX11_isBetween_86 rfl rfl ?_
      refine gfX11_60 C (ty_44 hY) dX11_isBetween_87 ?_
      refine h_tref (b := 56) (rf_44_16 hY) ?_
      refine h_iload C 1 dX11_isBetween_90 rfl ?_
      refine h_lald C (ty_56 hY) (vp32 (N := 3) (by decide) (by decide) (by decide)) dX11_isBetween_92 ?_
      show hW _ _ _ _ _ _ _ _ _ _ _ _ _ 93 [(9, .int 2), (8, .int 1), (7, .int 0), (5, .long 0), (3, .long 0), (0, .ref (ad G 44)), (1, .int i), (2, .int j)] [.long (gL σ 56 1), .long (gL σ 53 0), .long 0] σ 0 0
      refine h_aload_n C 5 dX11_isBetween_93 rfl rfl ?_
      refine gfX11_41 C (ty_44 hY) dX11_isBetween_94 ?_
      refine h_tref (b := 52) (rf_44_10 hY) ?_
      refine h_iconst C 3 dX11_isBetween_97 (by decide) ?_
      refine h_iload_n C 7 dX11_isBetween_98 rfl rfl ?_
      refine h_imul C dX11_isBetween_99 ?_
      refine h_iload C 0 dX11_isBetween_100 rfl ?_
      refine h_iadd C dX11_isBetween_102 ?_
      refine h_lald C (ty_52 hY) (t30 hj.1 hj.2).2.2 dX11_isBetween_103 ?_
      refine h_lmul C dX11_isBetween_104 ?_
      refine h_aload_n C 5 dX11_isBetween_105 rfl rfl ?_
      refine gfX11_60 C (ty_44 hY) dX11_isBetween_106 ?_
      refine h_tref (b := 56) (rf_44_16 hY) ?_
      refine h_iload C 0 dX11_isBetween_109 rfl ?_
      refine h_lald C (ty_56 hY) (vp32 (N := 3) (by decide) (by decide) (by decide)) dX11_isBetween_111 ?_
      show hW _ _ _ _ _ _ _ _ _ _ _ _ _ 112 [(9, .int 2), (8, .int 1), (7, .int 0), (5, .long 0), (3, .long 0), (0, .ref (ad G 44)), (1, .int i), (2, .int j)] [.long (gL σ 56 2), .long ((gL σ 56 1) * (gL σ 52 ((3 * j) + 2).toNatClampNeg)), .long (gL σ 53 0), .long 0] σ 0 0
      refine h_aload_n C 5 dX11_isBetween_112 rfl rfl ?_
      refine gfX11_41 C (ty_44 hY) dX11_isBetween_113 ?_
      refine h_tref (b := 52) (rf_44_10 hY) ?_
      refine h_iconst C 3 dX11_isBetween_116 (by decide) ?_
      refine h_iload_n C 7 dX11_isBetween_117 rfl rfl ?_
      refine h_imul C dX11_isBetween_118 ?_
      refine h_iload C 1 dX11_isBetween_119 rfl ?_
      refine h_iadd C dX11_isBetween_121 ?_
      refine h_lald C (ty_52 hY) (t30 hj.1 hj.2).2.1 dX11_isBetween_122 ?_
      refine h_lmul C dX11_isBetween_123 ?_
      refine h_lsub C dX11_isBetween_124 ?_
      refine h_lmul C dX11_isBetween_125 ?_
      refine h_ladd C dX11_isBetween_126 ?_
      refine h_lstore_n C [(3, .long (0 + ((gL σ 53 0) * (((gL σ 56 1) * (gL σ 52 ((3 * j) + 2).toNatClampNeg)) - ((gL σ 56 2) * (gL σ 52 ((3 * j) + 1).toNatClampNeg)))))), (9, .int 2), (8, .int 1), (7, .int 0), (5, .long 0), (0, .ref (ad G 44)), (1, .int i), (2, .int j)] dX11_isBetween_127 rfl (by decide) rfl ?_
      refine h_lload C 4 dX11_isBetween_128 rfl ?_
      refine h_aload_n C 5 dX11_isBetween_130 rfl rfl ?_
      refine gfX11_45 C (ty_44 hY) dX11_isBetween_131 ?_
      refine h_tref (b := 53) (rf_44_11 hY) ?_
      refine h_iload C 3 dX11_isBetween_134 rfl ?_
      refine h_lald C (ty_53 hY) (vp32 (N := 3) (by decide) (by decide) (by decide)) dX11_isBetween_136 ?_
      show hW _ _ _ _ _ _ _ _ _ _ _ _ _ 137 [(3, .long (0 + ((gL σ 53 0) * (((gL σ 56 1) * (gL σ 52 ((3 * j) + 2).toNatClampNeg)) - ((gL σ 56 2) * (gL σ 52 ((3 * j) + 1).toNatClampNeg)))))), (9, .int 2), (8, .int 1), (7, .int 0), (5, .long 0), (0, .ref (ad G 44)), (1, .int i), (2, .int j)] [.long (gL σ 53 0), .long 0] σ 0 0
      refine h_aload_n C 5 dX11_isBetween_137 rfl rfl ?_
      refine gfX11_41 C (ty_44 hY) dX11_isBetween_138 ?_
      refine h_tref (b := 52) (rf_44_10 hY) ?_
      refine h_iconst C 3 dX11_isBetween_141 (by decide) ?_
      refine h_iload_n C 6 dX11_isBetween_142 rfl rfl ?_
      refine h_imul C dX11_isBetween_143 ?_
      refine h_iload C 2 dX11_isBetween_144 rfl ?_
      refine h_iadd C dX11_isBetween_146 ?_
      refine h_lald C (ty_52 hY) (t30 hi.1 hi.2).2.1 dX11_isBetween_147 ?_
      refine h_aload_n C 5 dX11_isBetween_148 rfl rfl ?_
      refine gfX11_60 C (ty_44 hY) dX11_isBetween_149 ?_
      refine h_tref (b := 56) (rf_44_16 hY) ?_
      refine h_iload C 1 dX11_isBetween_152 rfl ?_
      refine h_lald C (ty_56 hY) (vp32 (N := 3) (by decide) (by decide) (by decide)) dX11_isBetween_154 ?_
      show hW _ _ _ _ _ _ _ _ _ _ _ _ _ 155 [(3, .long (0 + ((gL σ 53 0) * (((gL σ 56 1) * (gL σ 52 ((3 * j) + 2).toNatClampNeg)) - ((gL σ 56 2) * (gL σ 52 ((3 * j) + 1).toNatClampNeg)))))), (9, .int 2), (8, .int 1), (7, .int 0), (5, .long 0), (0, .ref (ad G 44)), (1, .int i), (2, .int j)] [.long (gL σ 56 2), .long (gL σ 52 ((3 * i) + 1).toNatClampNeg), .long (gL σ 53 0), .long 0] σ 0 0
      refine h_lmul C dX11_isBetween_155 ?_
      refine h_aload_n C 5 dX11_isBetween_156 rfl rfl ?_
      refine gfX11_41 C (ty_44 hY) dX11_isBetween_157 ?_
      refine h_tref (b := 52) (rf_44_10 hY) ?_
      refine h_iconst C 3 dX11_isBetween_160 (by decide) ?_
      refine h_iload_n C 6 dX11_isBetween_161 rfl rfl ?_
      refine h_imul C dX11_isBetween_162 ?_
      refine h_iload C 1 dX11_isBetween_163 rfl ?_
      refine h_iadd C dX11_isBetween_165 ?_
      refine h_lald C (ty_52 hY) (t30 hi.1 hi.2).2.2 dX11_isBetween_166 ?_
      refine h_aload_n C 5 dX11_isBetween_167 rfl rfl ?_
      refine gfX11_60 C (ty_44 hY) dX11_isBetween_168 ?_
      refine h_tref (b := 56) (rf_44_16 hY) ?_
      refine h_iload C 2 dX11_isBetween_171 rfl ?_
      refine h_lald C (ty_56 hY) (vp32 (N := 3) (by decide) (by decide) (by decide)) dX11_isBetween_173 ?_
      show hW _ _ _ _ _ _ _ _ _ _ _ _ _ 174 [(3, .long (0 + ((gL σ 53 0) * (((gL σ 56 1) * (gL σ 52 ((3 * j) + 2).toNatClampNeg)) - ((gL σ 56 2) * (gL σ 52 ((3 * j) + 1).toNatClampNeg)))))), (9, .int 2), (8, .int 1), (7, .int 0), (5, .long 0), (0, .ref (ad G 44)), (1, .int i), (2, .int j)] [.long (gL σ 56 1), .long (gL σ 52 ((3 * i) + 2).toNatClampNeg), .long ((gL σ 52 ((3 * i) + 1).toNatClampNeg) * (gL σ 56 2)), .long (gL σ 53 0), .long 0] σ 0 0
      refine h_lmul C dX11_isBetween_174 ?_
      refine h_lsub C dX11_isBetween_175 ?_
      refine h_lmul C dX11_isBetween_176 ?_
      refine h_ladd C dX11_isBetween_177 ?_
      refine h_lstore C [(5, .long (0 + ((gL σ 53 0) * (((gL σ 52 ((3 * i) + 1).toNatClampNeg) * (gL σ 56 2)) - ((gL σ 52 ((3 * i) + 2).toNatClampNeg) * (gL σ 56 1)))))), (3, .long (0 + ((gL σ 53 0) * (((gL σ 56 1) * (gL σ 52 ((3 * j) + 2).toNatClampNeg)) - ((gL σ 56 2) * (gL σ 52 ((3 * j) + 1).toNatClampNeg)))))), (9, .int 2), (8, .int 1), (7, .int 0), (0, .ref (ad G 44)), (1, .int i), (2, .int j)] dX11_isBetween_178 (by decide) rfl ?_
      refine h_iinc C [(7, .int 1), (5, .long (0 + ((gL σ 53 0) * (((gL σ 52 ((3 * i) + 1).toNatClampNeg) * (gL σ 56 2)) - ((gL σ 52 ((3 * i) + 2).toNatClampNeg) * (gL σ 56 1)))))), (3, .long (0 + ((gL σ 53 0) * (((gL σ 56 1) * (gL σ 52 ((3 * j) + 2).toNatClampNeg)) - ((gL σ 56 2) * (gL σ 52 ((3 * j) + 1).toNatClampNeg)))))), (9, .int 2), (8, .int 1), (0, .ref (ad G 44)), (1, .int i), (2, .int j)] 4 1 dX11_isBetween_180 rfl rfl (by decide) rfl ?_
      refine h_goto C 56 dX11_isBetween_183 (by decide) ?_
      refine h_iload C 0 dX11_isBetween_56 rfl ?_
      refine h_iconst C 3 dX11_isBetween_58 (by decide) ?_
      refine h_icmp_ge C 186 dX11_isBetween_59 (by decide) (fun c_59 => ?_) (fun c_59 => ?_)
      · exact absurd c_59 (by decide)
      · refine h_iload C 0 dX11_isBetween_62 rfl ?_
        refine h_iconst C 1 dX11_isBetween_64 (by decide) ?_
        refine h_iadd C dX11_isBetween_65 ?_
        show hW _ _ _ _ _ _ _ _ _ _ _ _ _ 66 [(7, .int 1), (5, .long (0 + ((gL σ 53 0) * (((gL σ 52 ((3 * i) + 1).toNatClampNeg) * (gL σ 56 2)) - ((gL σ 52 ((3 * i) + 2).toNatClampNeg) * (gL σ 56 1)))))), (3, .long (0 + ((gL σ 53 0) * (((gL σ 56 1) * (gL σ 52 ((3 * j) + 2).toNatClampNeg)) - ((gL σ 56 2) * (gL σ 52 ((3 * j) + 1).toNatClampNeg)))))), (9, .int 2), (8, .int 1), (0, .ref (ad G 44)), (1, .int i), (2, .int j)] [.int 2] σ 0 0
        refine h_iconst C 3 dX11_isBetween_66 (by decide) ?_
        refine h_irem C dX11_isBetween_67 (by decide) ?_
        show hW _ _ _ _ _ _ _ _ _ _ _ _ _ 68 [(7, .int 1), (5, .long (0 + ((gL σ 53 0) * (((gL σ 52 ((3 * i) + 1).toNatClampNeg) * (gL σ 56 2)) - ((gL σ 52 ((3 * i) + 2).toNatClampNeg) * (gL σ 56 1)))))), (3, .long (0 + ((gL σ 53 0) * (((gL σ 56 1) * (gL σ 52 ((3 * j) + 2).toNatClampNeg)) - ((gL σ 56 2) * (gL σ 52 ((3 * j) + 1).toNatClampNeg)))))), (9, .int 2), (8, .int 1), (0, .ref (ad G 44)), (1, .int i), (2, .int j)] [.int 2] σ 0 0
        refine h_istore C [(8, .int 2), (7, .int 1), (5, .long (0 + ((gL σ 53 0) * (((gL σ 52 ((3 * i) + 1).toNatClampNeg) * (gL σ 56 2)) - ((gL σ 52 ((3 * i) + 2).toNatClampNeg) * (gL σ 56 1)))))), (3, .long (0 + ((gL σ 53 0) * (((gL σ 56 1) * (gL σ 52 ((3 * j) + 2).toNatClampNeg)) - ((gL σ 56 2) * (gL σ 52 ((3 * j) + 1).toNatClampNeg)))))), (9, .int 2), (0, .ref (ad G 44)), (1, .int i), (2, .int j)] dX11_isBetween_68 (by decide) rfl ?_
        refine h_iload C 1 dX11_isBetween_70 rfl ?_
        refine h_iconst C 2 dX11_isBetween_72 (by decide) ?_
        refine h_iadd C dX11_isBetween_73 ?_
        show hW _ _ _ _ _ _ _ _ _ _ _ _ _ 74 [(8, .int 2), (7, .int 1), (5, .long (0 + ((gL σ 53 0) * (((gL σ 52 ((3 * i) + 1).toNatClampNeg) * (gL σ 56 2)) - ((gL σ 52 ((3 * i) + 2).toNatClampNeg) * (gL σ 56 1)))))), (3, .long (0 + ((gL σ 53 0) * (((gL σ 56 1) * (gL σ 52 ((3 * j) + 2).toNatClampNeg)) - ((gL σ 56 2) * (gL σ 52 ((3 * j) + 1).toNatClampNeg)))))), (9, .int 2), (0, .ref (ad G 44)), (1, .int i), (2, .int j)] [.int 3] σ 0 0
        refine h_iconst C 3 dX11_isBetween_74 (by decide) ?_
        refine h_irem C dX11_isBetween_75 (by decide) ?_
        show hW _ _ _ _ _ _ _ _ _ _ _ _ _ 76 [(8, .int 2), (7, .int 1), (5, .long (0 + ((gL σ 53 0) * (((gL σ 52 ((3 * i) + 1).toNatClampNeg) * (gL σ 56 2)) - ((gL σ 52 ((3 * i) + 2).toNatClampNeg) * (gL σ 56 1)))))), (3, .long (0 + ((gL σ 53 0) * (((gL σ 56 1) * (gL σ 52 ((3 * j) + 2).toNatClampNeg)) - ((gL σ 56 2) * (gL σ 52 ((3 * j) + 1).toNatClampNeg)))))), (9, .int 2), (0, .ref (ad G 44)), (1, .int i), (2, .int j)] [.int 0] σ 0 0
        refine h_istore C [(9, .int 0), (8, .int 2), (7, .int 1), (5, .long (0 + ((gL σ 53 0) * (((gL σ 52 ((3 * i) + 1).toNatClampNeg) * (gL σ 56 2)) - ((gL σ 52 ((3 * i) + 2).toNatClampNeg) * (gL σ 56 1)))))), (3, .long (0 + ((gL σ 53 0) * (((gL σ 56 1) * (gL σ 52 ((3 * j) + 2).toNatClampNeg)) - ((gL σ 56 2) * (gL σ 52 ((3 * j) + 1).toNatClampNeg)))))), (0, .ref (ad G 44)), (1, .int i), (2, .int j)] dX11_isBetween_76 (by decide) rfl ?_
        refine h_lload_n C 4 dX11_isBetween_78 rfl rfl ?_
        refine h_aload_n C 5 dX11_isBetween_79 rfl rfl ?_
        refine gfX11_45 C (ty_44 hY) dX11_isBetween_80 ?_
        refine h_tref (b := 53) (rf_44_11 hY) ?_
        refine h_iload C 2 dX11_isBetween_83 rfl ?_
        refine h_lald C (ty_53 hY) (vp32 (N := 3) (by decide) (by decide) (by decide)) dX11_isBetween_85 ?_
        show hW _ _ _ _ _ _ _ _ _ _ _ _ _ 86 [(9, .int 0), (8, .int 2), (7, .int 1), (5, .long (0 + ((gL σ 53 0) * (((gL σ 52 ((3 * i) + 1).toNatClampNeg) * (gL σ 56 2)) - ((gL σ 52 ((3 * i) + 2).toNatClampNeg) * (gL σ 56 1)))))), (3, .long (0 + ((gL σ 53 0) * (((gL σ 56 1) * (gL σ 52 ((3 * j) + 2).toNatClampNeg)) - ((gL σ 56 2) * (gL σ 52 ((3 * j) + 1).toNatClampNeg)))))), (0, .ref (ad G 44)), (1, .int i), (2, .int j)] [.long (gL σ 53 1), .long (0 + ((gL σ 53 0) * (((gL σ 56 1) * (gL σ 52 ((3 * j) + 2).toNatClampNeg)) - ((gL σ 56 2) * (gL σ 52 ((3 * j) + 1).toNatClampNeg)))))] σ 0 0
        refine h_aload_n C 5 dX11_isBetween_86 rfl rfl ?_
        refine gfX11_60 C (ty_44 hY) dX11_isBetween_87 ?_
        refine h_tref (b := 56) (rf_44_16 hY) ?_
        refine h_iload C 1 dX11_isBetween_90 rfl ?_
        refine h_lald C (ty_56 hY) (vp32 (N := 3) (by decide) (by decide) (by decide)) dX11_isBetween_92 ?_
        show hW _ _ _ _ _ _ _ _ _ _ _ _ _ 93 [(9, .int 0), (8, .int 2), (7, .int 1), (5, .long (0 + ((gL σ 53 0) * (((gL σ 52 ((3 * i) + 1).toNatClampNeg) * (gL σ 56 2)) - ((gL σ 52 ((3 * i) + 2).toNatClampNeg) * (gL σ 56 1)))))), (3, .long (0 + ((gL σ 53 0) * (((gL σ 56 1) * (gL σ 52 ((3 * j) + 2).toNatClampNeg)) - ((gL σ 56 2) * (gL σ 52 ((3 * j) + 1).toNatClampNeg)))))), (0, .ref (ad G 44)), (1, .int i), (2, .int j)] [.long (gL σ 56 2), .long (gL σ 53 1), .long (0 + ((gL σ 53 0) * (((gL σ 56 1) * (gL σ 52 ((3 * j) + 2).toNatClampNeg)) - ((gL σ 56 2) * (gL σ 52 ((3 * j) + 1).toNatClampNeg)))))] σ 0 0
        refine h_aload_n C 5 dX11_isBetween_93 rfl rfl ?_
        refine gfX11_41 C (ty_44 hY) dX11_isBetween_94 ?_
        refine h_tref (b := 52) (rf_44_10 hY) ?_
        refine h_iconst C 3 dX11_isBetween_97 (by decide) ?_
        refine h_iload_n C 7 dX11_isBetween_98 rfl rfl ?_
        refine h_imul C dX11_isBetween_99 ?_
        refine h_iload C 0 dX11_isBetween_100 rfl ?_
        refine h_iadd C dX11_isBetween_102 ?_
        refine h_lald C (ty_52 hY) (t30z hj.1 hj.2) dX11_isBetween_103 ?_
        refine h_lmul C dX11_isBetween_104 ?_
        refine h_aload_n C 5 dX11_isBetween_105 rfl rfl ?_
        refine gfX11_60 C (ty_44 hY) dX11_isBetween_106 ?_
        refine h_tref (b := 56) (rf_44_16 hY) ?_
        refine h_iload C 0 dX11_isBetween_109 rfl ?_
        refine h_lald C (ty_56 hY) (vp32 (N := 3) (by decide) (by decide) (by decide)) dX11_isBetween_111 ?_
        show hW _ _ _ _ _ _ _ _ _ _ _ _ _ 112 [(9, .int 0), (8, .int 2), (7, .int 1), (5, .long (0 + ((gL σ 53 0) * (((gL σ 52 ((3 * i) + 1).toNatClampNeg) * (gL σ 56 2)) - ((gL σ 52 ((3 * i) + 2).toNatClampNeg) * (gL σ 56 1)))))), (3, .long (0 + ((gL σ 53 0) * (((gL σ 56 1) * (gL σ 52 ((3 * j) + 2).toNatClampNeg)) - ((gL σ 56 2) * (gL σ 52 ((3 * j) + 1).toNatClampNeg)))))), (0, .ref (ad G 44)), (1, .int i), (2, .int j)] [.long (gL σ 56 0), .long ((gL σ 56 2) * (gL σ 52 ((3 * j) + 0).toNatClampNeg)), .long (gL σ 53 1), .long (0 + ((gL σ 53 0) * (((gL σ 56 1) * (gL σ 52 ((3 * j) + 2).toNatClampNeg)) - ((gL σ 56 2) * (gL σ 52 ((3 * j) + 1).toNatClampNeg)))))] σ 0 0
        refine h_aload_n C 5 dX11_isBetween_112 rfl rfl ?_
        refine gfX11_41 C (ty_44 hY) dX11_isBetween_113 ?_
        refine h_tref (b := 52) (rf_44_10 hY) ?_
        refine h_iconst C 3 dX11_isBetween_116 (by decide) ?_
        refine h_iload_n C 7 dX11_isBetween_117 rfl rfl ?_
        refine h_imul C dX11_isBetween_118 ?_
        refine h_iload C 1 dX11_isBetween_119 rfl ?_
        refine h_iadd C dX11_isBetween_121 ?_
        refine h_lald C (ty_52 hY) (t30 hj.1 hj.2).2.2 dX11_isBetween_122 ?_
        refine h_lmul C dX11_isBetween_123 ?_
        refine h_lsub C dX11_isBetween_124 ?_
        refine h_lmul C dX11_isBetween_125 ?_
        refine h_ladd C dX11_isBetween_126 ?_
        refine h_lstore_n C [(3, .long ((0 + ((gL σ 53 0) * (((gL σ 56 1) * (gL σ 52 ((3 * j) + 2).toNatClampNeg)) - ((gL σ 56 2) * (gL σ 52 ((3 * j) + 1).toNatClampNeg))))) + ((gL σ 53 1) * (((gL σ 56 2) * (gL σ 52 ((3 * j) + 0).toNatClampNeg)) - ((gL σ 56 0) * (gL σ 52 ((3 * j) + 2).toNatClampNeg)))))), (9, .int 0), (8, .int 2), (7, .int 1), (5, .long (0 + ((gL σ 53 0) * (((gL σ 52 ((3 * i) + 1).toNatClampNeg) * (gL σ 56 2)) - ((gL σ 52 ((3 * i) + 2).toNatClampNeg) * (gL σ 56 1)))))), (0, .ref (ad G 44)), (1, .int i), (2, .int j)] dX11_isBetween_127 rfl (by decide) rfl ?_
        refine h_lload C 4 dX11_isBetween_128 rfl ?_
        refine h_aload_n C 5 dX11_isBetween_130 rfl rfl ?_
        refine gfX11_45 C (ty_44 hY) dX11_isBetween_131 ?_
        refine h_tref (b := 53) (rf_44_11 hY) ?_
        refine h_iload C 3 dX11_isBetween_134 rfl ?_
        refine h_lald C (ty_53 hY) (vp32 (N := 3) (by decide) (by decide) (by decide)) dX11_isBetween_136 ?_
        show hW _ _ _ _ _ _ _ _ _ _ _ _ _ 137 [(3, .long ((0 + ((gL σ 53 0) * (((gL σ 56 1) * (gL σ 52 ((3 * j) + 2).toNatClampNeg)) - ((gL σ 56 2) * (gL σ 52 ((3 * j) + 1).toNatClampNeg))))) + ((gL σ 53 1) * (((gL σ 56 2) * (gL σ 52 ((3 * j) + 0).toNatClampNeg)) - ((gL σ 56 0) * (gL σ 52 ((3 * j) + 2).toNatClampNeg)))))), (9, .int 0), (8, .int 2), (7, .int 1), (5, .long (0 + ((gL σ 53 0) * (((gL σ 52 ((3 * i) + 1).toNatClampNeg) * (gL σ 56 2)) - ((gL σ 52 ((3 * i) + 2).toNatClampNeg) * (gL σ 56 1)))))), (0, .ref (ad G 44)), (1, .int i), (2, .int j)] [.long (gL σ 53 1), .long (0 + ((gL σ 53 0) * (((gL σ 52 ((3 * i) + 1).toNatClampNeg) * (gL σ 56 2)) - ((gL σ 52 ((3 * i) + 2).toNatClampNeg) * (gL σ 56 1)))))] σ 0 0
        refine h_aload_n C 5 dX11_isBetween_137 rfl rfl ?_
        refine gfX11_41 C (ty_44 hY) dX11_isBetween_138 ?_
        refine h_tref (b := 52) (rf_44_10 hY) ?_
        refine h_iconst C 3 dX11_isBetween_141 (by decide) ?_
        refine h_iload_n C 6 dX11_isBetween_142 rfl rfl ?_
        refine h_imul C dX11_isBetween_143 ?_
        refine h_iload C 2 dX11_isBetween_144 rfl ?_
        refine h_iadd C dX11_isBetween_146 ?_
        refine h_lald C (ty_52 hY) (t30 hi.1 hi.2).2.2 dX11_isBetween_147 ?_
        refine h_aload_n C 5 dX11_isBetween_148 rfl rfl ?_
        refine gfX11_60 C (ty_44 hY) dX11_isBetween_149 ?_
        refine h_tref (b := 56) (rf_44_16 hY) ?_
        refine h_iload C 1 dX11_isBetween_152 rfl ?_
        refine h_lald C (ty_56 hY) (vp32 (N := 3) (by decide) (by decide) (by decide)) dX11_isBetween_154 ?_
        show hW _ _ _ _ _ _ _ _ _ _ _ _ _ 155 [(3, .long ((0 + ((gL σ 53 0) * (((gL σ 56 1) * (gL σ 52 ((3 * j) + 2).toNatClampNeg)) - ((gL σ 56 2) * (gL σ 52 ((3 * j) + 1).toNatClampNeg))))) + ((gL σ 53 1) * (((gL σ 56 2) * (gL σ 52 ((3 * j) + 0).toNatClampNeg)) - ((gL σ 56 0) * (gL σ 52 ((3 * j) + 2).toNatClampNeg)))))), (9, .int 0), (8, .int 2), (7, .int 1), (5, .long (0 + ((gL σ 53 0) * (((gL σ 52 ((3 * i) + 1).toNatClampNeg) * (gL σ 56 2)) - ((gL σ 52 ((3 * i) + 2).toNatClampNeg) * (gL σ 56 1)))))), (0, .ref (ad G 44)), (1, .int i), (2, .int j)] [.long (gL σ 56 0), .long (gL σ 52 ((3 * i) + 2).toNatClampNeg), .long (gL σ 53 1), .long (0 + ((gL σ 53 0) * (((gL σ 52 ((3 * i) + 1).toNatClampNeg) * (gL σ 56 2)) - ((gL σ 52 ((3 * i) + 2).toNatClampNeg) * (gL σ 56 1)))))] σ 0 0
        refine h_lmul C dX11_isBetween_155 ?_
        refine h_aload_n C 5 dX11_isBetween_156 rfl rfl ?_
        refine gfX11_41 C (ty_44 hY) dX11_isBetween_157 ?_
        refine h_tref (b := 52) (rf_44_10 hY) ?_
        refine h_iconst C 3 dX11_isBetween_160 (by decide) ?_
        refine h_iload_n C 6 dX11_isBetween_161 rfl rfl ?_
        refine h_imul C dX11_isBetween_162 ?_
        refine h_iload C 1 dX11_isBetween_163 rfl ?_
        refine h_iadd C dX11_isBetween_165 ?_
        refine h_lald C (ty_52 hY) (t30z hi.1 hi.2) dX11_isBetween_166 ?_
        refine h_aload_n C 5 dX11_isBetween_167 rfl rfl ?_
        refine gfX11_60 C (ty_44 hY) dX11_isBetween_168 ?_
        refine h_tref (b := 56) (rf_44_16 hY) ?_
        refine h_iload C 2 dX11_isBetween_171 rfl ?_
        refine h_lald C (ty_56 hY) (vp32 (N := 3) (by decide) (by decide) (by decide)) dX11_isBetween_173 ?_
        show hW _ _ _ _ _ _ _ _ _ _ _ _ _ 174 [(3, .long ((0 + ((gL σ 53 0) * (((gL σ 56 1) * (gL σ 52 ((3 * j) + 2).toNatClampNeg)) - ((gL σ 56 2) * (gL σ 52 ((3 * j) + 1).toNatClampNeg))))) + ((gL σ 53 1) * (((gL σ 56 2) * (gL σ 52 ((3 * j) + 0).toNatClampNeg)) - ((gL σ 56 0) * (gL σ 52 ((3 * j) + 2).toNatClampNeg)))))), (9, .int 0), (8, .int 2), (7, .int 1), (5, .long (0 + ((gL σ 53 0) * (((gL σ 52 ((3 * i) + 1).toNatClampNeg) * (gL σ 56 2)) - ((gL σ 52 ((3 * i) + 2).toNatClampNeg) * (gL σ 56 1)))))), (0, .ref (ad G 44)), (1, .int i), (2, .int j)] [.long (gL σ 56 2), .long (gL σ 52 ((3 * i) + 0).toNatClampNeg), .long ((gL σ 52 ((3 * i) + 2).toNatClampNeg) * (gL σ 56 0)), .long (gL σ 53 1), .long (0 + ((gL σ 53 0) * (((gL σ 52 ((3 * i) + 1).toNatClampNeg) * (gL σ 56 2)) - ((gL σ 52 ((3 * i) + 2).toNatClampNeg) * (gL σ 56 1)))))] σ 0 0
        refine h_lmul C dX11_isBetween_174 ?_
        refine h_lsub C dX11_isBetween_175 ?_
        refine h_lmul C dX11_isBetween_176 ?_
        refine h_ladd C dX11_isBetween_177 ?_
        refine h_lstore C [(5, .long ((0 + ((gL σ 53 0) * (((gL σ 52 ((3 * i) + 1).toNatClampNeg) * (gL σ 56 2)) - ((gL σ 52 ((3 * i) + 2).toNatClampNeg) * (gL σ 56 1))))) + ((gL σ 53 1) * (((gL σ 52 ((3 * i) + 2).toNatClampNeg) * (gL σ 56 0)) - ((gL σ 52 ((3 * i) + 0).toNatClampNeg) * (gL σ 56 2)))))), (3, .long ((0 + ((gL σ 53 0) * (((gL σ 56 1) * (gL σ 52 ((3 * j) + 2).toNatClampNeg)) - ((gL σ 56 2) * (gL σ 52 ((3 * j) + 1).toNatClampNeg))))) + ((gL σ 53 1) * (((gL σ 56 2) * (gL σ 52 ((3 * j) + 0).toNatClampNeg)) - ((gL σ 56 0) * (gL σ 52 ((3 * j) + 2).toNatClampNeg)))))), (9, .int 0), (8, .int 2), (7, .int 1), (0, .ref (ad G 44)), (1, .int i), (2, .int j)] dX11_isBetween_178 (by decide) rfl ?_
        refine h_iinc C [(7, .int 2), (5, .long ((0 + ((gL σ 53 0) * (((gL σ 52 ((3 * i) + 1).toNatClampNeg) * (gL σ 56 2)) - ((gL σ 52 ((3 * i) + 2).toNatClampNeg) * (gL σ 56 1))))) + ((gL σ 53 1) * (((gL σ 52 ((3 * i) + 2).toNatClampNeg) * (gL σ 56 0)) - ((gL σ 52 ((3 * i) + 0).toNatClampNeg) * (gL σ 56 2)))))), (3, .long ((0 + ((gL σ 53 0) * (((gL σ 56 1) * (gL σ 52 ((3 * j) + 2).toNatClampNeg)) - ((gL σ 56 2) * (gL σ 52 ((3 * j) + 1).toNatClampNeg))))) + ((gL σ 53 1) * (((gL σ 56 2) * (gL σ 52 ((3 * j) + 0).toNatClampNeg)) - ((gL σ 56 0) * (gL σ 52 ((3 * j) + 2).toNatClampNeg)))))), (9, .int 0), (8, .int 2), (0, .ref (ad G 44)), (1, .int i), (2, .int j)] 4 2 dX11_isBetween_180 rfl rfl (by decide) rfl ?_
        refine h_goto C 56 dX11_isBetween_183 (by decide) ?_
        refine h_iload C 0 dX11_isBetween_56 rfl ?_
        refine h_iconst C 3 dX11_isBetween_58 (by decide) ?_
        refine h_icmp_ge C 186 dX11_isBetween_59 (by decide) (fun c_59 => ?_) (fun c_59 => ?_)
        · exact absurd c_59 (by decide)
        · refine h_iload C 0 dX11_isBetween_62 rfl ?_
          refine h_iconst C 1 dX11_isBetween_64 (by decide) ?_
          refine h_iadd C dX11_isBetween_65 ?_
          show hW _ _ _ _ _ _ _ _ _ _ _ _ _ 66 [(7, .int 2), (5, .long ((0 + ((gL σ 53 0) * (((gL σ 52 ((3 * i) + 1).toNatClampNeg) * (gL σ 56 2)) - ((gL σ 52 ((3 * i) + 2).toNatClampNeg) * (gL σ 56 1))))) + ((gL σ 53 1) * (((gL σ 52 ((3 * i) + 2).toNatClampNeg) * (gL σ 56 0)) - ((gL σ 52 ((3 * i) + 0).toNatClampNeg) * (gL σ 56 2)))))), (3, .long ((0 + ((gL σ 53 0) * (((gL σ 56 1) * (gL σ 52 ((3 * j) + 2).toNatClampNeg)) - ((gL σ 56 2) * (gL σ 52 ((3 * j) + 1).toNatClampNeg))))) + ((gL σ 53 1) * (((gL σ 56 2) * (gL σ 52 ((3 * j) + 0).toNatClampNeg)) - ((gL σ 56 0) * (gL σ 52 ((3 * j) + 2).toNatClampNeg)))))), (9, .int 0), (8, .int 2), (0, .ref (ad G 44)), (1, .int i), (2, .int j)] [.int 3] σ 0 0
          refine h_iconst C 3 dX11_isBetween_66 (by decide) ?_
          refine h_irem C dX11_isBetween_67 (by decide) ?_
          show hW _ _ _ _ _ _ _ _ _ _ _ _ _ 68 [(7, .int 2), (5, .long ((0 + ((gL σ 53 0) * (((gL σ 52 ((3 * i) + 1).toNatClampNeg) * (gL σ 56 2)) - ((gL σ 52 ((3 * i) + 2).toNatClampNeg) * (gL σ 56 1))))) + ((gL σ 53 1) * (((gL σ 52 ((3 * i) + 2).toNatClampNeg) * (gL σ 56 0)) - ((gL σ 52 ((3 * i) + 0).toNatClampNeg) * (gL σ 56 2)))))), (3, .long ((0 + ((gL σ 53 0) * (((gL σ 56 1) * (gL σ 52 ((3 * j) + 2).toNatClampNeg)) - ((gL σ 56 2) * (gL σ 52 ((3 * j) + 1).toNatClampNeg))))) + ((gL σ 53 1) * (((gL σ 56 2) * (gL σ 52 ((3 * j) + 0).toNatClampNeg)) - ((gL σ 56 0) * (gL σ 52 ((3 * j) + 2).toNatClampNeg)))))), (9, .int 0), (8, .int 2), (0, .ref (ad G 44)), (1, .int i), (2, .int j)] [.int 0] σ 0 0
          refine h_istore C [(8, .int 0), (7, .int 2), (5, .long ((0 + ((gL σ 53 0) * (((gL σ 52 ((3 * i) + 1).toNatClampNeg) * (gL σ 56 2)) - ((gL σ 52 ((3 * i) + 2).toNatClampNeg) * (gL σ 56 1))))) + ((gL σ 53 1) * (((gL σ 52 ((3 * i) + 2).toNatClampNeg) * (gL σ 56 0)) - ((gL σ 52 ((3 * i) + 0).toNatClampNeg) * (gL σ 56 2)))))), (3, .long ((0 + ((gL σ 53 0) * (((gL σ 56 1) * (gL σ 52 ((3 * j) + 2).toNatClampNeg)) - ((gL σ 56 2) * (gL σ 52 ((3 * j) + 1).toNatClampNeg))))) + ((gL σ 53 1) * (((gL σ 56 2) * (gL σ 52 ((3 * j) + 0).toNatClampNeg)) - ((gL σ 56 0) * (gL σ 52 ((3 * j) + 2).toNatClampNeg)))))), (9, .int 0), (0, .ref (ad G 44)), (1, .int i), (2, .int j)] dX11_isBetween_68 (by decide) rfl ?_
          refine h_iload C 1 dX11_isBetween_70 rfl ?_
          refine h_iconst C 2 dX11_isBetween_72 (by decide) ?_
          refine h_iadd C dX11_isBetween_73 ?_
          show hW _ _ _ _ _ _ _ _ _ _ _ _ _ 74 [(8, .int 0), (7, .int 2), (5, .long ((0 + ((gL σ 53 0) * (((gL σ 52 ((3 * i) + 1).toNatClampNeg) * (gL σ 56 2)) - ((gL σ 52 ((3 * i) + 2).toNatClampNeg) * (gL σ 56 1))))) + ((gL σ 53 1) * (((gL σ 52 ((3 * i) + 2).toNatClampNeg) * (gL σ 56 0)) - ((gL σ 52 ((3 * i) + 0).toNatClampNeg) * (gL σ 56 2)))))), (3, .long ((0 + ((gL σ 53 0) * (((gL σ 56 1) * (gL σ 52 ((3 * j) + 2).toNatClampNeg)) - ((gL σ 56 2) * (gL σ 52 ((3 * j) + 1).toNatClampNeg))))) + ((gL σ 53 1) * (((gL σ 56 2) * (gL σ 52 ((3 * j) + 0).toNatClampNeg)) - ((gL σ 56 0) * (gL σ 52 ((3 * j) + 2).toNatClampNeg)))))), (9, .int 0), (0, .ref (ad G 44)), (1, .int i), (2, .int j)] [.int 4] σ 0 0
          refine h_iconst C 3 dX11_isBetween_74 (by decide) ?_
          refine h_irem C dX11_isBetween_75 (by decide) ?_
          show hW _ _ _ _ _ _ _ _ _ _ _ _ _ 76 [(8, .int 0), (7, .int 2), (5, .long ((0 + ((gL σ 53 0) * (((gL σ 52 ((3 * i) + 1).toNatClampNeg) * (gL σ 56 2)) - ((gL σ 52 ((3 * i) + 2).toNatClampNeg) * (gL σ 56 1))))) + ((gL σ 53 1) * (((gL σ 52 ((3 * i) + 2).toNatClampNeg) * (gL σ 56 0)) - ((gL σ 52 ((3 * i) + 0).toNatClampNeg) * (gL σ 56 2)))))), (3, .long ((0 + ((gL σ 53 0) * (((gL σ 56 1) * (gL σ 52 ((3 * j) + 2).toNatClampNeg)) - ((gL σ 56 2) * (gL σ 52 ((3 * j) + 1).toNatClampNeg))))) + ((gL σ 53 1) * (((gL σ 56 2) * (gL σ 52 ((3 * j) + 0).toNatClampNeg)) - ((gL σ 56 0) * (gL σ 52 ((3 * j) + 2).toNatClampNeg)))))), (9, .int 0), (0, .ref (ad G 44)), (1, .int i), (2, .int j)] [.int 1] σ 0 0
          refine h_istore C [(9, .int 1), (8, .int 0), (7, .int 2), (5, .long ((0 + ((gL σ 53 0) * (((gL σ 52 ((3 * i) + 1).toNatClampNeg) * (gL σ 56 2)) - ((gL σ 52 ((3 * i) + 2).toNatClampNeg) * (gL σ 56 1))))) + ((gL σ 53 1) * (((gL σ 52 ((3 * i) + 2).toNatClampNeg) * (gL σ 56 0)) - ((gL σ 52 ((3 * i) + 0).toNatClampNeg) * (gL σ 56 2)))))), (3, .long ((0 + ((gL σ 53 0) * (((gL σ 56 1) * (gL σ 52 ((3 * j) + 2).toNatClampNeg)) - ((gL σ 56 2) * (gL σ 52 ((3 * j) + 1).toNatClampNeg))))) + ((gL σ 53 1) * (((gL σ 56 2) * (gL σ 52 ((3 * j) + 0).toNatClampNeg)) - ((gL σ 56 0) * (gL σ 52 ((3 * j) + 2).toNatClampNeg)))))), (0, .ref (ad G 44)), (1, .int i), (2, .int j)] dX11_isBetween_76 (by decide) rfl ?_
          refine h_lload_n C 4 dX11_isBetween_78 rfl rfl ?_
          refine h_aload_n C 5 dX11_isBetween_79 rfl rfl ?_
          refine gfX11_45 C (ty_44 hY) dX11_isBetween_80 ?_
          refine h_tref (b := 53) (rf_44_11 hY) ?_
          refine h_iload C 2 dX11_isBetween_83 rfl ?_
          refine h_lald C (ty_53 hY) (vp32 (N := 3) (by decide) (by decide) (by decide)) dX11_isBetween_85 ?_
          show hW _ _ _ _ _ _ _ _ _ _ _ _ _ 86 [(9, .int 1), (8, .int 0), (7, .int 2), (5, .long ((0 + ((gL σ 53 0) * (((gL σ 52 ((3 * i) + 1).toNatClampNeg) * (gL σ 56 2)) - ((gL σ 52 ((3 * i) + 2).toNatClampNeg) * (gL σ 56 1))))) + ((gL σ 53 1) * (((gL σ 52 ((3 * i) + 2).toNatClampNeg) * (gL σ 56 0)) - ((gL σ 52 ((3 * i) + 0).toNatClampNeg) * (gL σ 56 2)))))), (3, .long ((0 + ((gL σ 53 0) * (((gL σ 56 1) * (gL σ 52 ((3 * j) + 2).toNatClampNeg)) - ((gL σ 56 2) * (gL σ 52 ((3 * j) + 1).toNatClampNeg))))) + ((gL σ 53 1) * (((gL σ 56 2) * (gL σ 52 ((3 * j) + 0).toNatClampNeg)) - ((gL σ 56 0) * (gL σ 52 ((3 * j) + 2).toNatClampNeg)))))), (0, .ref (ad G 44)), (1, .int i), (2, .int j)] [.long (gL σ 53 2), .long ((0 + ((gL σ 53 0) * (((gL σ 56 1) * (gL σ 52 ((3 * j) + 2).toNatClampNeg)) - ((gL σ 56 2) * (gL σ 52 ((3 * j) + 1).toNatClampNeg))))) + ((gL σ 53 1) * (((gL σ 56 2) * (gL σ 52 ((3 * j) + 0).toNatClampNeg)) - ((gL σ 56 0) * (gL σ 52 ((3 * j) + 2).toNatClampNeg)))))] σ 0 0
          refine h_aload_n C 5 dX11_isBetween_86 rfl rfl ?_
          refine gfX11_60 C (ty_44 hY) dX11_isBetween_87 ?_
          refine h_tref (b := 56) (rf_44_16 hY) ?_
          refine h_iload C 1 dX11_isBetween_90 rfl ?_
          refine h_lald C (ty_56 hY) (vp32 (N := 3) (by decide) (by decide) (by decide)) dX11_isBetween_92 ?_
          show hW _ _ _ _ _ _ _ _ _ _ _ _ _ 93 [(9, .int 1), (8, .int 0), (7, .int 2), (5, .long ((0 + ((gL σ 53 0) * (((gL σ 52 ((3 * i) + 1).toNatClampNeg) * (gL σ 56 2)) - ((gL σ 52 ((3 * i) + 2).toNatClampNeg) * (gL σ 56 1))))) + ((gL σ 53 1) * (((gL σ 52 ((3 * i) + 2).toNatClampNeg) * (gL σ 56 0)) - ((gL σ 52 ((3 * i) + 0).toNatClampNeg) * (gL σ 56 2)))))), (3, .long ((0 + ((gL σ 53 0) * (((gL σ 56 1) * (gL σ 52 ((3 * j) + 2).toNatClampNeg)) - ((gL σ 56 2) * (gL σ 52 ((3 * j) + 1).toNatClampNeg))))) + ((gL σ 53 1) * (((gL σ 56 2) * (gL σ 52 ((3 * j) + 0).toNatClampNeg)) - ((gL σ 56 0) * (gL σ 52 ((3 * j) + 2).toNatClampNeg)))))), (0, .ref (ad G 44)), (1, .int i), (2, .int j)] [.long (gL σ 56 0), .long (gL σ 53 2), .long ((0 + ((gL σ 53 0) * (((gL σ 56 1) * (gL σ 52 ((3 * j) + 2).toNatClampNeg)) - ((gL σ 56 2) * (gL σ 52 ((3 * j) + 1).toNatClampNeg))))) + ((gL σ 53 1) * (((gL σ 56 2) * (gL σ 52 ((3 * j) + 0).toNatClampNeg)) - ((gL σ 56 0) * (gL σ 52 ((3 * j) + 2).toNatClampNeg)))))] σ 0 0
          refine h_aload_n C 5 dX11_isBetween_93 rfl rfl ?_
          refine gfX11_41 C (ty_44 hY) dX11_isBetween_94 ?_
          refine h_tref (b := 52) (rf_44_10 hY) ?_
          refine h_iconst C 3 dX11_isBetween_97 (by decide) ?_
          refine h_iload_n C 7 dX11_isBetween_98 rfl rfl ?_
          refine h_imul C dX11_isBetween_99 ?_
          refine h_iload C 0 dX11_isBetween_100 rfl ?_
          refine h_iadd C dX11_isBetween_102 ?_
          refine h_lald C (ty_52 hY) (t30 hj.1 hj.2).2.1 dX11_isBetween_103 ?_
          refine h_lmul C dX11_isBetween_104 ?_
          refine h_aload_n C 5 dX11_isBetween_105 rfl rfl ?_
          refine gfX11_60 C (ty_44 hY) dX11_isBetween_106 ?_
          refine h_tref (b := 56) (rf_44_16 hY) ?_
          refine h_iload C 0 dX11_isBetween_109 rfl ?_
          refine h_lald C (ty_56 hY) (vp32 (N := 3) (by decide) (by decide) (by decide)) dX11_isBetween_111 ?_
          show hW _ _ _ _ _ _ _ _ _ _ _ _ _ 112 [(9, .int 1), (8, .int 0), (7, .int 2), (5, .long ((0 + ((gL σ 53 0) * (((gL σ 52 ((3 * i) + 1).toNatClampNeg) * (gL σ 56 2)) - ((gL σ 52 ((3 * i) + 2).toNatClampNeg) * (gL σ 56 1))))) + ((gL σ 53 1) * (((gL σ 52 ((3 * i) + 2).toNatClampNeg) * (gL σ 56 0)) - ((gL σ 52 ((3 * i) + 0).toNatClampNeg) * (gL σ 56 2)))))), (3, .long ((0 + ((gL σ 53 0) * (((gL σ 56 1) * (gL σ 52 ((3 * j) + 2).toNatClampNeg)) - ((gL σ 56 2) * (gL σ 52 ((3 * j) + 1).toNatClampNeg))))) + ((gL σ 53 1) * (((gL σ 56 2) * (gL σ 52 ((3 * j) + 0).toNatClampNeg)) - ((gL σ 56 0) * (gL σ 52 ((3 * j) + 2).toNatClampNeg)))))), (0, .ref (ad G 44)), (1, .int i), (2, .int j)] [.long (gL σ 56 1), .long ((gL σ 56 0) * (gL σ 52 ((3 * j) + 1).toNatClampNeg)), .long (gL σ 53 2), .long ((0 + ((gL σ 53 0) * (((gL σ 56 1) * (gL σ 52 ((3 * j) + 2).toNatClampNeg)) - ((gL σ 56 2) * (gL σ 52 ((3 * j) + 1).toNatClampNeg))))) + ((gL σ 53 1) * (((gL σ 56 2) * (gL σ 52 ((3 * j) + 0).toNatClampNeg)) - ((gL σ 56 0) * (gL σ 52 ((3 * j) + 2).toNatClampNeg)))))] σ 0 0
          refine h_aload_n C 5 dX11_isBetween_112 rfl rfl ?_
          refine gfX11_41 C (ty_44 hY) dX11_isBetween_113 ?_
          refine h_tref (b := 52) (rf_44_10 hY) ?_
          refine h_iconst C 3 dX11_isBetween_116 (by decide) ?_
          refine h_iload_n C 7 dX11_isBetween_117 rfl rfl ?_
          refine h_imul C dX11_isBetween_118 ?_
          refine h_iload C 1 dX11_isBetween_119 rfl ?_
          refine h_iadd C dX11_isBetween_121 ?_
          refine h_lald C (ty_52 hY) (t30z hj.1 hj.2) dX11_isBetween_122 ?_
          refine h_lmul C dX11_isBetween_123 ?_
          refine h_lsub C dX11_isBetween_124 ?_
          refine h_lmul C dX11_isBetween_125 ?_
          refine h_ladd C dX11_isBetween_126 ?_
          refine h_lstore_n C [(3, .long (((0 + ((gL σ 53 0) * (((gL σ 56 1) * (gL σ 52 ((3 * j) + 2).toNatClampNeg)) - ((gL σ 56 2) * (gL σ 52 ((3 * j) + 1).toNatClampNeg))))) + ((gL σ 53 1) * (((gL σ 56 2) * (gL σ 52 ((3 * j) + 0).toNatClampNeg)) - ((gL σ 56 0) * (gL σ 52 ((3 * j) + 2).toNatClampNeg))))) + ((gL σ 53 2) * (((gL σ 56 0) * (gL σ 52 ((3 * j) + 1).toNatClampNeg)) - ((gL σ 56 1) * (gL σ 52 ((3 * j) + 0).toNatClampNeg)))))), (9, .int 1), (8, .int 0), (7, .int 2), (5, .long ((0 + ((gL σ 53 0) * (((gL σ 52 ((3 * i) + 1).toNatClampNeg) * (gL σ 56 2)) - ((gL σ 52 ((3 * i) + 2).toNatClampNeg) * (gL σ 56 1))))) + ((gL σ 53 1) * (((gL σ 52 ((3 * i) + 2).toNatClampNeg) * (gL σ 56 0)) - ((gL σ 52 ((3 * i) + 0).toNatClampNeg) * (gL σ 56 2)))))), (0, .ref (ad G 44)), (1, .int i), (2, .int j)] dX11_isBetween_127 rfl (by decide) rfl ?_
          refine h_lload C 4 dX11_isBetween_128 rfl ?_
          refine h_aload_n C 5 dX11_isBetween_130 rfl rfl ?_
          refine gfX11_45 C (ty_44 hY) dX11_isBetween_131 ?_
          refine h_tref (b := 53) (rf_44_11 hY) ?_
          refine h_iload C 3 dX11_isBetween_134 rfl ?_
          refine h_lald C (ty_53 hY) (vp32 (N := 3) (by decide) (by decide) (by decide)) dX11_isBetween_136 ?_
          show hW _ _ _ _ _ _ _ _ _ _ _ _ _ 137 [(3, .long (((0 + ((gL σ 53 0) * (((gL σ 56 1) * (gL σ 52 ((3 * j) + 2).toNatClampNeg)) - ((gL σ 56 2) * (gL σ 52 ((3 * j) + 1).toNatClampNeg))))) + ((gL σ 53 1) * (((gL σ 56 2) * (gL σ 52 ((3 * j) + 0).toNatClampNeg)) - ((gL σ 56 0) * (gL σ 52 ((3 * j) + 2).toNatClampNeg))))) + ((gL σ 53 2) * (((gL σ 56 0) * (gL σ 52 ((3 * j) + 1).toNatClampNeg)) - ((gL σ 56 1) * (gL σ 52 ((3 * j) + 0).toNatClampNeg)))))), (9, .int 1), (8, .int 0), (7, .int 2), (5, .long ((0 + ((gL σ 53 0) * (((gL σ 52 ((3 * i) + 1).toNatClampNeg) * (gL σ 56 2)) - ((gL σ 52 ((3 * i) + 2).toNatClampNeg) * (gL σ 56 1))))) + ((gL σ 53 1) * (((gL σ 52 ((3 * i) + 2).toNatClampNeg) * (gL σ 56 0)) - ((gL σ 52 ((3 * i) + 0).toNatClampNeg) * (gL σ 56 2)))))), (0, .ref (ad G 44)), (1, .int i), (2, .int j)] [.long (gL σ 53 2), .long ((0 + ((gL σ 53 0) * (((gL σ 52 ((3 * i) + 1).toNatClampNeg) * (gL σ 56 2)) - ((gL σ 52 ((3 * i) + 2).toNatClampNeg) * (gL σ 56 1))))) + ((gL σ 53 1) * (((gL σ 52 ((3 * i) + 2).toNatClampNeg) * (gL σ 56 0)) - ((gL σ 52 ((3 * i) + 0).toNatClampNeg) * (gL σ 56 2)))))] σ 0 0
          refine h_aload_n C 5 dX11_isBetween_137 rfl rfl ?_
          refine gfX11_41 C (ty_44 hY) dX11_isBetween_138 ?_
          refine h_tref (b := 52) (rf_44_10 hY) ?_
          refine h_iconst C 3 dX11_isBetween_141 (by decide) ?_
          refine h_iload_n C 6 dX11_isBetween_142 rfl rfl ?_
          refine h_imul C dX11_isBetween_143 ?_
          refine h_iload C 2 dX11_isBetween_144 rfl ?_
          refine h_iadd C dX11_isBetween_146 ?_
          refine h_lald C (ty_52 hY) (t30z hi.1 hi.2) dX11_isBetween_147 ?_
          refine h_aload_n C 5 dX11_isBetween_148 rfl rfl ?_
          refine gfX11_60 C (ty_44 hY) dX11_isBetween_149 ?_
          refine h_tref (b := 56) (rf_44_16 hY) ?_
          refine h_iload C 1 dX11_isBetween_152 rfl ?_
          refine h_lald C (ty_56 hY) (vp32 (N := 3) (by decide) (by decide) (by decide)) dX11_isBetween_154 ?_
          show hW _ _ _ _ _ _ _ _ _ _ _ _ _ 155 [(3, .long (((0 + ((gL σ 53 0) * (((gL σ 56 1) * (gL σ 52 ((3 * j) + 2).toNatClampNeg)) - ((gL σ 56 2) * (gL σ 52 ((3 * j) + 1).toNatClampNeg))))) + ((gL σ 53 1) * (((gL σ 56 2) * (gL σ 52 ((3 * j) + 0).toNatClampNeg)) - ((gL σ 56 0) * (gL σ 52 ((3 * j) + 2).toNatClampNeg))))) + ((gL σ 53 2) * (((gL σ 56 0) * (gL σ 52 ((3 * j) + 1).toNatClampNeg)) - ((gL σ 56 1) * (gL σ 52 ((3 * j) + 0).toNatClampNeg)))))), (9, .int 1), (8, .int 0), (7, .int 2), (5, .long ((0 + ((gL σ 53 0) * (((gL σ 52 ((3 * i) + 1).toNatClampNeg) * (gL σ 56 2)) - ((gL σ 52 ((3 * i) + 2).toNatClampNeg) * (gL σ 56 1))))) + ((gL σ 53 1) * (((gL σ 52 ((3 * i) + 2).toNatClampNeg) * (gL σ 56 0)) - ((gL σ 52 ((3 * i) + 0).toNatClampNeg) * (gL σ 56 2)))))), (0, .ref (ad G 44)), (1, .int i), (2, .int j)] [.long (gL σ 56 1), .long (gL σ 52 ((3 * i) + 0).toNatClampNeg), .long (gL σ 53 2), .long ((0 + ((gL σ 53 0) * (((gL σ 52 ((3 * i) + 1).toNatClampNeg) * (gL σ 56 2)) - ((gL σ 52 ((3 * i) + 2).toNatClampNeg) * (gL σ 56 1))))) + ((gL σ 53 1) * (((gL σ 52 ((3 * i) + 2).toNatClampNeg) * (gL σ 56 0)) - ((gL σ 52 ((3 * i) + 0).toNatClampNeg) * (gL σ 56 2)))))] σ 0 0
          refine h_lmul C dX11_isBetween_155 ?_
          refine h_aload_n C 5 dX11_isBetween_156 rfl rfl ?_
          refine gfX11_41 C (ty_44 hY) dX11_isBetween_157 ?_
          refine h_tref (b := 52) (rf_44_10 hY) ?_
          refine h_iconst C 3 dX11_isBetween_160 (by decide) ?_
          refine h_iload_n C 6 dX11_isBetween_161 rfl rfl ?_
          refine h_imul C dX11_isBetween_162 ?_
          refine h_iload C 1 dX11_isBetween_163 rfl ?_
          refine h_iadd C dX11_isBetween_165 ?_
          refine h_lald C (ty_52 hY) (t30 hi.1 hi.2).2.1 dX11_isBetween_166 ?_
          refine h_aload_n C 5 dX11_isBetween_167 rfl rfl ?_
          refine gfX11_60 C (ty_44 hY) dX11_isBetween_168 ?_
          refine h_tref (b := 56) (rf_44_16 hY) ?_
          refine h_iload C 2 dX11_isBetween_171 rfl ?_
          refine h_lald C (ty_56 hY) (vp32 (N := 3) (by decide) (by decide) (by decide)) dX11_isBetween_173 ?_
          show hW _ _ _ _ _ _ _ _ _ _ _ _ _ 174 [(3, .long (((0 + ((gL σ 53 0) * (((gL σ 56 1) * (gL σ 52 ((3 * j) + 2).toNatClampNeg)) - ((gL σ 56 2) * (gL σ 52 ((3 * j) + 1).toNatClampNeg))))) + ((gL σ 53 1) * (((gL σ 56 2) * (gL σ 52 ((3 * j) + 0).toNatClampNeg)) - ((gL σ 56 0) * (gL σ 52 ((3 * j) + 2).toNatClampNeg))))) + ((gL σ 53 2) * (((gL σ 56 0) * (gL σ 52 ((3 * j) + 1).toNatClampNeg)) - ((gL σ 56 1) * (gL σ 52 ((3 * j) + 0).toNatClampNeg)))))), (9, .int 1), (8, .int 0), (7, .int 2), (5, .long ((0 + ((gL σ 53 0) * (((gL σ 52 ((3 * i) + 1).toNatClampNeg) * (gL σ 56 2)) - ((gL σ 52 ((3 * i) + 2).toNatClampNeg) * (gL σ 56 1))))) + ((gL σ 53 1) * (((gL σ 52 ((3 * i) + 2).toNatClampNeg) * (gL σ 56 0)) - ((gL σ 52 ((3 * i) + 0).toNatClampNeg) * (gL σ 56 2)))))), (0, .ref (ad G 44)), (1, .int i), (2, .int j)] [.long (gL σ 56 0), .long (gL σ 52 ((3 * i) + 1).toNatClampNeg), .long ((gL σ 52 ((3 * i) + 0).toNatClampNeg) * (gL σ 56 1)), .long (gL σ 53 2), .long ((0 + ((gL σ 53 0) * (((gL σ 52 ((3 * i) + 1).toNatClampNeg) * (gL σ 56 2)) - ((gL σ 52 ((3 * i) + 2).toNatClampNeg) * (gL σ 56 1))))) + ((gL σ 53 1) * (((gL σ 52 ((3 * i) + 2).toNatClampNeg) * (gL σ 56 0)) - ((gL σ 52 ((3 * i) + 0).toNatClampNeg) * (gL σ 56 2)))))] σ 0 0
          refine h_lmul C dX11_isBetween_174 ?_
          refine h_lsub C dX11_isBetween_175 ?_
          refine h_lmul C dX11_isBetween_176 ?_
          refine h_ladd C dX11_isBetween_177 ?_
          refine h_lstore C [(5, .long (((0 + ((gL σ 53 0) * (((gL σ 52 ((3 * i) + 1).toNatClampNeg) * (gL σ 56 2)) - ((gL σ 52 ((3 * i) + 2).toNatClampNeg) * (gL σ 56 1))))) + ((gL σ 53 1) * (((gL σ 52 ((3 * i) + 2).toNatClampNeg) * (gL σ 56 0)) - ((gL σ 52 ((3 * i) + 0).toNatClampNeg) * (gL σ 56 2))))) + ((gL σ 53 2) * (((gL σ 52 ((3 * i) + 0).toNatClampNeg) * (gL σ 56 1)) - ((gL σ 52 ((3 * i) + 1).toNatClampNeg) * (gL σ 56 0)))))), (3, .long (((0 + ((gL σ 53 0) * (((gL σ 56 1) * (gL σ 52 ((3 * j) + 2).toNatClampNeg)) - ((gL σ 56 2) * (gL σ 52 ((3 * j) + 1).toNatClampNeg))))) + ((gL σ 53 1) * (((gL σ 56 2) * (gL σ 52 ((3 * j) + 0).toNatClampNeg)) - ((gL σ 56 0) * (gL σ 52 ((3 * j) + 2).toNatClampNeg))))) + ((gL σ 53 2) * (((gL σ 56 0) * (gL σ 52 ((3 * j) + 1).toNatClampNeg)) - ((gL σ 56 1) * (gL σ 52 ((3 * j) + 0).toNatClampNeg)))))), (9, .int 1), (8, .int 0), (7, .int 2), (0, .ref (ad G 44)), (1, .int i), (2, .int j)] dX11_isBetween_178 (by decide) rfl ?_
          refine h_iinc C [(7, .int 3), (5, .long (((0 + ((gL σ 53 0) * (((gL σ 52 ((3 * i) + 1).toNatClampNeg) * (gL σ 56 2)) - ((gL σ 52 ((3 * i) + 2).toNatClampNeg) * (gL σ 56 1))))) + ((gL σ 53 1) * (((gL σ 52 ((3 * i) + 2).toNatClampNeg) * (gL σ 56 0)) - ((gL σ 52 ((3 * i) + 0).toNatClampNeg) * (gL σ 56 2))))) + ((gL σ 53 2) * (((gL σ 52 ((3 * i) + 0).toNatClampNeg) * (gL σ 56 1)) - ((gL σ 52 ((3 * i) + 1).toNatClampNeg) * (gL σ 56 0)))))), (3, .long (((0 + ((gL σ 53 0) * (((gL σ 56 1) * (gL σ 52 ((3 * j) + 2).toNatClampNeg)) - ((gL σ 56 2) * (gL σ 52 ((3 * j) + 1).toNatClampNeg))))) + ((gL σ 53 1) * (((gL σ 56 2) * (gL σ 52 ((3 * j) + 0).toNatClampNeg)) - ((gL σ 56 0) * (gL σ 52 ((3 * j) + 2).toNatClampNeg))))) + ((gL σ 53 2) * (((gL σ 56 0) * (gL σ 52 ((3 * j) + 1).toNatClampNeg)) - ((gL σ 56 1) * (gL σ 52 ((3 * j) + 0).toNatClampNeg)))))), (9, .int 1), (8, .int 0), (0, .ref (ad G 44)), (1, .int i), (2, .int j)] 4 3 dX11_isBetween_180 rfl rfl (by decide) rfl ?_
          refine h_goto C 56 dX11_isBetween_183 (by decide) ?_
          refine h_iload C 0 dX11_isBetween_56 rfl ?_
          refine h_iconst C 3 dX11_isBetween_58 (by decide) ?_
          refine h_icmp_ge C 186 dX11_isBetween_59 (by decide) (fun c_59 => ?_) (fun c_59 => ?_)
          · refine h_lload_n C 2 dX11_isBetween_186 rfl rfl ?_
            refine h_lconst C 0 dX11_isBetween_187 rfl ?_
            refine h_lcmp C dX11_isBetween_188 ?_
            refine h_if_lt C 203 dX11_isBetween_189 (by decide) (fun c_189 => ?_) (fun c_189 => ?_)
            · refine h_iconst C 0 dX11_isBetween_203 (by decide) ?_
              refine h_zret C rfl (by decide) (Nat.zero_le _) (Nat.zero_le _) dX11_isBetween_204 ?_
              have e1 : 0 + gL σ 53 0 * (gL σ 56 1 * gL σ 52 (3 * j + 2).toNatClampNeg - gL σ 56 2 * gL σ 52 (3 * j + 1).toNatClampNeg) + gL σ 53 1 * (gL σ 56 2 * gL σ 52 (3 * j + 0).toNatClampNeg - gL σ 56 0 * gL σ 52 (3 * j + 2).toNatClampNeg) + gL σ 53 2 * (gL σ 56 0 * gL σ 52 (3 * j + 1).toNatClampNeg - gL σ 56 1 * gL σ 52 (3 * j + 0).toNatClampNeg) = tr3 (cr3 σ) (gl3 σ) (fc (gL σ 52) j) := by
                rw [q0z (ρ := gL σ 52) (i := j)]
                unfold tr3 gl3 fc cr3 q1 q2
                grind
              have e2 : 0 + gL σ 53 0 * (gL σ 52 (3 * i + 1).toNatClampNeg * gL σ 56 2 - gL σ 52 (3 * i + 2).toNatClampNeg * gL σ 56 1) + gL σ 53 1 * (gL σ 52 (3 * i + 2).toNatClampNeg * gL σ 56 0 - gL σ 52 (3 * i + 0).toNatClampNeg * gL σ 56 2) + gL σ 53 2 * (gL σ 52 (3 * i + 0).toNatClampNeg * gL σ 56 1 - gL σ 52 (3 * i + 1).toNatClampNeg * gL σ 56 0) = tr3 (cr3 σ) (fc (gL σ 52) i) (gl3 σ) := by
                rw [q0z (ρ := gL σ 52) (i := i)]
                unfold tr3 gl3 fc cr3 q1 q2
                grind
              rw [e1] at c_189
              exact ⟨⟨_, rfl, isB0 (fun q => absurd q.2.1 (Int64.not_le.mpr ((lg_lt0 _).mp c_189)))⟩, rfl⟩
            · refine h_lload C 1 dX11_isBetween_192 rfl ?_
              refine h_lconst C 0 dX11_isBetween_194 rfl ?_
              refine h_lcmp C dX11_isBetween_195 ?_
              refine h_if_lt C 203 dX11_isBetween_196 (by decide) (fun c_196 => ?_) (fun c_196 => ?_)
              · refine h_iconst C 0 dX11_isBetween_203 (by decide) ?_
                refine h_zret C rfl (by decide) (Nat.zero_le _) (Nat.zero_le _) dX11_isBetween_204 ?_
                have e1 : 0 + gL σ 53 0 * (gL σ 56 1 * gL σ 52 (3 * j + 2).toNatClampNeg - gL σ 56 2 * gL σ 52 (3 * j + 1).toNatClampNeg) + gL σ 53 1 * (gL σ 56 2 * gL σ 52 (3 * j + 0).toNatClampNeg - gL σ 56 0 * gL σ 52 (3 * j + 2).toNatClampNeg) + gL σ 53 2 * (gL σ 56 0 * gL σ 52 (3 * j + 1).toNatClampNeg - gL σ 56 1 * gL σ 52 (3 * j + 0).toNatClampNeg) = tr3 (cr3 σ) (gl3 σ) (fc (gL σ 52) j) := by
                  rw [q0z (ρ := gL σ 52) (i := j)]
                  unfold tr3 gl3 fc cr3 q1 q2
                  grind
                have e2 : 0 + gL σ 53 0 * (gL σ 52 (3 * i + 1).toNatClampNeg * gL σ 56 2 - gL σ 52 (3 * i + 2).toNatClampNeg * gL σ 56 1) + gL σ 53 1 * (gL σ 52 (3 * i + 2).toNatClampNeg * gL σ 56 0 - gL σ 52 (3 * i + 0).toNatClampNeg * gL σ 56 2) + gL σ 53 2 * (gL σ 52 (3 * i + 0).toNatClampNeg * gL σ 56 1 - gL σ 52 (3 * i + 1).toNatClampNeg * gL σ 56 0) = tr3 (cr3 σ) (fc (gL σ 52) i) (gl3 σ) := by
                  rw [q0z (ρ := gL σ 52) (i := i)]
                  unfold tr3 gl3 fc cr3 q1 q2
                  grind
                rw [e2] at c_196
                exact ⟨⟨_, rfl, isB0 (fun q => absurd q.2.2 (Int64.not_le.mpr ((lg_lt0 _).mp c_196)))⟩, rfl⟩
              · refine h_iconst C 1 dX11_isBetween_199 (by decide) ?_
                refine h_goto C 204 dX11_isBetween_200 (by decide) ?_
                refine h_zret C rfl (by decide) (Nat.zero_le _) (Nat.zero_le _) dX11_isBetween_204 ?_
                have e1 : 0 + gL σ 53 0 * (gL σ 56 1 * gL σ 52 (3 * j + 2).toNatClampNeg - gL σ 56 2 * gL σ 52 (3 * j + 1).toNatClampNeg) + gL σ 53 1 * (gL σ 56 2 * gL σ 52 (3 * j + 0).toNatClampNeg - gL σ 56 0 * gL σ 52 (3 * j + 2).toNatClampNeg) + gL σ 53 2 * (gL σ 56 0 * gL σ 52 (3 * j + 1).toNatClampNeg - gL σ 56 1 * gL σ 52 (3 * j + 0).toNatClampNeg) = tr3 (cr3 σ) (gl3 σ) (fc (gL σ 52) j) := by
                  rw [q0z (ρ := gL σ 52) (i := j)]
                  unfold tr3 gl3 fc cr3 q1 q2
                  grind
                have e2 : 0 + gL σ 53 0 * (gL σ 52 (3 * i + 1).toNatClampNeg * gL σ 56 2 - gL σ 52 (3 * i + 2).toNatClampNeg * gL σ 56 1) + gL σ 53 1 * (gL σ 52 (3 * i + 2).toNatClampNeg * gL σ 56 0 - gL σ 52 (3 * i + 0).toNatClampNeg * gL σ 56 2) + gL σ 53 2 * (gL σ 52 (3 * i + 0).toNatClampNeg * gL σ 56 1 - gL σ 52 (3 * i + 1).toNatClampNeg * gL σ 56 0) = tr3 (cr3 σ) (fc (gL σ 52) i) (gl3 σ) := by
                  rw [q0z (ρ := gL σ 52) (i := i)]
                  unfold tr3 gl3 fc cr3 q1 q2
                  grind
                rw [e1] at c_189
                rw [e2] at c_196
                exact ⟨⟨_, rfl, isB1 ⟨lg_e c_43, lg_ge c_189, lg_ge c_196⟩⟩, rfl⟩
          · exact absurd c_59 (by decide)
  · refine h_iconst C 0 dX11_isBetween_46 (by decide) ?_
    refine h_zret C rfl (by decide) (Nat.zero_le _) (Nat.zero_le _) dX11_isBetween_47 ?_
    exact ⟨⟨_, rfl, isB0 (fun q => lg_n c_43 q.1)⟩, rfl⟩
set_option maxRecDepth 100000 in
set_option maxHeartbeats 4000000 in
theorem m_X11_isFace {G : ha_G} {l : Launch} {σ : ha_St} {sd : Int32} (hY : LY σ) (hF0 : 0 ≤ gI σ 44 13) (hF1 : gI σ 44 13 ≤ 900) : hM G l yX11_isFace cX11_isFace 8 (some .boolean) { frames := 0, cells := 0, slots := 0, locals := 0 } [.ref (ad G 44), .int sd] σ (fun v σ' => (∃ r, v = some (.int r) ∧ isB r (∃ f, (0 ≤ f ∧ f < gI σ 44 13) ∧ smF (fc (gL σ 54) f) sd.toInt64 (cr3 σ))) ∧ σ' = σ) := by
  refine hM_ofF [(0, .ref (ad G 44)), (1, .int sd)] (by decide +kernel) (Nat.le_of_ble_eq_true rfl) rfl ?_
  intro p e s m args below meth c0 C hin
  refine h_iconst C 0 dX11_isFace_0 (by decide) ?_
  refine h_istore_n C [(2, .int 0), (0, .ref (ad G 44)), (1, .int sd)] dX11_isFace_1 rfl (by decide) rfl ?_
  refine h_sub [1, 2, 0] rfl ?_
  refine h_loop (α := Int32) (fun f => 0 ≤ f ∧ f ≤ gI σ 44 13 ∧ AL f (fun x => ¬ smF (fc (gL σ 54) x) sd.toInt64 (cr3 σ))) (fun f => tm (gI σ 44 13) f) (fun f => [(0, .ref (ad G 44)), (1, .int sd), (2, .int f)]) (fun f => []) (fun f => σ) (fun f => 0) (fun f => 0) ?_ 0 ?_
  · rintro f hI ih
    show hW _ _ _ _ _ _ _ _ _ _ _ _ _ 2 [(0, .ref (ad G 44)), (1, .int sd), (2, .int f)] [] σ 0 0
    refine h_iload_n C 2 dX11_isFace_2 rfl rfl ?_
    refine h_aload_n C 0 dX11_isFace_3 rfl rfl ?_
    refine gfX11_51 C (ty_44 hY) dX11_isFace_4 ?_
    refine h_icmp_ge C 146 dX11_isFace_7 (by decide) (fun c_7 => ?_) (fun c_7 => ?_)
    · refine h_iconst C 0 dX11_isFace_146 (by decide) ?_
      refine h_zret C rfl (by decide) (Nat.zero_le _) (Nat.zero_le _) dX11_isFace_147 ?_
      have he := eq_end hI.2.1 (Int32.not_lt.mpr c_7)
      have hq := hI.2.2
      rw [he] at hq
      exact ⟨⟨_, rfl, isB0 (fun ⟨x, hx, q⟩ => hq x hx.1 hx.2 q)⟩, rfl⟩
    · have hfl := Int32.not_le.mp c_7
      have hfb : 0 ≤ f ∧ f < 900 := ⟨hI.1, Int32.lt_of_lt_of_le hfl hF1⟩
      refine h_iconst C 1 dX11_isFace_10 (by decide) ?_
      refine h_istore_n C [(3, .int 1), (0, .ref (ad G 44)), (1, .int sd), (2, .int f)] dX11_isFace_11 rfl (by decide) rfl ?_
      refine h_lconst C 0 dX11_isFace_12 rfl ?_
      refine h_lstore C [(4, .long 0), (3, .int 1), (0, .ref (ad G 44)), (1, .int sd), (2, .int f)] dX11_isFace_13 (by decide) rfl ?_
      refine h_iconst C 0 dX11_isFace_15 (by decide) ?_
      refine h_istore C [(6, .int 0), (4, .long 0), (3, .int 1), (0, .ref (ad G 44)), (1, .int sd), (2, .int f)] dX11_isFace_16 (by decide) rfl ?_
      refine h_iload C 0 dX11_isFace_18 rfl ?_
      refine h_iconst C 3 dX11_isFace_20 (by decide) ?_
      refine h_icmp_ge C 127 dX11_isFace_21 (by decide) (fun c_21 => ?_) (fun c_21 => ?_)
      · exact absurd c_21 (by decide)
      · refine h_iload C 0 dX11_isFace_24 rfl ?_
        refine h_iconst C 1 dX11_isFace_26 (by decide) ?_
        refine h_iadd C dX11_isFace_27 ?_
        show hW _ _ _ _ _ _ _ _ _ _ _ _ _ 28 [(6, .int 0), (4, .long 0), (3, .int 1), (0, .ref (ad G 44)), (1, .int sd), (2, .int f)] [.int 1] σ 0 0
        refine h_iconst C 3 dX11_isFace_28 (by decide) ?_
        refine h_irem C dX11_isFace_29 (by decide) ?_
        show hW _ _ _ _ _ _ _ _ _ _ _ _ _ 30 [(6, .int 0), (4, .long 0), (3, .int 1), (0, .ref (ad G 44)), (1, .int sd), (2, .int f)] [.int 1] σ 0 0
        refine h_istore C [(7, .int 1), (6, .int 0), (4, .long 0), (3, .int 1), (0, .ref (ad G 44)), (1, .int sd), (2, .int f)] dX11_isFace_30 (by decide) rfl ?_
        refine h_join (α := Int32) 83 (fun t0 => isB t0 (q0 (gL σ 54) f * gL σ 53 1 = q1 (gL σ 54) f * gL σ 53 0)) (fun t0 => [(0, .ref (ad G 44)), (1, .int sd), (2, .int f), (4, .long 0), (6, .int 0), (7, .int 1)]) (fun t0 => [.int t0]) (fun t0 => σ) (fun t0 => 0) (fun t0 => 0) ?_ (fun J_1 => ?_)
        · rintro t0 hJ0
          show hW _ _ _ _ _ _ _ _ _ _ _ _ _ 83 [(0, .ref (ad G 44)), (1, .int sd), (2, .int f), (4, .long 0), (6, .int 0), (7, .int 1)] [.int t0] σ 0 0
          refine h_istore_n C [(3, .int t0), (0, .ref (ad G 44)), (1, .int sd), (2, .int f), (4, .long 0), (6, .int 0), (7, .int 1)] dX11_isFace_83 rfl (by decide) rfl ?_
          refine h_join (α := Int64) 118 (fun z0 => z0 = if 0 < q0 (gL σ 54) f * sd.toInt64 * gL σ 53 0 then 1 else 0) (fun z0 => [(0, .ref (ad G 44)), (1, .int sd), (2, .int f), (3, .int t0), (6, .int 0), (7, .int 1)]) (fun z0 => [.long z0, .long 0]) (fun z0 => σ) (fun z0 => 0) (fun z0 => 0) ?_ (fun J_2 => ?_)
          · rintro z0 hJz0
            show hW _ _ _ _ _ _ _ _ _ _ _ _ _ 118 [(0, .ref (ad G 44)), (1, .int sd), (2, .int f), (3, .int t0), (6, .int 0), (7, .int 1)] [.long z0, .long 0] σ 0 0
            refine h_ladd C dX11_isFace_118 ?_
            refine h_lstore C [(4, .long (0 + z0)), (0, .ref (ad G 44)), (1, .int sd), (2, .int f), (3, .int t0), (6, .int 0), (7, .int 1)] dX11_isFace_119 (by decide) rfl ?_
            refine h_iinc C [(6, .int 1), (4, .long (0 + z0)), (0, .ref (ad G 44)), (1, .int sd), (2, .int f), (3, .int t0), (7, .int 1)] 5 1 dX11_isFace_121 rfl rfl (by decide) rfl ?_
            refine h_goto C 18 dX11_isFace_124 (by decide) ?_
            refine h_iload C 0 dX11_isFace_18 rfl ?_
            refine h_iconst C 3 dX11_isFace_20 (by decide) ?_
            refine h_icmp_ge C 127 dX11_isFace_21 (by decide) (fun c_21 => ?_) (fun c_21 => ?_)
            · exact absurd c_21 (by decide)
            · refine h_iload C 0 dX11_isFace_24 rfl ?_
              refine h_iconst C 1 dX11_isFace_26 (by decide) ?_
              refine h_iadd C dX11_isFace_27 ?_
              show hW _ _ _ _ _ _ _ _ _ _ _ _ _ 28 [(6, .int 1), (4, .long (0 + z0)), (0, .ref (ad G 44)), (1, .int sd), (2, .int f), (3, .int t0), (7, .int 1)] [.int 2] σ 0 0
              refine h_iconst C 3 dX11_isFace_28 (by decide) ?_
              refine h_irem C dX11_isFace_29 (by decide) ?_
              show hW _ _ _ _ _ _ _ _ _ _ _ _ _ 30 [(6, .int 1), (4, .long (0 + z0)), (0, .ref (ad G 44)), (1, .int sd), (2, .int f), (3, .int t0), (7, .int 1)] [.int 2] σ 0 0
              refine h_istore C [(7, .int 2), (6, .int 1), (4, .long (0 + z0)), (0, .ref (ad G 44)), (1, .int sd), (2, .int f), (3, .int t0)] dX11_isFace_30 (by decide) rfl ?_
              refine h_join (α := Int32) 83 (fun t1 => isB t1 (q0 (gL σ 54) f * gL σ 53 1 = q1 (gL σ 54) f * gL σ 53 0 ∧ q1 (gL σ 54) f * gL σ 53 2 = q2 (gL σ 54) f * gL σ 53 1)) (fun t1 => [(0, .ref (ad G 44)), (1, .int sd), (2, .int f), (4, .long (0 + z0)), (6, .int 1), (7, .int 2)]) (fun t1 => [.int t1]) (fun t1 => σ) (fun t1 => 0) (fun t1 => 0) ?_ (fun J_3 => ?_)
              · rintro t1 hJ1
                show hW _ _ _ _ _ _ _ _ _ _ _ _ _ 83 [(0, .ref (ad G 44)), (1, .int sd), (2, .int f), (4, .long (0 + z0)), (6, .int 1), (7, .int 2)] [.int t1] σ 0 0
                refine h_istore_n C [(3, .int t1), (0, .ref (ad G 44)), (1, .int sd), (2, .int f), (4, .long (0 + z0)), (6, .int 1), (7, .int 2)] dX11_isFace_83 rfl (by decide) rfl ?_
                refine h_join (α := Int64) 118 (fun z1 => z1 = if 0 < q1 (gL σ 54) f * sd.toInt64 * gL σ 53 1 then 1 else 0) (fun z1 => [(0, .ref (ad G 44)), (1, .int sd), (2, .int f), (3, .int t1), (6, .int 1), (7, .int 2)]) (fun z1 => [.long z1, .long (0 + z0)]) (fun z1 => σ) (fun z1 => 0) (fun z1 => 0) ?_ (fun J_4 => ?_)
                · rintro z1 hJz1
                  show hW _ _ _ _ _ _ _ _ _ _ _ _ _ 118 [(0, .ref (ad G 44)), (1, .int sd), (2, .int f), (3, .int t1), (6, .int 1), (7, .int 2)] [.long z1, .long (0 + z0)] σ 0 0
                  refine h_ladd C dX11_isFace_118 ?_
                  refine h_lstore C [(4, .long ((0 + z0) + z1)), (0, .ref (ad G 44)), (1, .int sd), (2, .int f), (3, .int t1), (6, .int 1), (7, .int 2)] dX11_isFace_119 (by decide) rfl ?_
                  refine h_iinc C [(6, .int 2), (4, .long ((0 + z0) + z1)), (0, .ref (ad G 44)), (1, .int sd), (2, .int f), (3, .int t1), (7, .int 2)] 5 2 dX11_isFace_121 rfl rfl (by decide) rfl ?_
                  refine h_goto C 18 dX11_isFace_124 (by decide) ?_
                  refine h_iload C 0 dX11_isFace_18 rfl ?_
                  refine h_iconst C 3 dX11_isFace_20 (by decide) ?_
                  refine h_icmp_ge C 127 dX11_isFace_21 (by decide) (fun c_21 => ?_) (fun c_21 => ?_)
                  · exact absurd c_21 (by decide)
                  · refine h_iload C 0 dX11_isFace_24 rfl ?_
                    refine h_iconst C 1 dX11_isFace_26 (by decide) ?_
                    refine h_iadd C dX11_isFace_27 ?_
                    show hW _ _ _ _ _ _ _ _ _ _ _ _ _ 28 [(6, .int 2), (4, .long ((0 + z0) + z1)), (0, .ref (ad G 44)), (1, .int sd), (2, .int f), (3, .int t1), (7, .int 2)] [.int 3] σ 0 0
                    refine h_iconst C 3 dX11_isFace_28 (by decide) ?_
                    refine h_irem C dX11_isFace_29 (by decide) ?_
                    show hW _ _ _ _ _ _ _ _ _ _ _ _ _ 30 [(6, .int 2), (4, .long ((0 + z0) + z1)), (0, .ref (ad G 44)), (1, .int sd), (2, .int f), (3, .int t1), (7, .int 2)] [.int 0] σ 0 0
                    refine h_istore C [(7, .int 0), (6, .int 2), (4, .long ((0 + z0) + z1)), (0, .ref (ad G 44)), (1, .int sd), (2, .int f), (3, .int t1)] dX11_isFace_30 (by decide) rfl ?_
                    refine h_join (α := Int32) 83 (fun t2 => isB t2 ((q0 (gL σ 54) f * gL σ 53 1 = q1 (gL σ 54) f * gL σ 53 0 ∧ q1 (gL σ 54) f * gL σ 53 2 = q2 (gL σ 54) f * gL σ 53 1) ∧ q2 (gL σ 54) f * gL σ 53 0 = q0 (gL σ 54) f * gL σ 53 2)) (fun t2 => [(0, .ref (ad G 44)), (1, .int sd), (2, .int f), (4, .long ((0 + z0) + z1)), (6, .int 2), (7, .int 0)]) (fun t2 => [.int t2]) (fun t2 => σ) (fun t2 => 0) (fun t2 => 0) ?_ (fun J_5 => ?_)
                    · rintro t2 hJ2
                      show hW _ _ _ _ _ _ _ _ _ _ _ _ _ 83 [(0, .ref (ad G 44)), (1, .int sd), (2, .int f), (4, .long ((0 + z0) + z1)), (6, .int 2), (7, .int 0)] [.int t2] σ 0 0
                      refine h_istore_n C [(3, .int t2), (0, .ref (ad G 44)), (1, .int sd), (2, .int f), (4, .long ((0 + z0) + z1)), (6, .int 2), (7, .int 0)] dX11_isFace_83 rfl (by decide) rfl ?_
                      refine h_join (α := Int64) 118 (fun z2 => z2 = if 0 < q2 (gL σ 54) f * sd.toInt64 * gL σ 53 2 then 1 else 0) (fun z2 => [(0, .ref (ad G 44)), (1, .int sd), (2, .int f), (3, .int t2), (6, .int 2), (7, .int 0)]) (fun z2 => [.long z2, .long ((0 + z0) + z1)]) (fun z2 => σ) (fun z2 => 0) (fun z2 => 0) ?_ (fun J_6 => ?_)
                      · rintro z2 hJz2
                        show hW _ _ _ _ _ _ _ _ _ _ _ _ _ 118 [(0, .ref (ad G 44)), (1, .int sd), (2, .int f), (3, .int t2), (6, .int 2), (7, .int 0)] [.long z2, .long ((0 + z0) + z1)] σ 0 0
                        refine h_ladd C dX11_isFace_118 ?_
                        refine h_lstore C [(4, .long (((0 + z0) + z1) + z2)), (0, .ref (ad G 44)), (1, .int sd), (2, .int f), (3, .int t2), (6, .int 2), (7, .int 0)] dX11_isFace_119 (by decide) rfl ?_
                        refine h_iinc C [(6, .int 3), (4, .long (((0 + z0) + z1) + z2)), (0, .ref (ad G 44)), (1, .int sd), (2, .int f), (3, .int t2), (7, .int 0)] 5 3 dX11_isFace_121 rfl rfl (by decide) rfl ?_
                        refine h_goto C 18 dX11_isFace_124 (by decide) ?_
                        refine h_iload C 0 dX11_isFace_18 rfl ?_
                        refine h_iconst C 3 dX11_isFace_20 (by decide) ?_
                        refine h_icmp_ge C 127 dX11_isFace_21 (by decide) (fun c_21 => ?_) (fun c_21 => ?_)
                        · refine h_iload_n C 5 dX11_isFace_127 rfl rfl ?_
                          refine h_if_eq C 140 dX11_isFace_128 (by decide) (fun c_128 => ?_) (fun c_128 => ?_)
                          · refine h_iinc C [(2, .int (f + 1)), (6, .int 3), (4, .long (((0 + z0) + z1) + z2)), (0, .ref (ad G 44)), (1, .int sd), (3, .int t2), (7, .int 0)] 4 (f + 1) dX11_isFace_140 rfl rfl (by decide) rfl ?_
                            refine h_goto C 2 dX11_isFace_143 (by decide) ?_
                            refine h_sub [3, 4, 0] rfl ?_
                            refine ih (f + 1) ?_ ?_
                            · refine ⟨(le_succ hI.1 hfl).1, (le_succ hI.1 hfl).2, (AL_i hI.1 hfl).mpr ⟨hI.2.2, ?_⟩⟩
                              exact fun q => isB_0 hJ2 c_128 q.1
                            · exact tm_lt hfl
                          · refine h_lload C 1 dX11_isFace_131 rfl ?_
                            refine h_lconst C 0 dX11_isFace_133 rfl ?_
                            refine h_lcmp C dX11_isFace_134 ?_
                            refine h_if_le C 140 dX11_isFace_135 (by decide) (fun c_135 => ?_) (fun c_135 => ?_)
                            · refine h_iinc C [(2, .int (f + 1)), (6, .int 3), (4, .long (((0 + z0) + z1) + z2)), (0, .ref (ad G 44)), (1, .int sd), (3, .int t2), (7, .int 0)] 4 (f + 1) dX11_isFace_140 rfl rfl (by decide) rfl ?_
                              refine h_goto C 2 dX11_isFace_143 (by decide) ?_
                              refine h_sub [3, 4, 0] rfl ?_
                              refine ih (f + 1) ?_ ?_
                              · refine ⟨(le_succ hI.1 hfl).1, (le_succ hI.1 hfl).2, (AL_i hI.1 hfl).mpr ⟨hI.2.2, ?_⟩⟩
                                rw [hJz0, hJz1, hJz2] at c_135
                                exact fun q => lg_le c_135 (z3.mpr q.2)
                              · exact tm_lt hfl
                            · refine h_iconst C 1 dX11_isFace_138 (by decide) ?_
                              refine h_zret C rfl (by decide) (Nat.zero_le _) (Nat.zero_le _) dX11_isFace_139 ?_
                              rw [hJz0, hJz1, hJz2] at c_135
                              exact ⟨⟨_, rfl, isB1 ⟨f, ⟨hI.1, hfl⟩, isB_1 hJ2 c_128, z3.mp (lg_gt c_135)⟩⟩, rfl⟩
                        · exact absurd c_21 (by decide)
                      · refine h_lload C 4 dX11_isFace_84 rfl ?_
                        refine h_aload_n C 1 dX11_isFace_86 rfl rfl ?_
                        refine gfX11_54 C (ty_44 hY) dX11_isFace_87 ?_
                        refine h_tref (b := 54) (rf_44_14 hY) ?_
                        refine h_iconst C 3 dX11_isFace_90 (by decide) ?_
                        refine h_iload_n C 3 dX11_isFace_91 rfl rfl ?_
                        refine h_imul C dX11_isFace_92 ?_
                        refine h_iload C 5 dX11_isFace_93 rfl ?_
                        refine h_iadd C dX11_isFace_95 ?_
                        refine h_lald C (ty_54 hY) (t900 hfb.1 hfb.2).2.2 dX11_isFace_96 ?_
                        refine h_iload_n C 2 dX11_isFace_97 rfl rfl ?_
                        refine h_i2l C dX11_isFace_98 ?_
                        refine h_lmul C dX11_isFace_99 ?_
                        refine h_aload_n C 1 dX11_isFace_100 rfl rfl ?_
                        refine gfX11_45 C (ty_44 hY) dX11_isFace_101 ?_
                        refine h_tref (b := 53) (rf_44_11 hY) ?_
                        refine h_iload C 5 dX11_isFace_104 rfl ?_
                        refine h_lald C (ty_53 hY) (vp32 (N := 3) (by decide) (by decide) (by decide)) dX11_isFace_106 ?_
                        show hW _ _ _ _ _ _ _ _ _ _ _ _ _ 107 [(3, .int t2), (0, .ref (ad G 44)), (1, .int sd), (2, .int f), (4, .long ((0 + z0) + z1)), (6, .int 2), (7, .int 0)] [.long (gL σ 53 2), .long ((gL σ 54 ((3 * f) + 2).toNatClampNeg) * sd.toInt64), .long ((0 + z0) + z1)] σ 0 0
                        refine h_lmul C dX11_isFace_107 ?_
                        refine h_lconst C 0 dX11_isFace_108 rfl ?_
                        refine h_lcmp C dX11_isFace_109 ?_
                        refine h_if_le C 117 dX11_isFace_110 (by decide) (fun c_110 => ?_) (fun c_110 => ?_)
                        · refine h_lconst C 0 dX11_isFace_117 rfl ?_
                          refine h_sub [1, 2, 3, 0, 5, 6] rfl ?_
                          refine J_6 0 ?_
                          have h := lg_le c_110
                          rw [if_neg (show ¬ 0 < q2 (gL σ 54) f * sd.toInt64 * gL σ 53 2 from h)]
                        · refine h_lconst C 1 dX11_isFace_113 rfl ?_
                          refine h_goto C 118 dX11_isFace_114 (by decide) ?_
                          refine h_sub [1, 2, 3, 0, 5, 6] rfl ?_
                          refine J_6 1 ?_
                          have h := lg_gt c_110
                          rw [if_pos (show 0 < q2 (gL σ 54) f * sd.toInt64 * gL σ 53 2 from h)]
                    · refine h_iload_n C 6 dX11_isFace_32 rfl rfl ?_
                      refine h_if_eq C 82 dX11_isFace_33 (by decide) (fun c_33 => ?_) (fun c_33 => ?_)
                      · refine h_iconst C 0 dX11_isFace_82 (by decide) ?_
                        refine h_sub [3, 4, 5, 2, 1, 0] rfl ?_
                        refine J_5 0 ?_
                        exact isB0 (fun q => isB_0 hJ1 c_33 q.1)
                      · refine h_aload_n C 3 dX11_isFace_36 rfl rfl ?_
                        refine gfX11_54 C (ty_44 hY) dX11_isFace_37 ?_
                        refine h_tref (b := 54) (rf_44_14 hY) ?_
                        refine h_iconst C 3 dX11_isFace_40 (by decide) ?_
                        refine h_iload_n C 5 dX11_isFace_41 rfl rfl ?_
                        refine h_imul C dX11_isFace_42 ?_
                        refine h_iload C 1 dX11_isFace_43 rfl ?_
                        refine h_iadd C dX11_isFace_45 ?_
                        refine h_lald C (ty_54 hY) (t900 hfb.1 hfb.2).2.2 dX11_isFace_46 ?_
                        refine h_aload_n C 3 dX11_isFace_47 rfl rfl ?_
                        refine gfX11_45 C (ty_44 hY) dX11_isFace_48 ?_
                        refine h_tref (b := 53) (rf_44_11 hY) ?_
                        refine h_iload C 0 dX11_isFace_51 rfl ?_
                        refine h_lald C (ty_53 hY) (vp32 (N := 3) (by decide) (by decide) (by decide)) dX11_isFace_53 ?_
                        show hW _ _ _ _ _ _ _ _ _ _ _ _ _ 54 [(7, .int 0), (6, .int 2), (4, .long ((0 + z0) + z1)), (0, .ref (ad G 44)), (1, .int sd), (2, .int f), (3, .int t1)] [.long (gL σ 53 0), .long (gL σ 54 ((3 * f) + 2).toNatClampNeg)] σ 0 0
                        refine h_lmul C dX11_isFace_54 ?_
                        refine h_aload_n C 3 dX11_isFace_55 rfl rfl ?_
                        refine gfX11_54 C (ty_44 hY) dX11_isFace_56 ?_
                        refine h_tref (b := 54) (rf_44_14 hY) ?_
                        refine h_iconst C 3 dX11_isFace_59 (by decide) ?_
                        refine h_iload_n C 5 dX11_isFace_60 rfl rfl ?_
                        refine h_imul C dX11_isFace_61 ?_
                        refine h_iload C 0 dX11_isFace_62 rfl ?_
                        refine h_iadd C dX11_isFace_64 ?_
                        refine h_lald C (ty_54 hY) (t900z hfb.1 hfb.2) dX11_isFace_65 ?_
                        refine h_aload_n C 3 dX11_isFace_66 rfl rfl ?_
                        refine gfX11_45 C (ty_44 hY) dX11_isFace_67 ?_
                        refine h_tref (b := 53) (rf_44_11 hY) ?_
                        refine h_iload C 1 dX11_isFace_70 rfl ?_
                        refine h_lald C (ty_53 hY) (vp32 (N := 3) (by decide) (by decide) (by decide)) dX11_isFace_72 ?_
                        show hW _ _ _ _ _ _ _ _ _ _ _ _ _ 73 [(7, .int 0), (6, .int 2), (4, .long ((0 + z0) + z1)), (0, .ref (ad G 44)), (1, .int sd), (2, .int f), (3, .int t1)] [.long (gL σ 53 2), .long (gL σ 54 ((3 * f) + 0).toNatClampNeg), .long ((gL σ 54 ((3 * f) + 2).toNatClampNeg) * (gL σ 53 0))] σ 0 0
                        refine h_lmul C dX11_isFace_73 ?_
                        refine h_lcmp C dX11_isFace_74 ?_
                        refine h_if_ne C 82 dX11_isFace_75 (by decide) (fun c_75 => ?_) (fun c_75 => ?_)
                        · refine h_iconst C 0 dX11_isFace_82 (by decide) ?_
                          refine h_sub [3, 4, 5, 2, 1, 0] rfl ?_
                          refine J_5 0 ?_
                          have h := lg_n c_75
                          rw [q0z (ρ := gL σ 54) (i := f)] at h
                          exact isB0 (fun q => h q.2)
                        · refine h_iconst C 1 dX11_isFace_78 (by decide) ?_
                          refine h_goto C 83 dX11_isFace_79 (by decide) ?_
                          refine h_sub [3, 4, 5, 2, 1, 0] rfl ?_
                          refine J_5 1 ?_
                          have h := lg_e c_75
                          rw [q0z (ρ := gL σ 54) (i := f)] at h
                          exact isB1 ⟨isB_1 hJ1 c_33, h⟩
                · refine h_lload C 4 dX11_isFace_84 rfl ?_
                  refine h_aload_n C 1 dX11_isFace_86 rfl rfl ?_
                  refine gfX11_54 C (ty_44 hY) dX11_isFace_87 ?_
                  refine h_tref (b := 54) (rf_44_14 hY) ?_
                  refine h_iconst C 3 dX11_isFace_90 (by decide) ?_
                  refine h_iload_n C 3 dX11_isFace_91 rfl rfl ?_
                  refine h_imul C dX11_isFace_92 ?_
                  refine h_iload C 5 dX11_isFace_93 rfl ?_
                  refine h_iadd C dX11_isFace_95 ?_
                  refine h_lald C (ty_54 hY) (t900 hfb.1 hfb.2).2.1 dX11_isFace_96 ?_
                  refine h_iload_n C 2 dX11_isFace_97 rfl rfl ?_
                  refine h_i2l C dX11_isFace_98 ?_
                  refine h_lmul C dX11_isFace_99 ?_
                  refine h_aload_n C 1 dX11_isFace_100 rfl rfl ?_
                  refine gfX11_45 C (ty_44 hY) dX11_isFace_101 ?_
                  refine h_tref (b := 53) (rf_44_11 hY) ?_
                  refine h_iload C 5 dX11_isFace_104 rfl ?_
                  refine h_lald C (ty_53 hY) (vp32 (N := 3) (by decide) (by decide) (by decide)) dX11_isFace_106 ?_
                  show hW _ _ _ _ _ _ _ _ _ _ _ _ _ 107 [(3, .int t1), (0, .ref (ad G 44)), (1, .int sd), (2, .int f), (4, .long (0 + z0)), (6, .int 1), (7, .int 2)] [.long (gL σ 53 1), .long ((gL σ 54 ((3 * f) + 1).toNatClampNeg) * sd.toInt64), .long (0 + z0)] σ 0 0
                  refine h_lmul C dX11_isFace_107 ?_
                  refine h_lconst C 0 dX11_isFace_108 rfl ?_
                  refine h_lcmp C dX11_isFace_109 ?_
                  refine h_if_le C 117 dX11_isFace_110 (by decide) (fun c_110 => ?_) (fun c_110 => ?_)
                  · refine h_lconst C 0 dX11_isFace_117 rfl ?_
                    refine h_sub [1, 2, 3, 0, 5, 6] rfl ?_
                    refine J_4 0 ?_
                    have h := lg_le c_110
                    rw [if_neg (show ¬ 0 < q1 (gL σ 54) f * sd.toInt64 * gL σ 53 1 from h)]
                  · refine h_lconst C 1 dX11_isFace_113 rfl ?_
                    refine h_goto C 118 dX11_isFace_114 (by decide) ?_
                    refine h_sub [1, 2, 3, 0, 5, 6] rfl ?_
                    refine J_4 1 ?_
                    have h := lg_gt c_110
                    rw [if_pos (show 0 < q1 (gL σ 54) f * sd.toInt64 * gL σ 53 1 from h)]
              · refine h_iload_n C 6 dX11_isFace_32 rfl rfl ?_
                refine h_if_eq C 82 dX11_isFace_33 (by decide) (fun c_33 => ?_) (fun c_33 => ?_)
                · refine h_iconst C 0 dX11_isFace_82 (by decide) ?_
                  refine h_sub [3, 4, 5, 2, 1, 0] rfl ?_
                  refine J_3 0 ?_
                  exact isB0 (fun q => isB_0 hJ0 c_33 q.1)
                · refine h_aload_n C 3 dX11_isFace_36 rfl rfl ?_
                  refine gfX11_54 C (ty_44 hY) dX11_isFace_37 ?_
                  refine h_tref (b := 54) (rf_44_14 hY) ?_
                  refine h_iconst C 3 dX11_isFace_40 (by decide) ?_
                  refine h_iload_n C 5 dX11_isFace_41 rfl rfl ?_
                  refine h_imul C dX11_isFace_42 ?_
                  refine h_iload C 1 dX11_isFace_43 rfl ?_
                  refine h_iadd C dX11_isFace_45 ?_
                  refine h_lald C (ty_54 hY) (t900 hfb.1 hfb.2).2.1 dX11_isFace_46 ?_
                  refine h_aload_n C 3 dX11_isFace_47 rfl rfl ?_
                  refine gfX11_45 C (ty_44 hY) dX11_isFace_48 ?_
                  refine h_tref (b := 53) (rf_44_11 hY) ?_
                  refine h_iload C 0 dX11_isFace_51 rfl ?_
                  refine h_lald C (ty_53 hY) (vp32 (N := 3) (by decide) (by decide) (by decide)) dX11_isFace_53 ?_
                  show hW _ _ _ _ _ _ _ _ _ _ _ _ _ 54 [(7, .int 2), (6, .int 1), (4, .long (0 + z0)), (0, .ref (ad G 44)), (1, .int sd), (2, .int f), (3, .int t0)] [.long (gL σ 53 2), .long (gL σ 54 ((3 * f) + 1).toNatClampNeg)] σ 0 0
                  refine h_lmul C dX11_isFace_54 ?_
                  refine h_aload_n C 3 dX11_isFace_55 rfl rfl ?_
                  refine gfX11_54 C (ty_44 hY) dX11_isFace_56 ?_
                  refine h_tref (b := 54) (rf_44_14 hY) ?_
                  refine h_iconst C 3 dX11_isFace_59 (by decide) ?_
                  refine h_iload_n C 5 dX11_isFace_60 rfl rfl ?_
                  refine h_imul C dX11_isFace_61 ?_
                  refine h_iload C 0 dX11_isFace_62 rfl ?_
                  refine h_iadd C dX11_isFace_64 ?_
                  refine h_lald C (ty_54 hY) (t900 hfb.1 hfb.2).2.2 dX11_isFace_65 ?_
                  refine h_aload_n C 3 dX11_isFace_66 rfl rfl ?_
                  refine gfX11_45 C (ty_44 hY) dX11_isFace_67 ?_
                  refine h_tref (b := 53) (rf_44_11 hY) ?_
                  refine h_iload C 1 dX11_isFace_70 rfl ?_
                  refine h_lald C (ty_53 hY) (vp32 (N := 3) (by decide) (by decide) (by decide)) dX11_isFace_72 ?_
                  show hW _ _ _ _ _ _ _ _ _ _ _ _ _ 73 [(7, .int 2), (6, .int 1), (4, .long (0 + z0)), (0, .ref (ad G 44)), (1, .int sd), (2, .int f), (3, .int t0)] [.long (gL σ 53 1), .long (gL σ 54 ((3 * f) + 2).toNatClampNeg), .long ((gL σ 54 ((3 * f) + 1).toNatClampNeg) * (gL σ 53 2))] σ 0 0
                  refine h_lmul C dX11_isFace_73 ?_
                  refine h_lcmp C dX11_isFace_74 ?_
                  refine h_if_ne C 82 dX11_isFace_75 (by decide) (fun c_75 => ?_) (fun c_75 => ?_)
                  · refine h_iconst C 0 dX11_isFace_82 (by decide) ?_
                    refine h_sub [3, 4, 5, 2, 1, 0] rfl ?_
                    refine J_3 0 ?_
                    have h := lg_n c_75
                    exact isB0 (fun q => h q.2)
                  · refine h_iconst C 1 dX11_isFace_78 (by decide) ?_
                    refine h_goto C 83 dX11_isFace_79 (by decide) ?_
                    refine h_sub [3, 4, 5, 2, 1, 0] rfl ?_
                    refine J_3 1 ?_
                    have h := lg_e c_75
                    exact isB1 ⟨isB_1 hJ0 c_33, h⟩
          · refine h_lload C 4 dX11_isFace_84 rfl ?_
            refine h_aload_n C 1 dX11_isFace_86 rfl rfl ?_
            refine gfX11_54 C (ty_44 hY) dX11_isFace_87 ?_
            refine h_tref (b := 54) (rf_44_14 hY) ?_
            refine h_iconst C 3 dX11_isFace_90 (by decide) ?_
            refine h_iload_n C 3 dX11_isFace_91 rfl rfl ?_
            refine h_imul C dX11_isFace_92 ?_
            refine h_iload C 5 dX11_isFace_93 rfl ?_
            refine h_iadd C dX11_isFace_95 ?_
            refine h_lald C (ty_54 hY) (t900z hfb.1 hfb.2) dX11_isFace_96 ?_
            refine h_iload_n C 2 dX11_isFace_97 rfl rfl ?_
            refine h_i2l C dX11_isFace_98 ?_
            refine h_lmul C dX11_isFace_99 ?_
            refine h_aload_n C 1 dX11_isFace_100 rfl rfl ?_
            refine gfX11_45 C (ty_44 hY) dX11_isFace_101 ?_
            refine h_tref (b := 53) (rf_44_11 hY) ?_
            refine h_iload C 5 dX11_isFace_104 rfl ?_
            refine h_lald C (ty_53 hY) (vp32 (N := 3) (by decide) (by decide) (by decide)) dX11_isFace_106 ?_
            show hW _ _ _ _ _ _ _ _ _ _ _ _ _ 107 [(3, .int t0), (0, .ref (ad G 44)), (1, .int sd), (2, .int f), (4, .long 0), (6, .int 0), (7, .int 1)] [.long (gL σ 53 0), .long ((gL σ 54 ((3 * f) + 0).toNatClampNeg) * sd.toInt64), .long 0] σ 0 0
            refine h_lmul C dX11_isFace_107 ?_
            refine h_lconst C 0 dX11_isFace_108 rfl ?_
            refine h_lcmp C dX11_isFace_109 ?_
            refine h_if_le C 117 dX11_isFace_110 (by decide) (fun c_110 => ?_) (fun c_110 => ?_)
            · refine h_lconst C 0 dX11_isFace_117 rfl ?_
              refine h_sub [1, 2, 3, 0, 5, 6] rfl ?_
              refine J_2 0 ?_
              have h := lg_le c_110
              rw [q0z (ρ := gL σ 54) (i := f)] at h
              rw [if_neg (show ¬ 0 < q0 (gL σ 54) f * sd.toInt64 * gL σ 53 0 from h)]
            · refine h_lconst C 1 dX11_isFace_113 rfl ?_
              refine h_goto C 118 dX11_isFace_114 (by decide) ?_
              refine h_sub [1, 2, 3, 0, 5, 6] rfl ?_
              refine J_2 1 ?_
              have h := lg_gt c_110
              rw [q0z (ρ := gL σ 54) (i := f)] at h
              rw [if_pos (show 0 < q0 (gL σ 54) f * sd.toInt64 * gL σ 53 0 from h)]
        · refine h_iload_n C 3 dX11_isFace_32 rfl rfl ?_
          refine h_if_eq C 82 dX11_isFace_33 (by decide) (fun c_33 => ?_) (fun c_33 => ?_)
          · exact absurd c_33 (by decide)
          · refine h_aload_n C 4 dX11_isFace_36 rfl rfl ?_
            refine gfX11_54 C (ty_44 hY) dX11_isFace_37 ?_
            refine h_tref (b := 54) (rf_44_14 hY) ?_
            refine h_iconst C 3 dX11_isFace_40 (by decide) ?_
            refine h_iload_n C 6 dX11_isFace_41 rfl rfl ?_
            refine h_imul C dX11_isFace_42 ?_
            refine h_iload C 1 dX11_isFace_43 rfl ?_
            refine h_iadd C dX11_isFace_45 ?_
            refine h_lald C (ty_54 hY) (t900z hfb.1 hfb.2) dX11_isFace_46 ?_
            refine h_aload_n C 4 dX11_isFace_47 rfl rfl ?_
            refine gfX11_45 C (ty_44 hY) dX11_isFace_48 ?_
            refine h_tref (b := 53) (rf_44_11 hY) ?_
            refine h_iload C 0 dX11_isFace_51 rfl ?_
            refine h_lald C (ty_53 hY) (vp32 (N := 3) (by decide) (by decide) (by decide)) dX11_isFace_53 ?_
            show hW _ _ _ _ _ _ _ _ _ _ _ _ _ 54 [(7, .int 1), (6, .int 0), (4, .long 0), (3, .int 1), (0, .ref (ad G 44)), (1, .int sd), (2, .int f)] [.long (gL σ 53 1), .long (gL σ 54 ((3 * f) + 0).toNatClampNeg)] σ 0 0
            refine h_lmul C dX11_isFace_54 ?_
            refine h_aload_n C 4 dX11_isFace_55 rfl rfl ?_
            refine gfX11_54 C (ty_44 hY) dX11_isFace_56 ?_
            refine h_tref (b := 54) (rf_44_14 hY) ?_
            refine h_iconst C 3 dX11_isFace_59 (by decide) ?_
            refine h_iload_n C 6 dX11_isFace_60 rfl rfl ?_
            refine h_imul C dX11_isFace_61 ?_
            refine h_iload C 0 dX11_isFace_62 rfl ?_
            refine h_iadd C dX11_isFace_64 ?_
            refine h_lald C (ty_54 hY) (t900 hfb.1 hfb.2).2.1 dX11_isFace_65 ?_
            refine h_aload_n C 4 dX11_isFace_66 rfl rfl ?_
            refine gfX11_45 C (ty_44 hY) dX11_isFace_67 ?_
            refine h_tref (b := 53) (rf_44_11 hY) ?_
            refine h_iload C 1 dX11_isFace_70 rfl ?_
            refine h_lald C (ty_53 hY) (vp32 (N := 3) (by decide) (by decide) (by decide)) dX11_isFace_72 ?_
            show hW _ _ _ _ _ _ _ _ _ _ _ _ _ 73 [(7, .int 1), (6, .int 0), (4, .long 0), (3, .int 1), (0, .ref (ad G 44)), (1, .int sd), (2, .int f)] [.long (gL σ 53 0), .long (gL σ 54 ((3 * f) + 1).toNatClampNeg), .long ((gL σ 54 ((3 * f) + 0).toNatClampNeg) * (gL σ 53 1))] σ 0 0
            refine h_lmul C dX11_isFace_73 ?_
            refine h_lcmp C dX11_isFace_74 ?_
            refine h_if_ne C 82 dX11_isFace_75 (by decide) (fun c_75 => ?_) (fun c_75 => ?_)
            · refine h_iconst C 0 dX11_isFace_82 (by decide) ?_
              refine h_sub [4, 5, 6, 2, 1, 0] rfl ?_
              refine J_1 0 ?_
              have h := lg_n c_75
              rw [q0z (ρ := gL σ 54) (i := f)] at h
              exact isB0 (fun q => h q)
            · refine h_iconst C 1 dX11_isFace_78 (by decide) ?_
              refine h_goto C 83 dX11_isFace_79 (by decide) ?_
              refine h_sub [4, 5, 6, 2, 1, 0] rfl ?_
              refine J_1 1 ?_
              have h := lg_e c_75
              rw [q0z (ρ := gL σ 54) (i := f)] at h
              exact isB1 h
  · exact ⟨by decide, hF0, AL_0⟩
def goJ (g : I3) (ρ : Nat → Int64) (i j : Int32) : Prop := crR ρ i j ≠ zer ∧ btQ (crR ρ i j) g ρ i j
def goI (g : I3) (ρ : Nat → Int64) (i : Int32) : Prop := alQ g ρ i ∨ ∃ j, (0 ≤ j ∧ j < i) ∧ goJ g ρ i j
def gInG (σ : ha_St) (g : I3) : Prop := g = zer ∨ (g ≠ zer ∧ gI σ 44 12 = 3 ∧ AL (gI σ 44 13) (fun f => 0 ≤ dtR g (gL σ 54) f)) ∨ (g ≠ zer ∧ gI σ 44 12 ≠ 3 ∧ ∃ i, (0 ≤ i ∧ i < gI σ 44 9) ∧ goI g (gL σ 52) i)
theorem frX_56 {σ σ1 : ha_St} (h : frX 53 54 σ σ1) : gl3 σ1 = gl3 σ := by unfold gl3; rw [(h.2.2.2 56 (by omega)).2]
set_option maxRecDepth 100000 in
set_option maxHeartbeats 4000000 in
theorem m_X11_isGoalIn {G : ha_G} {l : Launch} {σ : ha_St} (hY : LY σ) (hm0 : 0 ≤ gI σ 44 9) (hm1 : gI σ 44 9 ≤ 30) (hF0 : 0 ≤ gI σ 44 13) (hF1 : gI σ 44 13 ≤ 900) : hM G l yX11_isGoalIn cX11_isGoalIn 3 (some .boolean) { frames := 1, cells := 0, slots := 0, locals := 29 } [.ref (ad G 44)] σ (fun v σ' => (∃ r, v = some (.int r) ∧ isB r (gInG σ (gl3 σ))) ∧ frX 53 54 σ σ') := by
  have hY0 := hY
  refine hM_ofF [(0, .ref (ad G 44))] (by decide +kernel) (Nat.le_of_ble_eq_true rfl) rfl ?_
  intro p e s m args below meth c0 C hin
  refine h_join (α := Nat) 35 (fun u => gl3 σ ≠ zer) (fun u => [(0, .ref (ad G 44))]) (fun u => []) (fun u => σ) (fun u => 0) (fun u => 0) ?_ (fun J_1 => ?_)
  · rintro u hJg
    show hW _ _ _ _ _ _ _ _ _ _ _ _ _ 35 [(0, .ref (ad G 44))] [] σ 0 0
    refine h_aload_n C 0 dX11_isGoalIn_35 rfl rfl ?_
    refine gfX11_48 C (ty_44 hY) dX11_isGoalIn_36 ?_
    refine h_iconst C 3 dX11_isGoalIn_39 (by decide) ?_
    refine h_icmp_ne C 129 dX11_isGoalIn_40 (by decide) (fun c_40 => ?_) (fun c_40 => ?_)
    · refine h_iconst C 0 dX11_isGoalIn_129 (by decide) ?_
      refine h_istore_n C [(1, .int 0), (0, .ref (ad G 44))] dX11_isGoalIn_130 rfl (by decide) rfl ?_
      refine h_sub [1, 0] rfl ?_
      refine h_loop (α := Int32 × ha_St) (fun (i, σ1) => 0 ≤ i ∧ i ≤ gI σ 44 9 ∧ frX 53 54 σ σ1 ∧ ¬ ∃ x, (0 ≤ x ∧ x < i) ∧ goI (gl3 σ) (gL σ 52) x) (fun (i, σ1) => tm (gI σ 44 9) i) (fun (i, σ1) => [(0, .ref (ad G 44)), (1, .int i)]) (fun (i, σ1) => []) (fun (i, σ1) => σ1) (fun (i, σ1) => 0) (fun (i, σ1) => 0) ?_ (0, σ) ?_
      · rintro ⟨i, σ1⟩ hI1 ih1
        show hW _ _ _ _ _ _ _ _ _ _ _ _ _ 131 [(0, .ref (ad G 44)), (1, .int i)] [] σ1 0 0
        have hY : LY σ1 := hI1.2.2.1.LY hY0
        have hz : gI σ1 44 9 = gI σ 44 9 := frX_44 hI1.2.2.1
        have h52 : gL σ1 52 = gL σ 52 := frX_52 hI1.2.2.1
        refine h_iload_n C 1 dX11_isGoalIn_131 rfl rfl ?_
        refine h_aload_n C 0 dX11_isGoalIn_132 rfl rfl ?_
        refine gfX11_38 C (ty_44 hY) dX11_isGoalIn_133 ?_
        refine h_icmp_ge C 188 dX11_isGoalIn_136 (by decide) (fun c_136 => ?_) (fun c_136 => ?_)
        · refine h_iconst C 0 dX11_isGoalIn_188 (by decide) ?_
          refine h_zret C rfl (by decide) (Nat.zero_le _) (Nat.zero_le _) dX11_isGoalIn_189 ?_
          have he := eq_end hI1.2.1 (by rw [← hz]; exact Int32.not_lt.mpr c_136)
          have hq := hI1.2.2.2
          rw [he] at hq
          refine ⟨⟨_, rfl, isB0 (fun q => ?_)⟩, hI1.2.2.1⟩
          rcases q with q | ⟨-, q, -⟩ | ⟨-, -, q⟩
          · exact hJg q
          · exact c_40 q
          · exact hq q
        · have hil : i < gI σ 44 9 := by rw [← hz]; exact Int32.not_le.mp c_136
          have hib : 0 ≤ i ∧ i < 30 := ⟨hI1.1, Int32.lt_of_lt_of_le hil hm1⟩
          refine h_aload_n C 0 dX11_isGoalIn_139 rfl rfl ?_
          refine h_iload_n C 1 dX11_isGoalIn_140 rfl rfl ?_
          refine h_callV C (m_X11_isAlong hY hib) caX11_214 kX11 (ty_44 hY) ⟨by decide, by decide, by decide, by decide⟩ rfl rfl (Nat.le_of_ble_eq_true rfl) dX11_isGoalIn_141 ?_
          rintro v σ' ⟨⟨rl, rfl, hal⟩, h2⟩; rw [h2]; clear h2; rw [h52, frX_56 hI1.2.2.1] at hal
          show hW _ _ _ _ _ _ _ _ _ _ _ _ _ 144 [(0, .ref (ad G 44)), (1, .int i)] [.int rl] σ1 0 0
          refine h_if_eq C 149 dX11_isGoalIn_144 (by decide) (fun c_144 => ?_) (fun c_144 => ?_)
          · refine h_iconst C 0 dX11_isGoalIn_149 (by decide) ?_
            refine h_istore_n C [(2, .int 0), (0, .ref (ad G 44)), (1, .int i)] dX11_isGoalIn_150 rfl (by decide) rfl ?_
            refine h_sub [1, 2, 0] rfl ?_
            refine h_loop (α := Int32 × ha_St) (fun (j, σ2) => 0 ≤ j ∧ j ≤ i ∧ frX 53 54 σ σ2 ∧ AL j (fun y => ¬ goJ (gl3 σ) (gL σ 52) i y)) (fun (j, σ2) => tm i j) (fun (j, σ2) => [(0, .ref (ad G 44)), (1, .int i), (2, .int j)]) (fun (j, σ2) => []) (fun (j, σ2) => σ2) (fun (j, σ2) => 0) (fun (j, σ2) => 0) ?_ (0, σ1) ?_
            · rintro ⟨j, σ2⟩ hI2 ih2
              show hW _ _ _ _ _ _ _ _ _ _ _ _ _ 151 [(0, .ref (ad G 44)), (1, .int i), (2, .int j)] [] σ2 0 0
              have hY : LY σ2 := hI2.2.2.1.LY hY0
              have hz : gI σ2 44 9 = gI σ 44 9 := frX_44 hI2.2.2.1
              have h52 : gL σ2 52 = gL σ 52 := frX_52 hI2.2.2.1
              refine h_iload_n C 2 dX11_isGoalIn_151 rfl rfl ?_
              refine h_iload_n C 1 dX11_isGoalIn_152 rfl rfl ?_
              refine h_icmp_ge C 182 dX11_isGoalIn_153 (by decide) (fun c_153 => ?_) (fun c_153 => ?_)
              · refine h_iinc C [(1, .int (i + 1)), (0, .ref (ad G 44)), (2, .int j)] 1 (i + 1) dX11_isGoalIn_182 rfl rfl (by decide) rfl ?_
                refine h_goto C 131 dX11_isGoalIn_185 (by decide) ?_
                refine h_sub [1, 0] rfl ?_
                refine ih1 ((i + 1), σ2) ?_ ?_
                · have hje := eq_end hI2.2.1 (Int32.not_lt.mpr c_153)
                  have hq := hI2.2.2.2
                  rw [hje] at hq
                  refine ⟨(le_succ hI1.1 hil).1, (le_succ hI1.1 hil).2, hI2.2.2.1, fun ⟨x, hx, z⟩ => ?_⟩
                  by_cases e : x = i
                  · subst e
                    rcases z with z | ⟨y, hy, z⟩
                    · exact isB_0 hal c_144 z
                    · exact hq y hy.1 hy.2 z
                  · exact hI1.2.2.2 ⟨x, by grind, z⟩
                · exact tm_lt hil
              · have hjl := Int32.not_le.mp c_153
                have hjb : 0 ≤ j ∧ j < 30 := ⟨hI2.1, by grind⟩
                refine h_aload_n C 0 dX11_isGoalIn_156 rfl rfl ?_
                refine h_iload_n C 1 dX11_isGoalIn_157 rfl rfl ?_
                refine h_iload_n C 2 dX11_isGoalIn_158 rfl rfl ?_
                refine h_callV C (m_X11_across hY hib hjb) caX11_176 kX11 (ty_44 hY) ⟨by decide, by decide, by decide, by decide⟩ rfl rfl (Nat.le_of_ble_eq_true rfl) dX11_isGoalIn_159 ?_
                rintro v σ3 ⟨⟨ra, rfl, ha⟩, h2⟩
                rw [h52] at ha
                have hx3 : frX 53 54 σ σ3 := by rw [h2]; exact hI2.2.2.1.tr acrF_x
                have hc3 : cr3 σ3 = crR (gL σ 52) i j := by rw [h2, acrF_c, h52]
                clear h2
                have hY : LY σ3 := hx3.LY hY0
                have hz : gI σ3 44 9 = gI σ 44 9 := frX_44 hx3
                have h52 : gL σ3 52 = gL σ 52 := frX_52 hx3
                show hW _ _ _ _ _ _ _ _ _ _ _ _ _ 162 [(0, .ref (ad G 44)), (1, .int i), (2, .int j)] [.int ra] σ3 0 0
                refine h_if_eq C 176 dX11_isGoalIn_162 (by decide) (fun c_162 => ?_) (fun c_162 => ?_)
                · refine h_iinc C [(2, .int (j + 1)), (0, .ref (ad G 44)), (1, .int i)] 2 (j + 1) dX11_isGoalIn_176 rfl rfl (by decide) rfl ?_
                  refine h_goto C 151 dX11_isGoalIn_179 (by decide) ?_
                  refine h_sub [1, 2, 0] rfl ?_
                  refine ih2 ((j + 1), σ3) ?_ ?_
                  · refine ⟨(le_succ hI2.1 hjl).1, (le_succ hI2.1 hjl).2, hx3, (AL_i hI2.1 hjl).mpr ⟨hI2.2.2.2, ?_⟩⟩
                    exact fun q => isB_0 ha c_162 q.1
                  · exact tm_lt hjl
                · refine h_aload_n C 0 dX11_isGoalIn_165 rfl rfl ?_
                  refine h_iload_n C 1 dX11_isGoalIn_166 rfl rfl ?_
                  refine h_iload_n C 2 dX11_isGoalIn_167 rfl rfl ?_
                  refine h_callV C (m_X11_isBetween hY hib hjb) caX11_217 kX11 (ty_44 hY) ⟨by decide, by decide, by decide, by decide⟩ rfl rfl (Nat.le_of_ble_eq_true rfl) dX11_isGoalIn_168 ?_
                  rintro v σ' ⟨⟨rt, rfl, hbt⟩, h2⟩; rw [h2]; clear h2; rw [h52, hc3, frX_56 hx3] at hbt
                  show hW _ _ _ _ _ _ _ _ _ _ _ _ _ 171 [(0, .ref (ad G 44)), (1, .int i), (2, .int j)] [.int rt] σ3 0 0
                  refine h_if_eq C 176 dX11_isGoalIn_171 (by decide) (fun c_171 => ?_) (fun c_171 => ?_)
                  · refine h_iinc C [(2, .int (j + 1)), (0, .ref (ad G 44)), (1, .int i)] 2 (j + 1) dX11_isGoalIn_176 rfl rfl (by decide) rfl ?_
                    refine h_goto C 151 dX11_isGoalIn_179 (by decide) ?_
                    refine h_sub [1, 2, 0] rfl ?_
                    refine ih2 ((j + 1), σ3) ?_ ?_
                    · refine ⟨(le_succ hI2.1 hjl).1, (le_succ hI2.1 hjl).2, hx3, (AL_i hI2.1 hjl).mpr ⟨hI2.2.2.2, ?_⟩⟩
                      exact fun q => isB_0 hbt c_171 q.2
                    · exact tm_lt hjl
                  · refine h_iconst C 1 dX11_isGoalIn_174 (by decide) ?_
                    refine h_zret C rfl (by decide) (Nat.zero_le _) (Nat.zero_le _) dX11_isGoalIn_175 ?_
                    exact ⟨⟨_, rfl, isB1 (Or.inr (Or.inr ⟨hJg, c_40, i, ⟨hI1.1, hil⟩, Or.inr ⟨j, ⟨hI2.1, hjl⟩, isB_1 ha c_162, isB_1 hbt c_171⟩⟩))⟩, hx3⟩
            · exact ⟨by decide, hI1.1, hI1.2.2.1, AL_0⟩
          · refine h_iconst C 1 dX11_isGoalIn_147 (by decide) ?_
            refine h_zret C rfl (by decide) (Nat.zero_le _) (Nat.zero_le _) dX11_isGoalIn_148 ?_
            exact ⟨⟨_, rfl, isB1 (Or.inr (Or.inr ⟨hJg, c_40, i, ⟨hI1.1, hil⟩, Or.inl (isB_1 hal c_144)⟩))⟩, hI1.2.2.1⟩
      · exact ⟨by decide, hm0, frX.rf, fun ⟨x, hx, _⟩ => by grind⟩
    · refine h_iconst C 1 dX11_isGoalIn_43 (by decide) ?_
      refine h_istore_n C [(1, .int 1), (0, .ref (ad G 44))] dX11_isGoalIn_44 rfl (by decide) rfl ?_
      refine h_iconst C 0 dX11_isGoalIn_45 (by decide) ?_
      refine h_istore_n C [(2, .int 0), (1, .int 1), (0, .ref (ad G 44))] dX11_isGoalIn_46 rfl (by decide) rfl ?_
      refine h_sub [2, 1, 0] rfl ?_
      refine h_loop (α := Int32 × Int32) (fun (b, f) => 0 ≤ f ∧ f ≤ gI σ 44 13 ∧ isB b (AL f (fun f => 0 ≤ dtR (gl3 σ) (gL σ 54) f))) (fun (b, f) => tm (gI σ 44 13) f) (fun (b, f) => [(0, .ref (ad G 44)), (1, .int b), (2, .int f)]) (fun (b, f) => []) (fun (b, f) => σ) (fun (b, f) => 0) (fun (b, f) => 0) ?_ (1, 0) ?_
      · rintro ⟨b, f⟩ hI ih
        show hW _ _ _ _ _ _ _ _ _ _ _ _ _ 47 [(0, .ref (ad G 44)), (1, .int b), (2, .int f)] [] σ 0 0
        refine h_iload_n C 2 dX11_isGoalIn_47 rfl rfl ?_
        refine h_aload_n C 0 dX11_isGoalIn_48 rfl rfl ?_
        refine gfX11_51 C (ty_44 hY) dX11_isGoalIn_49 ?_
        refine h_icmp_ge C 127 dX11_isGoalIn_52 (by decide) (fun c_52 => ?_) (fun c_52 => ?_)
        · refine h_iload_n C 1 dX11_isGoalIn_127 rfl rfl ?_
          refine h_zret C rfl (isB01 hI.2.2) (Nat.zero_le _) (Nat.zero_le _) dX11_isGoalIn_128 ?_
          have he := eq_end hI.2.1 (Int32.not_lt.mpr c_52)
          have hq := hI.2.2
          rw [he] at hq
          refine ⟨⟨_, rfl, isB_i hq ⟨fun q => Or.inr (Or.inl ⟨hJg, c_40, q⟩), fun q => ?_⟩⟩, frX.rf⟩
          rcases q with q | ⟨-, -, q⟩ | ⟨-, q, -⟩
          · exact absurd q hJg
          · exact q
          · exact absurd c_40 q
        · have hfl := Int32.not_le.mp c_52
          have hfb : 0 ≤ f ∧ f < 900 := ⟨hI.1, Int32.lt_of_lt_of_le hfl hF1⟩
          refine h_join (α := Int32) 120 (fun b2 => isB b2 (AL (f + 1) (fun f => 0 ≤ dtR (gl3 σ) (gL σ 54) f))) (fun b2 => [(0, .ref (ad G 44)), (2, .int f)]) (fun b2 => [.int b2]) (fun b2 => σ) (fun b2 => 0) (fun b2 => 0) ?_ (fun J_2 => ?_)
          · rintro b2 hJb
            show hW _ _ _ _ _ _ _ _ _ _ _ _ _ 120 [(0, .ref (ad G 44)), (2, .int f)] [.int b2] σ 0 0
            refine h_istore_n C [(1, .int b2), (0, .ref (ad G 44)), (2, .int f)] dX11_isGoalIn_120 rfl (by decide) rfl ?_
            refine h_iinc C [(2, .int (f + 1)), (1, .int b2), (0, .ref (ad G 44))] 2 (f + 1) dX11_isGoalIn_121 rfl rfl (by decide) rfl ?_
            refine h_goto C 47 dX11_isGoalIn_124 (by decide) ?_
            refine h_sub [2, 1, 0] rfl ?_
            refine ih (b2, (f + 1)) ?_ ?_
            · exact ⟨(le_succ hI.1 hfl).1, (le_succ hI.1 hfl).2, hJb⟩
            · exact tm_lt hfl
          · refine h_iload_n C 1 dX11_isGoalIn_55 rfl rfl ?_
            refine h_if_eq C 119 dX11_isGoalIn_56 (by decide) (fun c_56 => ?_) (fun c_56 => ?_)
            · refine h_iconst C 0 dX11_isGoalIn_119 (by decide) ?_
              refine h_sub [0, 2] rfl ?_
              refine J_2 0 ?_
              refine isB_i ?_ (AL_i hI.1 hfl).symm
              exact isB0 (fun q => isB_0 hI.2.2 c_56 q.1)
            · refine h_aload_n C 0 dX11_isGoalIn_59 rfl rfl ?_
              refine gfX11_54 C (ty_44 hY) dX11_isGoalIn_60 ?_
              refine h_tref (b := 54) (rf_44_14 hY) ?_
              refine h_iconst C 3 dX11_isGoalIn_63 (by decide) ?_
              refine h_iload_n C 2 dX11_isGoalIn_64 rfl rfl ?_
              refine h_imul C dX11_isGoalIn_65 ?_
              refine h_lald C (ty_54 hY) (t900 hfb.1 hfb.2).1 dX11_isGoalIn_66 ?_
              refine h_aload_n C 0 dX11_isGoalIn_67 rfl rfl ?_
              refine gfX11_60 C (ty_44 hY) dX11_isGoalIn_68 ?_
              refine h_tref (b := 56) (rf_44_16 hY) ?_
              refine h_iconst C 0 dX11_isGoalIn_71 (by decide) ?_
              refine h_lald C (ty_56 hY) (vp32 (N := 3) (by decide) (by decide) (by decide)) dX11_isGoalIn_72 ?_
              show hW _ _ _ _ _ _ _ _ _ _ _ _ _ 73 [(0, .ref (ad G 44)), (1, .int b), (2, .int f)] [.long (gL σ 56 0), .long (gL σ 54 (3 * f).toNatClampNeg)] σ 0 0
              refine h_lmul C dX11_isGoalIn_73 ?_
              refine h_aload_n C 0 dX11_isGoalIn_74 rfl rfl ?_
              refine gfX11_54 C (ty_44 hY) dX11_isGoalIn_75 ?_
              refine h_tref (b := 54) (rf_44_14 hY) ?_
              refine h_iconst C 3 dX11_isGoalIn_78 (by decide) ?_
              refine h_iload_n C 2 dX11_isGoalIn_79 rfl rfl ?_
              refine h_imul C dX11_isGoalIn_80 ?_
              refine h_iconst C 1 dX11_isGoalIn_81 (by decide) ?_
              refine h_iadd C dX11_isGoalIn_82 ?_
              refine h_lald C (ty_54 hY) (t900 hfb.1 hfb.2).2.1 dX11_isGoalIn_83 ?_
              refine h_aload_n C 0 dX11_isGoalIn_84 rfl rfl ?_
              refine gfX11_60 C (ty_44 hY) dX11_isGoalIn_85 ?_
              refine h_tref (b := 56) (rf_44_16 hY) ?_
              refine h_iconst C 1 dX11_isGoalIn_88 (by decide) ?_
              refine h_lald C (ty_56 hY) (vp32 (N := 3) (by decide) (by decide) (by decide)) dX11_isGoalIn_89 ?_
              show hW _ _ _ _ _ _ _ _ _ _ _ _ _ 90 [(0, .ref (ad G 44)), (1, .int b), (2, .int f)] [.long (gL σ 56 1), .long (gL σ 54 ((3 * f) + 1).toNatClampNeg), .long ((gL σ 54 (3 * f).toNatClampNeg) * (gL σ 56 0))] σ 0 0
              refine h_lmul C dX11_isGoalIn_90 ?_
              refine h_ladd C dX11_isGoalIn_91 ?_
              refine h_aload_n C 0 dX11_isGoalIn_92 rfl rfl ?_
              refine gfX11_54 C (ty_44 hY) dX11_isGoalIn_93 ?_
              refine h_tref (b := 54) (rf_44_14 hY) ?_
              refine h_iconst C 3 dX11_isGoalIn_96 (by decide) ?_
              refine h_iload_n C 2 dX11_isGoalIn_97 rfl rfl ?_
              refine h_imul C dX11_isGoalIn_98 ?_
              refine h_iconst C 2 dX11_isGoalIn_99 (by decide) ?_
              refine h_iadd C dX11_isGoalIn_100 ?_
              refine h_lald C (ty_54 hY) (t900 hfb.1 hfb.2).2.2 dX11_isGoalIn_101 ?_
              refine h_aload_n C 0 dX11_isGoalIn_102 rfl rfl ?_
              refine gfX11_60 C (ty_44 hY) dX11_isGoalIn_103 ?_
              refine h_tref (b := 56) (rf_44_16 hY) ?_
              refine h_iconst C 2 dX11_isGoalIn_106 (by decide) ?_
              refine h_lald C (ty_56 hY) (vp32 (N := 3) (by decide) (by decide) (by decide)) dX11_isGoalIn_107 ?_
              show hW _ _ _ _ _ _ _ _ _ _ _ _ _ 108 [(0, .ref (ad G 44)), (1, .int b), (2, .int f)] [.long (gL σ 56 2), .long (gL σ 54 ((3 * f) + 2).toNatClampNeg), .long (((gL σ 54 (3 * f).toNatClampNeg) * (gL σ 56 0)) + ((gL σ 54 ((3 * f) + 1).toNatClampNeg) * (gL σ 56 1)))] σ 0 0
              refine h_lmul C dX11_isGoalIn_108 ?_
              refine h_ladd C dX11_isGoalIn_109 ?_
              refine h_lconst C 0 dX11_isGoalIn_110 rfl ?_
              refine h_lcmp C dX11_isGoalIn_111 ?_
              refine h_if_lt C 119 dX11_isGoalIn_112 (by decide) (fun c_112 => ?_) (fun c_112 => ?_)
              · refine h_iconst C 0 dX11_isGoalIn_119 (by decide) ?_
                refine h_sub [0, 2] rfl ?_
                refine J_2 0 ?_
                have e : gL σ 54 (3 * f).toNatClampNeg * gL σ 56 0 + gL σ 54 (3 * f + 1).toNatClampNeg * gL σ 56 1 + gL σ 54 (3 * f + 2).toNatClampNeg * gL σ 56 2 = dtR (gl3 σ) (gL σ 54) f := by
                  unfold dtR gl3 q0 q1 q2
                  grind
                rw [e] at c_112
                refine isB_i ?_ (AL_i hI.1 hfl).symm
                exact isB0 (fun q => absurd q.2 (Int64.not_le.mpr ((lg_lt0 _).mp c_112)))
              · refine h_iconst C 1 dX11_isGoalIn_115 (by decide) ?_
                refine h_goto C 120 dX11_isGoalIn_116 (by decide) ?_
                refine h_sub [0, 2] rfl ?_
                refine J_2 1 ?_
                have e : gL σ 54 (3 * f).toNatClampNeg * gL σ 56 0 + gL σ 54 (3 * f + 1).toNatClampNeg * gL σ 56 1 + gL σ 54 (3 * f + 2).toNatClampNeg * gL σ 56 2 = dtR (gl3 σ) (gL σ 54) f := by
                  unfold dtR gl3 q0 q1 q2
                  grind
                rw [e] at c_112
                refine isB_i ?_ (AL_i hI.1 hfl).symm
                exact isB1 ⟨isB_1 hI.2.2 c_56, lg_ge c_112⟩
      · exact ⟨by decide, hF0, isB1 AL_0⟩
  · refine h_aload_n C 0 dX11_isGoalIn_0 rfl rfl ?_
    refine gfX11_60 C (ty_44 hY) dX11_isGoalIn_1 ?_
    refine h_tref (b := 56) (rf_44_16 hY) ?_
    refine h_iconst C 0 dX11_isGoalIn_4 (by decide) ?_
    refine h_lald C (ty_56 hY) (vp32 (N := 3) (by decide) (by decide) (by decide)) dX11_isGoalIn_5 ?_
    show hW _ _ _ _ _ _ _ _ _ _ _ _ _ 6 [(0, .ref (ad G 44))] [.long (gL σ 56 0)] σ 0 0
    refine h_lconst C 0 dX11_isGoalIn_6 rfl ?_
    refine h_lcmp C dX11_isGoalIn_7 ?_
    refine h_if_ne C 35 dX11_isGoalIn_8 (by decide) (fun c_8 => ?_) (fun c_8 => ?_)
    · refine J_1 0 ?_
      exact fun q => lg_n c_8 (congrArg (fun z : I3 => z.1) q)
    · refine h_aload_n C 0 dX11_isGoalIn_11 rfl rfl ?_
      refine gfX11_60 C (ty_44 hY) dX11_isGoalIn_12 ?_
      refine h_tref (b := 56) (rf_44_16 hY) ?_
      refine h_iconst C 1 dX11_isGoalIn_15 (by decide) ?_
      refine h_lald C (ty_56 hY) (vp32 (N := 3) (by decide) (by decide) (by decide)) dX11_isGoalIn_16 ?_
      show hW _ _ _ _ _ _ _ _ _ _ _ _ _ 17 [(0, .ref (ad G 44))] [.long (gL σ 56 1)] σ 0 0
      refine h_lconst C 0 dX11_isGoalIn_17 rfl ?_
      refine h_lcmp C dX11_isGoalIn_18 ?_
      refine h_if_ne C 35 dX11_isGoalIn_19 (by decide) (fun c_19 => ?_) (fun c_19 => ?_)
      · refine J_1 0 ?_
        exact fun q => lg_n c_19 (congrArg (fun z : I3 => z.2.1) q)
      · refine h_aload_n C 0 dX11_isGoalIn_22 rfl rfl ?_
        refine gfX11_60 C (ty_44 hY) dX11_isGoalIn_23 ?_
        refine h_tref (b := 56) (rf_44_16 hY) ?_
        refine h_iconst C 2 dX11_isGoalIn_26 (by decide) ?_
        refine h_lald C (ty_56 hY) (vp32 (N := 3) (by decide) (by decide) (by decide)) dX11_isGoalIn_27 ?_
        show hW _ _ _ _ _ _ _ _ _ _ _ _ _ 28 [(0, .ref (ad G 44))] [.long (gL σ 56 2)] σ 0 0
        refine h_lconst C 0 dX11_isGoalIn_28 rfl ?_
        refine h_lcmp C dX11_isGoalIn_29 ?_
        refine h_if_ne C 35 dX11_isGoalIn_30 (by decide) (fun c_30 => ?_) (fun c_30 => ?_)
        · refine J_1 0 ?_
          exact fun q => lg_n c_30 (congrArg (fun z : I3 => z.2.2) q)
        · refine h_iconst C 1 dX11_isGoalIn_33 (by decide) ?_
          refine h_zret C rfl (by decide) (Nat.zero_le _) (Nat.zero_le _) dX11_isGoalIn_34 ?_
          exact ⟨⟨_, rfl, isB1 (Or.inl (Prod.ext (lg_e c_8) (Prod.ext (lg_e c_19) (lg_e c_30))))⟩, frX.rf⟩
def mGoal (σ : ha_St) (p q m f : Int32) : I3 := ((-p).toInt64 - f.toInt64 * gL σ 55 0, (-q).toInt64 - f.toInt64 * gL σ 55 1, (-m).toInt64 - f.toInt64 * gL σ 55 2)
/-- only the cross and the goal have changed -/
def frK (σ σ' : ha_St) : Prop := gT σ' = gT σ ∧ gR σ' = gR σ ∧ gn σ' = gn σ ∧ ∀ a, a ≠ 53 → a ≠ 56 → gI σ' a = gI σ a ∧ gL σ' a = gL σ a
theorem frK.rf {σ : ha_St} : frK σ σ := ⟨rfl, rfl, rfl, fun _ _ _ => ⟨rfl, rfl⟩⟩
theorem frK.tr {σ σ1 σ2 : ha_St} (h : frK σ σ1) (g : frK σ1 σ2) : frK σ σ2 := ⟨g.1.trans h.1, g.2.1.trans h.2.1, g.2.2.1.trans h.2.2.1, fun a h1 h2 => ⟨(g.2.2.2 a h1 h2).1.trans (h.2.2.2 a h1 h2).1, (g.2.2.2 a h1 h2).2.trans (h.2.2.2 a h1 h2).2⟩⟩
theorem frK.LY {σ σ' : ha_St} (h : frK σ σ') (hY : LY σ) : LY σ' := hY.same h.1 h.2.1 h.2.2.1
theorem frK_X {σ σ' : ha_St} (h : frX 53 54 σ σ') : frK σ σ' := ⟨h.1, h.2.1, h.2.2.1, fun a h1 _ => h.2.2.2 a (by omega)⟩
theorem frK_sL {σ : ha_St} {j : Nat} {v : Int64} : frK σ (sL σ 56 j v) := ⟨rfl, rfl, rfl, fun a _ h2 => ⟨rfl, funext fun y => by rw [gL_sL, if_neg (fun q => h2 q.1)]⟩⟩
theorem frK.J {σ σ' : ha_St} (h : frK σ σ') : frJ σ σ' := ⟨h.1, h.2.1, h.2.2.1, fun a j hj => by rw [(h.2.2.2 a (by unfold scJ at hj; omega) (by unfold scJ at hj; omega)).1], fun a ha => (h.2.2.2 a (by omega) (by omega)).2⟩
theorem frK_gIn {σ σ' : ha_St} (h : frK σ σ') {g : I3} : gInG σ' g ↔ gInG σ g := by
  unfold gInG
  rw [(h.2.2.2 44 (by omega) (by omega)).1, (h.2.2.2 54 (by omega) (by omega)).2, (h.2.2.2 52 (by omega) (by omega)).2]
theorem frK_goal {σ σ' : ha_St} (h : frK σ σ') {p q m f : Int32} : mGoal σ' p q m f = mGoal σ p q m f := by
  unfold mGoal
  rw [(h.2.2.2 55 (by omega) (by omega)).2]
def glF (σ : ha_St) (x y z : Int64) : ha_St := sL (sL (sL σ 56 0 x) 56 1 y) 56 2 z
theorem glF_K {σ : ha_St} {x y z : Int64} : frK σ (glF σ x y z) := (frK_sL.tr frK_sL).tr frK_sL
theorem glF_g {σ : ha_St} {x y z : Int64} : gl3 (glF σ x y z) = (x, y, z) := by unfold gl3 glF; simp [gL_sL]
set_option maxRecDepth 100000 in
set_option maxHeartbeats 4000000 in
theorem m_X11_isHeld {G : ha_G} {l : Launch} {σ : ha_St} {pp qq mm f : Int32} (hY : LY σ) (hm0 : 0 ≤ gI σ 44 9) (hm1 : gI σ 44 9 ≤ 30) (hF0 : 0 ≤ gI σ 44 13) (hF1 : gI σ 44 13 ≤ 900) : hM G l yX11_isHeld cX11_isHeld 5 (some .boolean) { frames := 2, cells := 0, slots := 0, locals := 51 } [.ref (ad G 44), .int pp, .int qq, .int mm, .int f] σ (fun v σ' => (∃ r, v = some (.int r) ∧ isB r (gInG σ (mGoal σ pp qq mm f))) ∧ frK σ σ') := by
  refine hM_ofF [(0, .ref (ad G 44)), (1, .int pp), (2, .int qq), (3, .int mm), (4, .int f)] (by decide +kernel) (Nat.le_of_ble_eq_true rfl) rfl ?_
  intro p e s m args below meth c0 C hin
  refine h_aload_n C 0 dX11_isHeld_0 rfl rfl ?_
  refine gfX11_60 C (ty_44 hY) dX11_isHeld_1 ?_
  refine h_tref (b := 56) (rf_44_16 hY) ?_
  refine h_iconst C 0 dX11_isHeld_4 (by decide) ?_
  refine h_iload_n C 1 dX11_isHeld_5 rfl rfl ?_
  refine h_ineg C dX11_isHeld_6 ?_
  refine h_i2l C dX11_isHeld_7 ?_
  refine h_iload C 4 dX11_isHeld_8 rfl ?_
  refine h_i2l C dX11_isHeld_10 ?_
  refine h_aload_n C 0 dX11_isHeld_11 rfl rfl ?_
  refine gfX11_57 C (ty_44 hY) dX11_isHeld_12 ?_
  refine h_tref (b := 55) (rf_44_15 hY) ?_
  refine h_iconst C 0 dX11_isHeld_15 (by decide) ?_
  refine h_lald C (ty_55 hY) (vp32 (N := 3) (by decide) (by decide) (by decide)) dX11_isHeld_16 ?_
  show hW _ _ _ _ _ _ _ _ _ _ _ _ _ 17 [(0, .ref (ad G 44)), (1, .int pp), (2, .int qq), (3, .int mm), (4, .int f)] [.long (gL σ 55 0), .long f.toInt64, .long (-pp).toInt64, .int 0, .ref (ad G 56)] σ 0 0
  refine h_lmul C dX11_isHeld_17 ?_
  refine h_lsub C dX11_isHeld_18 ?_
  refine h_last C _ (ty_56 hY) (vp32 (N := 3) (by decide) (by decide) (by decide)) dX11_isHeld_19 rfl ?_
  show hW _ _ _ _ _ _ _ _ _ _ _ _ _ 20 [(0, .ref (ad G 44)), (1, .int pp), (2, .int qq), (3, .int mm), (4, .int f)] [] (sL σ 56 0 ((-pp).toInt64 - (f.toInt64 * (gL σ 55 0)))) 0 0
  refine h_aload_n C 0 dX11_isHeld_20 rfl rfl ?_
  refine gfX11_60 C (ty_44 hY) dX11_isHeld_21 ?_
  refine h_tref (b := 56) (rf_44_16 hY) ?_
  refine h_iconst C 1 dX11_isHeld_24 (by decide) ?_
  refine h_iload_n C 2 dX11_isHeld_25 rfl rfl ?_
  refine h_ineg C dX11_isHeld_26 ?_
  refine h_i2l C dX11_isHeld_27 ?_
  refine h_iload C 4 dX11_isHeld_28 rfl ?_
  refine h_i2l C dX11_isHeld_30 ?_
  refine h_aload_n C 0 dX11_isHeld_31 rfl rfl ?_
  refine gfX11_57 C (ty_44 hY) dX11_isHeld_32 ?_
  refine h_tref (b := 55) (rf_44_15 hY) ?_
  refine h_iconst C 1 dX11_isHeld_35 (by decide) ?_
  refine h_lald C (ty_55 hY) (vp32 (N := 3) (by decide) (by decide) (by decide)) dX11_isHeld_36 ?_
  show hW _ _ _ _ _ _ _ _ _ _ _ _ _ 37 [(0, .ref (ad G 44)), (1, .int pp), (2, .int qq), (3, .int mm), (4, .int f)] [.long (gL σ 55 1), .long f.toInt64, .long (-qq).toInt64, .int 1, .ref (ad G 56)] (sL σ 56 0 ((-pp).toInt64 - (f.toInt64 * (gL σ 55 0)))) 0 0
  refine h_lmul C dX11_isHeld_37 ?_
  refine h_lsub C dX11_isHeld_38 ?_
  refine h_last C _ (ty_56 hY) (vp32 (N := 3) (by decide) (by decide) (by decide)) dX11_isHeld_39 rfl ?_
  show hW _ _ _ _ _ _ _ _ _ _ _ _ _ 40 [(0, .ref (ad G 44)), (1, .int pp), (2, .int qq), (3, .int mm), (4, .int f)] [] (sL (sL σ 56 0 ((-pp).toInt64 - (f.toInt64 * (gL σ 55 0)))) 56 1 ((-qq).toInt64 - (f.toInt64 * (gL σ 55 1)))) 0 0
  refine h_aload_n C 0 dX11_isHeld_40 rfl rfl ?_
  refine gfX11_60 C (ty_44 hY) dX11_isHeld_41 ?_
  refine h_tref (b := 56) (rf_44_16 hY) ?_
  refine h_iconst C 2 dX11_isHeld_44 (by decide) ?_
  refine h_iload_n C 3 dX11_isHeld_45 rfl rfl ?_
  refine h_ineg C dX11_isHeld_46 ?_
  refine h_i2l C dX11_isHeld_47 ?_
  refine h_iload C 4 dX11_isHeld_48 rfl ?_
  refine h_i2l C dX11_isHeld_50 ?_
  refine h_aload_n C 0 dX11_isHeld_51 rfl rfl ?_
  refine gfX11_57 C (ty_44 hY) dX11_isHeld_52 ?_
  refine h_tref (b := 55) (rf_44_15 hY) ?_
  refine h_iconst C 2 dX11_isHeld_55 (by decide) ?_
  refine h_lald C (ty_55 hY) (vp32 (N := 3) (by decide) (by decide) (by decide)) dX11_isHeld_56 ?_
  show hW _ _ _ _ _ _ _ _ _ _ _ _ _ 57 [(0, .ref (ad G 44)), (1, .int pp), (2, .int qq), (3, .int mm), (4, .int f)] [.long (gL σ 55 2), .long f.toInt64, .long (-mm).toInt64, .int 2, .ref (ad G 56)] (sL (sL σ 56 0 ((-pp).toInt64 - (f.toInt64 * (gL σ 55 0)))) 56 1 ((-qq).toInt64 - (f.toInt64 * (gL σ 55 1)))) 0 0
  refine h_lmul C dX11_isHeld_57 ?_
  refine h_lsub C dX11_isHeld_58 ?_
  refine h_last C _ (ty_56 hY) (vp32 (N := 3) (by decide) (by decide) (by decide)) dX11_isHeld_59 rfl ?_
  show hW _ _ _ _ _ _ _ _ _ _ _ _ _ 60 [(0, .ref (ad G 44)), (1, .int pp), (2, .int qq), (3, .int mm), (4, .int f)] [] (sL (sL (sL σ 56 0 ((-pp).toInt64 - (f.toInt64 * (gL σ 55 0)))) 56 1 ((-qq).toInt64 - (f.toInt64 * (gL σ 55 1)))) 56 2 ((-mm).toInt64 - (f.toInt64 * (gL σ 55 2)))) 0 0
  obtain ⟨σ1, e1⟩ : ∃ z, z = (sL (sL (sL σ 56 0 ((-pp).toInt64 - (f.toInt64 * (gL σ 55 0)))) 56 1 ((-qq).toInt64 - (f.toInt64 * (gL σ 55 1)))) 56 2 ((-mm).toInt64 - (f.toInt64 * (gL σ 55 2)))) := ⟨_, rfl⟩
  rw [← e1]
  have hk1 : frK σ σ1 := by rw [e1]; exact glF_K (x := (-pp).toInt64 - f.toInt64 * gL σ 55 0) (y := (-qq).toInt64 - f.toInt64 * gL σ 55 1) (z := (-mm).toInt64 - f.toInt64 * gL σ 55 2)
  have hg1 : gl3 σ1 = mGoal σ pp qq mm f := by rw [e1]; exact glF_g (x := (-pp).toInt64 - f.toInt64 * gL σ 55 0) (y := (-qq).toInt64 - f.toInt64 * gL σ 55 1) (z := (-mm).toInt64 - f.toInt64 * gL σ 55 2)
  have hY1 : LY σ1 := hk1.LY hY
  have h44 : gI σ1 44 = gI σ 44 := (hk1.2.2.2 44 (by omega) (by omega)).1
  clear e1
  have hY := hY1
  refine h_aload_n C 0 dX11_isHeld_60 rfl rfl ?_
  refine h_callV C (m_X11_isGoalIn (σ := σ1) hY1 (by rw [h44]; exact hm0) (by rw [h44]; exact hm1) (by rw [h44]; exact hF0) (by rw [h44]; exact hF1)) caX11_220 kX11 (ty_44 hY) ⟨by decide, by decide, by decide, by decide⟩ rfl rfl (Nat.le_of_ble_eq_true rfl) dX11_isHeld_61 ?_
  rintro v σ2 ⟨⟨r, rfl, hr⟩, hx2⟩
  rw [hg1] at hr
  show hW _ _ _ _ _ _ _ _ _ _ _ _ _ 64 [(0, .ref (ad G 44)), (1, .int pp), (2, .int qq), (3, .int mm), (4, .int f)] [.int r] σ2 0 0
  refine h_zret C rfl (isB01 hr) (Nat.zero_le _) (Nat.zero_le _) dX11_isHeld_64 ?_
  exact ⟨⟨_, rfl, isB_i hr (frK_gIn hk1)⟩, hk1.tr (frK_X hx2)⟩
