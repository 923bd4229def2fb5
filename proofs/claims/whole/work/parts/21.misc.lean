def lAbs (x : Int64) : Int64 := if x < 0 then -x else x
def euc : Nat → Int64 → Int64 → Int64
  | 0, a, _ => a
  | n + 1, a, b => if b = 0 then a else euc n b (a - a / b * b)
/-- steps in a row, as a function -/
def itF (f : Nat → ha_St → ha_St) : Nat → ha_St → ha_St
  | 0, s => s
  | n + 1, s => f n (itF f n s)
theorem itF_inv {f : Nat → ha_St → ha_St} {P : ha_St → Prop} {s : ha_St} (h0 : P s) (hs : ∀ i s, P s → P (f i s)) : ∀ n, P (itF f n s)
  | 0 => h0
  | n + 1 => hs n _ (itF_inv h0 hs n)
set_option maxRecDepth 100000 in
set_option maxHeartbeats 4000000 in
theorem m_X10_commonDivisor {G : ha_G} {l : Launch} {σ : ha_St} {x y : Int64} : hM G l yX10_commonDivisor cX10_commonDivisor 11 (some .long) { frames := 1, cells := 0, slots := 0, locals := 21 } [.long x, .long y] σ (fun v σ' => v = some (.long (euc 100 (lAbs x) (lAbs y))) ∧ σ' = σ) := by
  refine hM_ofF [(0, .long x), (2, .long y)] (by decide +kernel) (Nat.le_of_ble_eq_true rfl) rfl ?_
  intro p e s m args below meth c0 C hin
  refine h_lload_n C 0 dX10_commonDivisor_0 rfl rfl ?_
  refine h_callS C m_J9_abs_067f4 caX10_378 ⟨by decide, by decide, by decide, by decide⟩ rfl rfl (Nat.le_of_ble_eq_true rfl) dX10_commonDivisor_1 ?_
  rintro v σ' ⟨rfl, h2⟩; rw [h2]; clear h2
  show hW _ _ _ _ _ _ _ _ _ _ _ _ _ 4 [(0, .long x), (2, .long y)] [.long (lAbs x)] σ 0 0
  refine h_lstore C [(4, .long (lAbs x)), (0, .long x), (2, .long y)] dX10_commonDivisor_4 (by decide) rfl ?_
  refine h_lload_n C 2 dX10_commonDivisor_6 rfl rfl ?_
  refine h_callS C m_J9_abs_067f4 caX10_378 ⟨by decide, by decide, by decide, by decide⟩ rfl rfl (Nat.le_of_ble_eq_true rfl) dX10_commonDivisor_7 ?_
  rintro v σ' ⟨rfl, h2⟩; rw [h2]; clear h2
  show hW _ _ _ _ _ _ _ _ _ _ _ _ _ 10 [(4, .long (lAbs x)), (0, .long x), (2, .long y)] [.long (lAbs y)] σ 0 0
  refine h_lstore C [(6, .long (lAbs y)), (4, .long (lAbs x)), (0, .long x), (2, .long y)] dX10_commonDivisor_10 (by decide) rfl ?_
  refine h_iconst C 0 dX10_commonDivisor_12 (by decide) ?_
  refine h_istore C [(8, .int 0), (6, .long (lAbs y)), (4, .long (lAbs x)), (0, .long x), (2, .long y)] dX10_commonDivisor_13 (by decide) rfl ?_
  refine h_sub [2, 1, 0] rfl ?_
  refine h_loop (α := Int32 × Int64 × Int64) (fun (i, a, b) => 0 ≤ i ∧ i ≤ 100 ∧ euc (100 - i.toNatClampNeg) a b = euc 100 (lAbs x) (lAbs y)) (fun (i, a, b) => tm 100 i) (fun (i, a, b) => [(4, .long a), (6, .long b), (8, .int i)]) (fun (i, a, b) => []) (fun (i, a, b) => σ) (fun (i, a, b) => 0) (fun (i, a, b) => 0) ?_ (0, (lAbs x), (lAbs y)) ?_
  · rintro ⟨i, a, b⟩ hI ih
    show hW _ _ _ _ _ _ _ _ _ _ _ _ _ 15 [(4, .long a), (6, .long b), (8, .int i)] [] σ 0 0
    refine h_iload C 2 dX10_commonDivisor_15 rfl ?_
    refine h_bipush C 100 dX10_commonDivisor_17 (by decide) ?_
    refine h_icmp_ge C 50 dX10_commonDivisor_19 (by decide) (fun c_19 => ?_) (fun c_19 => ?_)
    · refine h_lload C 0 dX10_commonDivisor_50 rfl ?_
      refine h_lret C rfl (Nat.zero_le _) (Nat.zero_le _) dX10_commonDivisor_52 ?_
      refine ⟨?_, rfl⟩
      rw [← hI.2.2]
      first
        | (have he := eq_end hI.2.1 (Int32.not_lt.mpr c_19); subst he; rfl)
        | (have hb := lg_eq0.mp c_26
           subst hb
           cases h : 100 - i.toNatClampNeg <;> simp [euc])
    · refine h_lload C 1 dX10_commonDivisor_22 rfl ?_
      refine h_lconst C 0 dX10_commonDivisor_24 rfl ?_
      refine h_lcmp C dX10_commonDivisor_25 ?_
      refine h_if_eq C 50 dX10_commonDivisor_26 (by decide) (fun c_26 => ?_) (fun c_26 => ?_)
      · refine h_lload C 0 dX10_commonDivisor_50 rfl ?_
        refine h_lret C rfl (Nat.zero_le _) (Nat.zero_le _) dX10_commonDivisor_52 ?_
        refine ⟨?_, rfl⟩
        rw [← hI.2.2]
        first
          | (have he := eq_end hI.2.1 (Int32.not_lt.mpr c_19); subst he; rfl)
          | (have hb := lg_eq0.mp c_26
             subst hb
             cases h : 100 - i.toNatClampNeg <;> simp [euc])
      · refine h_lload C 0 dX10_commonDivisor_29 rfl ?_
        refine h_lload C 1 dX10_commonDivisor_31 rfl ?_
        refine h_lrem C dX10_commonDivisor_33 (fun q => c_26 (lg_eq0.mpr q)) ?_
        refine h_lstore C [(9, .long (a - a / b * b)), (4, .long a), (6, .long b), (8, .int i)] dX10_commonDivisor_34 (by decide) rfl ?_
        refine h_lload C 2 dX10_commonDivisor_36 rfl ?_
        refine h_lstore C [(4, .long b), (9, .long (a - a / b * b)), (6, .long b), (8, .int i)] dX10_commonDivisor_38 (by decide) rfl ?_
        refine h_lload C 1 dX10_commonDivisor_40 rfl ?_
        refine h_lstore C [(6, .long (a - a / b * b)), (4, .long b), (9, .long (a - a / b * b)), (8, .int i)] dX10_commonDivisor_42 (by decide) rfl ?_
        refine h_iinc C [(8, .int (i + 1)), (6, .long (a - a / b * b)), (4, .long b), (9, .long (a - a / b * b))] 3 (i + 1) dX10_commonDivisor_44 rfl rfl (by decide) rfl ?_
        refine h_goto C 15 dX10_commonDivisor_47 (by decide) ?_
        refine h_sub [2, 1, 0] rfl ?_
        refine ih ((i + 1), b, (a - a / b * b)) ?_ ?_
        · have hlt : i < 100 := Int32.not_le.mp c_19
          have e1 := tn_lt hI.1 hlt
          rw [show (100 : Int32).toNatClampNeg = 100 by decide] at e1
          refine ⟨(le_succ hI.1 hlt).1, (le_succ hI.1 hlt).2, ?_⟩
          rw [← hI.2.2, tn_succ hI.1 hlt, show 100 - i.toNatClampNeg = (100 - (i.toNatClampNeg + 1)) + 1 by omega]
          show _ = if b = 0 then a else _
          rw [if_neg (fun q => c_26 (lg_eq0.mpr q))]
        · exact tm_lt (Int32.not_le.mp c_19)
  · exact ⟨by decide, by decide, rfl⟩
def redD (σ : ha_St) : Int64 := euc 100 (lAbs (euc 100 (lAbs (gL σ 2 8)) (lAbs (gL σ 2 9)))) (lAbs (gL σ 2 10))
def redL (σ : ha_St) : Int64 := if gL σ 2 10 = 0 then (if gL σ 2 8 = 0 then gL σ 2 9 else gL σ 2 8) else gL σ 2 10
def redS (σ : ha_St) : Int64 := if redL σ < 0 then -redD σ else redD σ
def redF (σ : ha_St) : ha_St := if redS σ = 0 then σ else set3 σ 2 (gL σ 2 8 / redS σ) (gL σ 2 9 / redS σ) (gL σ 2 10 / redS σ)
set_option maxRecDepth 100000 in
set_option maxHeartbeats 4000000 in
theorem m_X2_reduceNormal {G : ha_G} {l : Launch} {σ : ha_St} (hY : LY σ) : hM G l yX2_reduceNormal cX2_reduceNormal 5 none { frames := 2, cells := 0, slots := 0, locals := 51 } [.ref (ad G 2)] σ (fun v σ' => v = none ∧ σ' = redF σ) := by
  refine hM_ofF [(0, .ref (ad G 2))] (by decide +kernel) (Nat.le_of_ble_eq_true rfl) rfl ?_
  intro p e s m args below meth c0 C hin
  refine h_aload_n C 0 dX2_reduceNormal_0 rfl rfl ?_
  refine gfX2_37 C (ty_2 hY) dX2_reduceNormal_1 ?_
  refine h_aload_n C 0 dX2_reduceNormal_4 rfl rfl ?_
  refine gfX2_41 C (ty_2 hY) dX2_reduceNormal_5 ?_
  refine h_callSN C m_X10_commonDivisor caX2_67 ⟨by decide, by decide, by decide, by decide⟩ rfl rfl (Nat.le_of_ble_eq_true rfl) dX2_reduceNormal_8 ?_
  rintro v σ' ⟨rfl, h2⟩; rw [h2]; clear h2
  show hW _ _ _ _ _ _ _ _ _ _ _ _ _ 11 [(0, .ref (ad G 2))] [.long (euc 100 (lAbs (gL σ 2 8)) (lAbs (gL σ 2 9)))] σ 0 0
  refine h_aload_n C 0 dX2_reduceNormal_11 rfl rfl ?_
  refine gfX2_44 C (ty_2 hY) dX2_reduceNormal_12 ?_
  refine h_callSN C m_X10_commonDivisor caX2_67 ⟨by decide, by decide, by decide, by decide⟩ rfl rfl (Nat.le_of_ble_eq_true rfl) dX2_reduceNormal_15 ?_
  rintro v σ' ⟨rfl, h2⟩; rw [h2]; clear h2
  show hW _ _ _ _ _ _ _ _ _ _ _ _ _ 18 [(0, .ref (ad G 2))] [.long (euc 100 (lAbs (euc 100 (lAbs (gL σ 2 8)) (lAbs (gL σ 2 9)))) (lAbs (gL σ 2 10)))] σ 0 0
  refine h_lstore_n C [(1, .long (euc 100 (lAbs (euc 100 (lAbs (gL σ 2 8)) (lAbs (gL σ 2 9)))) (lAbs (gL σ 2 10)))), (0, .ref (ad G 2))] dX2_reduceNormal_18 rfl (by decide) rfl ?_
  refine h_join (α := Int64) 55 (fun x => x = redL σ) (fun x => [(0, .ref (ad G 2)), (1, .long (redD σ))]) (fun x => [.long x]) (fun x => σ) (fun x => 0) (fun x => 0) ?_ (fun J_1 => ?_)
  · rintro x hJ
    show hW _ _ _ _ _ _ _ _ _ _ _ _ _ 55 [(0, .ref (ad G 2)), (1, .long (redD σ))] [.long x] σ 0 0
    refine h_lstore_n C [(3, .long x), (0, .ref (ad G 2)), (1, .long (redD σ))] dX2_reduceNormal_55 rfl (by decide) rfl ?_
    refine h_join (α := Int64) 65 (fun x => x = redS σ) (fun x => [(0, .ref (ad G 2)), (1, .long x)]) (fun x => []) (fun x => σ) (fun x => 0) (fun x => 0) ?_ (fun J_2 => ?_)
    · rintro x hJ
      show hW _ _ _ _ _ _ _ _ _ _ _ _ _ 65 [(0, .ref (ad G 2)), (1, .long x)] [] σ 0 0
      refine h_lload_n C 1 dX2_reduceNormal_65 rfl rfl ?_
      refine h_lconst C 0 dX2_reduceNormal_66 rfl ?_
      refine h_lcmp C dX2_reduceNormal_67 ?_
      refine h_if_eq C 101 dX2_reduceNormal_68 (by decide) (fun c_68 => ?_) (fun c_68 => ?_)
      · refine h_vret C rfl (Nat.zero_le _) (Nat.zero_le _) dX2_reduceNormal_101 ?_
        refine ⟨rfl, ?_⟩
        unfold redF
        rw [← hJ]
        first
          | rw [if_pos (lg_eq0.mp c_68)]
          | (rw [if_neg (fun q => c_68 (lg_eq0.mpr q))]
             simp [set3, gL_sL])
      · refine h_aload_n C 0 dX2_reduceNormal_71 rfl rfl ?_
        refine h_dup C dX2_reduceNormal_72 rfl ?_
        refine gfX2_37 C (ty_2 hY) dX2_reduceNormal_73 ?_
        refine h_lload_n C 1 dX2_reduceNormal_76 rfl rfl ?_
        refine h_ldiv C dX2_reduceNormal_77 (fun q => c_68 (lg_eq0.mpr q)) ?_
        refine pfX2_37 C (ty_2 hY) dX2_reduceNormal_78 ?_
        refine h_aload_n C 0 dX2_reduceNormal_81 rfl rfl ?_
        refine h_dup C dX2_reduceNormal_82 rfl ?_
        refine gfX2_41 C (ty_2 hY) dX2_reduceNormal_83 ?_
        refine h_lload_n C 1 dX2_reduceNormal_86 rfl rfl ?_
        refine h_ldiv C dX2_reduceNormal_87 (fun q => c_68 (lg_eq0.mpr q)) ?_
        refine pfX2_41 C (ty_2 hY) dX2_reduceNormal_88 ?_
        refine h_aload_n C 0 dX2_reduceNormal_91 rfl rfl ?_
        refine h_dup C dX2_reduceNormal_92 rfl ?_
        refine gfX2_44 C (ty_2 hY) dX2_reduceNormal_93 ?_
        refine h_lload_n C 1 dX2_reduceNormal_96 rfl rfl ?_
        refine h_ldiv C dX2_reduceNormal_97 (fun q => c_68 (lg_eq0.mpr q)) ?_
        refine pfX2_44 C (ty_2 hY) dX2_reduceNormal_98 ?_
        refine h_vret C rfl (Nat.zero_le _) (Nat.zero_le _) dX2_reduceNormal_101 ?_
        refine ⟨rfl, ?_⟩
        unfold redF
        rw [← hJ]
        first
          | rw [if_pos (lg_eq0.mp c_68)]
          | (rw [if_neg (fun q => c_68 (lg_eq0.mpr q))]
             simp [set3, gL_sL])
    · refine h_lload_n C 0 dX2_reduceNormal_56 rfl rfl ?_
      refine h_lconst C 0 dX2_reduceNormal_57 rfl ?_
      refine h_lcmp C dX2_reduceNormal_58 ?_
      refine h_if_ge C 65 dX2_reduceNormal_59 (by decide) (fun c_59 => ?_) (fun c_59 => ?_)
      · refine h_sub [1, 2] rfl ?_
        refine J_2 (redD σ) ?_
        unfold redS
        rw [← hJ]
        first
          | rw [if_pos (Decidable.not_not.mp (fun q => c_59 (lg_ge0.mpr q)))]
          | rw [if_neg (lg_ge0.mp c_59)]
      · refine h_lload_n C 2 dX2_reduceNormal_62 rfl rfl ?_
        refine h_lneg C dX2_reduceNormal_63 ?_
        refine h_lstore_n C [(1, .long (-(redD σ))), (3, .long x), (0, .ref (ad G 2))] dX2_reduceNormal_64 rfl (by decide) rfl ?_
        refine h_sub [2, 0] rfl ?_
        refine J_2 (-(redD σ)) ?_
        unfold redS
        rw [← hJ]
        first
          | rw [if_pos (Decidable.not_not.mp (fun q => c_59 (lg_ge0.mpr q)))]
          | rw [if_neg (lg_ge0.mp c_59)]
  · refine h_aload_n C 1 dX2_reduceNormal_19 rfl rfl ?_
    refine gfX2_44 C (ty_2 hY) dX2_reduceNormal_20 ?_
    refine h_lconst C 0 dX2_reduceNormal_23 rfl ?_
    refine h_lcmp C dX2_reduceNormal_24 ?_
    refine h_if_eq C 35 dX2_reduceNormal_25 (by decide) (fun c_25 => ?_) (fun c_25 => ?_)
    · refine h_aload_n C 1 dX2_reduceNormal_35 rfl rfl ?_
      refine gfX2_37 C (ty_2 hY) dX2_reduceNormal_36 ?_
      refine h_lconst C 0 dX2_reduceNormal_39 rfl ?_
      refine h_lcmp C dX2_reduceNormal_40 ?_
      refine h_if_eq C 51 dX2_reduceNormal_41 (by decide) (fun c_41 => ?_) (fun c_41 => ?_)
      · refine h_aload_n C 1 dX2_reduceNormal_51 rfl rfl ?_
        refine gfX2_41 C (ty_2 hY) dX2_reduceNormal_52 ?_
        refine h_sub [1, 0] rfl ?_
        refine J_1 (gL σ 2 9) ?_
        unfold redL
        first
          | rw [if_neg (fun q => c_25 (lg_eq0.mpr q))]
          | rw [if_pos (lg_eq0.mp c_25), if_neg (fun q => c_41 (lg_eq0.mpr q))]
          | rw [if_pos (lg_eq0.mp c_25), if_pos (lg_eq0.mp c_41)]
      · refine h_aload_n C 1 dX2_reduceNormal_44 rfl rfl ?_
        refine gfX2_37 C (ty_2 hY) dX2_reduceNormal_45 ?_
        refine h_goto C 55 dX2_reduceNormal_48 (by decide) ?_
        refine h_sub [1, 0] rfl ?_
        refine J_1 (gL σ 2 8) ?_
        unfold redL
        first
          | rw [if_neg (fun q => c_25 (lg_eq0.mpr q))]
          | rw [if_pos (lg_eq0.mp c_25), if_neg (fun q => c_41 (lg_eq0.mpr q))]
          | rw [if_pos (lg_eq0.mp c_25), if_pos (lg_eq0.mp c_41)]
    · refine h_aload_n C 1 dX2_reduceNormal_28 rfl rfl ?_
      refine gfX2_44 C (ty_2 hY) dX2_reduceNormal_29 ?_
      refine h_goto C 55 dX2_reduceNormal_32 (by decide) ?_
      refine h_sub [1, 0] rfl ?_
      refine J_1 (gL σ 2 10) ?_
      unfold redL
      first
        | rw [if_neg (fun q => c_25 (lg_eq0.mpr q))]
        | rw [if_pos (lg_eq0.mp c_25), if_neg (fun q => c_41 (lg_eq0.mpr q))]
        | rw [if_pos (lg_eq0.mp c_25), if_pos (lg_eq0.mp c_41)]
def cutAdd (σ : ha_St) (x y z : Int32) : ha_St := sI (sI (sI (sI σ 18 (gI σ 17 3).toNatClampNeg x) 19 (gI σ 17 3).toNatClampNeg y) 20 (gI σ 17 3).toNatClampNeg z) 17 3 (gI σ 17 3 + 1)
def narF (σ : ha_St) (x y : Int64) : ha_St := if 0 < y then sL σ 17 5 (if hFd (-x) y < gL σ 17 5 then hFd (-x) y else gL σ 17 5) else if y < 0 then sL σ 17 4 (if gL σ 17 4 < -hFd x y then -hFd x y else gL σ 17 4) else if 0 < x then sL σ 17 5 (-1) else σ
set_option maxRecDepth 100000 in
set_option maxHeartbeats 4000000 in
theorem m_X3_taken {G : ha_G} {l : Launch} {σ : ha_St} {x y z : Int32} (hY : LY σ) (h0 : 0 ≤ gI σ 17 3) : hM G l yX3_taken cX3_taken 4 (some .boolean) { frames := 0, cells := 0, slots := 0, locals := 0 } [.ref (ad G 17), .int x, .int y, .int z] σ (fun v σ' => (gI σ 17 3 < 16 ∧ v = some (.int 1) ∧ σ' = cutAdd σ x y z) ∨ (¬ gI σ 17 3 < 16 ∧ v = some (.int 0) ∧ σ' = σ)) := by
  refine hM_ofF [(0, .ref (ad G 17)), (1, .int x), (2, .int y), (3, .int z)] (by decide +kernel) (Nat.le_of_ble_eq_true rfl) rfl ?_
  intro p e s m args below meth c0 C hin
  refine h_aload_n C 0 dX3_taken_0 rfl rfl ?_
  refine gfX3_21 C (ty_17 hY) dX3_taken_1 ?_
  refine h_bipush C 16 dX3_taken_4 (by decide) ?_
  refine h_icmp_lt C 11 dX3_taken_6 (by decide) (fun c_6 => ?_) (fun c_6 => ?_)
  · refine h_aload_n C 0 dX3_taken_11 rfl rfl ?_
    refine gfX3_9 C (ty_17 hY) dX3_taken_12 ?_
    refine h_tref (b := 18) (rf_17_0 hY) ?_
    refine h_aload_n C 0 dX3_taken_15 rfl rfl ?_
    refine gfX3_21 C (ty_17 hY) dX3_taken_16 ?_
    refine h_iload_n C 1 dX3_taken_19 rfl rfl ?_
    refine h_iast C _ (ty_18 hY) (vp32 (N := 16) h0 c_6 (by decide)) dX3_taken_20 rfl ?_
    refine h_aload_n C 0 dX3_taken_21 rfl rfl ?_
    refine gfX3_15 C (ty_17 hY) dX3_taken_22 ?_
    refine h_tref (b := 19) (rf_17_1 hY) ?_
    refine h_aload_n C 0 dX3_taken_25 rfl rfl ?_
    refine gfX3_21 C (ty_17 hY) dX3_taken_26 ?_
    refine h_iload_n C 2 dX3_taken_29 rfl rfl ?_
    refine h_iast C _ (ty_19 hY) (vp32 (N := 16) h0 c_6 (by decide)) dX3_taken_30 rfl ?_
    refine h_aload_n C 0 dX3_taken_31 rfl rfl ?_
    refine gfX3_18 C (ty_17 hY) dX3_taken_32 ?_
    refine h_tref (b := 20) (rf_17_2 hY) ?_
    refine h_aload_n C 0 dX3_taken_35 rfl rfl ?_
    refine gfX3_21 C (ty_17 hY) dX3_taken_36 ?_
    refine h_iload_n C 3 dX3_taken_39 rfl rfl ?_
    refine h_iast C _ (ty_20 hY) (vp32 (N := 16) h0 c_6 (by decide)) dX3_taken_40 rfl ?_
    refine h_aload_n C 0 dX3_taken_41 rfl rfl ?_
    refine h_dup C dX3_taken_42 rfl ?_
    refine gfX3_21 C (ty_17 hY) dX3_taken_43 ?_
    refine h_iconst C 1 dX3_taken_46 (by decide) ?_
    refine h_iadd C dX3_taken_47 ?_
    refine pfX3_21 C (ty_17 hY) dX3_taken_48 ?_
    refine h_iconst C 1 dX3_taken_51 (by decide) ?_
    refine h_zret C rfl (by decide) (Nat.zero_le _) (Nat.zero_le _) dX3_taken_52 ?_
    first | exact Or.inr ⟨c_6, rfl, rfl⟩ | (refine Or.inl ⟨c_6, rfl, ?_⟩; simp [cutAdd, gI_sI])
  · refine h_iconst C 0 dX3_taken_9 (by decide) ?_
    refine h_zret C rfl (by decide) (Nat.zero_le _) (Nat.zero_le _) dX3_taken_10 ?_
    first | exact Or.inr ⟨c_6, rfl, rfl⟩ | (refine Or.inl ⟨c_6, rfl, ?_⟩; simp [cutAdd, gI_sI])
set_option maxRecDepth 100000 in
set_option maxHeartbeats 4000000 in
theorem m_X3_narrow {G : ha_G} {l : Launch} {σ : ha_St} {x y : Int64} (hY : LY σ) : hM G l yX3_narrow cX3_narrow 5 none { frames := 1, cells := 0, slots := 0, locals := 25 } [.ref (ad G 17), .long x, .long y] σ (fun v σ' => v = none ∧ σ' = narF σ x y) := by
  refine hM_ofF [(0, .ref (ad G 17)), (1, .long x), (3, .long y)] (by decide +kernel) (Nat.le_of_ble_eq_true rfl) rfl ?_
  intro p e s m args below meth c0 C hin
  refine h_lload_n C 2 dX3_narrow_0 rfl rfl ?_
  refine h_lconst C 0 dX3_narrow_1 rfl ?_
  refine h_lcmp C dX3_narrow_2 ?_
  refine h_if_le C 26 dX3_narrow_3 (by decide) (fun c_3 => ?_) (fun c_3 => ?_)
  · refine h_lload_n C 2 dX3_narrow_26 rfl rfl ?_
    refine h_lconst C 0 dX3_narrow_27 rfl ?_
    refine h_lcmp C dX3_narrow_28 ?_
    refine h_if_ge C 52 dX3_narrow_29 (by decide) (fun c_29 => ?_) (fun c_29 => ?_)
    · refine h_lload_n C 1 dX3_narrow_52 rfl rfl ?_
      refine h_lconst C 0 dX3_narrow_53 rfl ?_
      refine h_lcmp C dX3_narrow_54 ?_
      refine h_if_le C 65 dX3_narrow_55 (by decide) (fun c_55 => ?_) (fun c_55 => ?_)
      · refine h_vret C rfl (Nat.zero_le _) (Nat.zero_le _) dX3_narrow_65 ?_
        refine ⟨rfl, ?_⟩
        unfold narF
        first
          | rw [if_pos (Decidable.not_not.mp (fun q => c_3 (lg_le0.mpr q)))]
          | rw [if_neg (lg_le0.mp c_3), if_pos (Decidable.not_not.mp (fun q => c_29 (lg_ge0.mpr q)))]
          | rw [if_neg (lg_le0.mp c_3), if_neg (lg_ge0.mp c_29), if_pos (Decidable.not_not.mp (fun q => c_55 (lg_le0.mpr q)))]
          | rw [if_neg (lg_le0.mp c_3), if_neg (lg_ge0.mp c_29), if_neg (lg_le0.mp c_55)]
      · refine h_aload_n C 0 dX3_narrow_58 rfl rfl ?_
        refine h_ldc2 C (-1) dX3_narrow_59 cl_X3_59 ?_
        refine pfX3_29 C (ty_17 hY) dX3_narrow_62 ?_
        refine h_vret C rfl (Nat.zero_le _) (Nat.zero_le _) dX3_narrow_65 ?_
        refine ⟨rfl, ?_⟩
        unfold narF
        first
          | rw [if_pos (Decidable.not_not.mp (fun q => c_3 (lg_le0.mpr q)))]
          | rw [if_neg (lg_le0.mp c_3), if_pos (Decidable.not_not.mp (fun q => c_29 (lg_ge0.mpr q)))]
          | rw [if_neg (lg_le0.mp c_3), if_neg (lg_ge0.mp c_29), if_pos (Decidable.not_not.mp (fun q => c_55 (lg_le0.mpr q)))]
          | rw [if_neg (lg_le0.mp c_3), if_neg (lg_ge0.mp c_29), if_neg (lg_le0.mp c_55)]
    · refine h_aload_n C 0 dX3_narrow_32 rfl rfl ?_
      refine h_aload_n C 0 dX3_narrow_33 rfl rfl ?_
      refine gfX3_25 C (ty_17 hY) dX3_narrow_34 ?_
      refine h_lload_n C 1 dX3_narrow_37 rfl rfl ?_
      refine h_lload_n C 2 dX3_narrow_38 rfl rfl ?_
      refine h_callS C (m_J9_floorDiv_f86c9 (by intro q; rw [q] at c_29; exact c_29 (by decide))) caX3_47 ⟨by decide, by decide, by decide, by decide⟩ rfl rfl (Nat.le_of_ble_eq_true rfl) dX3_narrow_39 ?_
      rintro v σ' ⟨rfl, h2⟩; rw [h2]; clear h2
      show hW _ _ _ _ _ _ _ _ _ _ _ _ _ 42 [(0, .ref (ad G 17)), (1, .long x), (3, .long y)] [.long (hFd x y), .long (gL σ 17 4), .ref (ad G 17)] σ 0 0
      refine h_lneg C dX3_narrow_42 ?_
      refine h_callS C m_J9_max_f86c9 caX3_56 ⟨by decide, by decide, by decide, by decide⟩ rfl rfl (Nat.le_of_ble_eq_true rfl) dX3_narrow_43 ?_
      rintro v σ' ⟨rfl, h2⟩; rw [h2]; clear h2
      show hW _ _ _ _ _ _ _ _ _ _ _ _ _ 46 [(0, .ref (ad G 17)), (1, .long x), (3, .long y)] [.long (if (gL σ 17 4) < (-(hFd x y)) then (-(hFd x y)) else (gL σ 17 4)), .ref (ad G 17)] σ 0 0
      refine pfX3_25 C (ty_17 hY) dX3_narrow_46 ?_
      refine h_goto C 65 dX3_narrow_49 (by decide) ?_
      refine h_vret C rfl (Nat.zero_le _) (Nat.zero_le _) dX3_narrow_65 ?_
      refine ⟨rfl, ?_⟩
      unfold narF
      first
        | rw [if_pos (Decidable.not_not.mp (fun q => c_3 (lg_le0.mpr q)))]
        | rw [if_neg (lg_le0.mp c_3), if_pos (Decidable.not_not.mp (fun q => c_29 (lg_ge0.mpr q)))]
        | rw [if_neg (lg_le0.mp c_3), if_neg (lg_ge0.mp c_29), if_pos (Decidable.not_not.mp (fun q => c_55 (lg_le0.mpr q)))]
        | rw [if_neg (lg_le0.mp c_3), if_neg (lg_ge0.mp c_29), if_neg (lg_le0.mp c_55)]
  · refine h_aload_n C 0 dX3_narrow_6 rfl rfl ?_
    refine h_aload_n C 0 dX3_narrow_7 rfl rfl ?_
    refine gfX3_29 C (ty_17 hY) dX3_narrow_8 ?_
    refine h_lload_n C 1 dX3_narrow_11 rfl rfl ?_
    refine h_lneg C dX3_narrow_12 ?_
    refine h_lload_n C 2 dX3_narrow_13 rfl rfl ?_
    refine h_callS C (m_J9_floorDiv_f86c9 (by intro q; rw [q] at c_3; exact c_3 (by decide))) caX3_47 ⟨by decide, by decide, by decide, by decide⟩ rfl rfl (Nat.le_of_ble_eq_true rfl) dX3_narrow_14 ?_
    rintro v σ' ⟨rfl, h2⟩; rw [h2]; clear h2
    show hW _ _ _ _ _ _ _ _ _ _ _ _ _ 17 [(0, .ref (ad G 17)), (1, .long x), (3, .long y)] [.long (hFd (-x) y), .long (gL σ 17 5), .ref (ad G 17)] σ 0 0
    refine h_callS C m_J9_min_f86c9 caX3_53 ⟨by decide, by decide, by decide, by decide⟩ rfl rfl (Nat.le_of_ble_eq_true rfl) dX3_narrow_17 ?_
    rintro v σ' ⟨rfl, h2⟩; rw [h2]; clear h2
    show hW _ _ _ _ _ _ _ _ _ _ _ _ _ 20 [(0, .ref (ad G 17)), (1, .long x), (3, .long y)] [.long (if (hFd (-x) y) < (gL σ 17 5) then (hFd (-x) y) else (gL σ 17 5)), .ref (ad G 17)] σ 0 0
    refine pfX3_29 C (ty_17 hY) dX3_narrow_20 ?_
    refine h_goto C 65 dX3_narrow_23 (by decide) ?_
    refine h_vret C rfl (Nat.zero_le _) (Nat.zero_le _) dX3_narrow_65 ?_
    refine ⟨rfl, ?_⟩
    unfold narF
    first
      | rw [if_pos (Decidable.not_not.mp (fun q => c_3 (lg_le0.mpr q)))]
      | rw [if_neg (lg_le0.mp c_3), if_pos (Decidable.not_not.mp (fun q => c_29 (lg_ge0.mpr q)))]
      | rw [if_neg (lg_le0.mp c_3), if_neg (lg_ge0.mp c_29), if_pos (Decidable.not_not.mp (fun q => c_55 (lg_le0.mpr q)))]
      | rw [if_neg (lg_le0.mp c_3), if_neg (lg_ge0.mp c_29), if_neg (lg_le0.mp c_55)]
