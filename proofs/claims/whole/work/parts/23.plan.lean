def itI (f : Nat → Int32 → Int32) : Nat → Int32 → Int32
  | 0, d => d
  | n + 1, d => f n (itI f n d)
theorem nI_tn {i : Int32} (h : 0 ≤ i) : Int32.ofNat i.toNatClampNeg = i := by
  have h1 := tn_int h
  apply Int32.toInt_inj.mp
  rw [show (Int32.ofNat i.toNatClampNeg).toInt = (i.toNatClampNeg : Int) from nI_toInt (by have := Int32.toInt_lt i; omega)]
  exact h1
def planAdd (σ : ha_St) (x y : Int32) : ha_St := sI (sI (sI (sI σ 27 (gI σ 26 2).toNatClampNeg x) 28 (gI σ 26 2).toNatClampNeg y) 26 2 (gI σ 26 2 + 1)) 26 7 0
/-- step s is done from a side, if it can be -/
def afS (σ : ha_St) (side : Int32) (s : Nat) (d : Int32) : Int32 := if ¬ ((gI σ 27 s >>> (side &&& 31)) &&& 1) = 0 ∧ (gI σ 28 s &&& (d ^^^ (-1))) = 0 then d ||| (1 <<< (Int32.ofNat s &&& 31)) else d
def AFT (σ : ha_St) (d side : Int32) : Int32 := itI (afS σ side) (gI σ 26 2).toNatClampNeg d
def lbS (σ : ha_St) (d : Int32) (s : Nat) (x : Int32) : Int32 := if d < AFT σ d (Int32.ofNat s) ∧ AFT σ d (Int32.ofNat s) < 4096 then (if gI σ 29 (AFT σ d (Int32.ofNat s)).toNatClampNeg < x then gI σ 29 (AFT σ d (Int32.ofNat s)).toNatClampNeg else x) else x
def LB (σ : ha_St) (d : Int32) : Int32 := itI (lbS σ d) 6 13
def onGood (σ : ha_St) (d s : Int32) : Prop := d < AFT σ d s ∧ AFT σ d s < 4096 ∧ gI σ 29 (AFT σ d s).toNatClampNeg = LB σ d
def onP (σ : ha_St) (d r : Int32) : Prop := (0 ≤ r ∧ r < 6 ∧ onGood σ d r ∧ ∀ s : Int32, 0 ≤ s → s < r → ¬ onGood σ d s) ∨ (r = 0 ∧ ∀ s : Int32, 0 ≤ s → s < 6 → ¬ onGood σ d s)
set_option maxRecDepth 100000 in
set_option maxHeartbeats 4000000 in
theorem m_X8_taken {G : ha_G} {l : Launch} {σ : ha_St} {x y : Int32} (hY : LY σ) (h0 : 0 ≤ gI σ 26 2) : hM G l yX8_taken cX8_taken 3 (some .boolean) { frames := 0, cells := 0, slots := 0, locals := 0 } [.ref (ad G 26), .int x, .int y] σ (fun v σ' => (gI σ 26 2 < 12 ∧ v = some (.int 1) ∧ σ' = planAdd σ x y) ∨ (¬ gI σ 26 2 < 12 ∧ v = some (.int 0) ∧ σ' = σ)) := by
  refine hM_ofF [(0, .ref (ad G 26)), (1, .int x), (2, .int y)] (by decide +kernel) (Nat.le_of_ble_eq_true rfl) rfl ?_
  intro p e s m args below meth c0 C hin
  refine h_aload_n C 0 dX8_taken_0 rfl rfl ?_
  refine gfX8_18 C (ty_26 hY) dX8_taken_1 ?_
  refine h_bipush C 12 dX8_taken_4 (by decide) ?_
  refine h_icmp_lt C 11 dX8_taken_6 (by decide) (fun c_6 => ?_) (fun c_6 => ?_)
  · refine h_aload_n C 0 dX8_taken_11 rfl rfl ?_
    refine gfX8_9 C (ty_26 hY) dX8_taken_12 ?_
    refine h_tref (b := 27) (rf_26_0 hY) ?_
    refine h_aload_n C 0 dX8_taken_15 rfl rfl ?_
    refine gfX8_18 C (ty_26 hY) dX8_taken_16 ?_
    refine h_iload_n C 1 dX8_taken_19 rfl rfl ?_
    refine h_iast C _ (ty_27 hY) (vp32 (N := 12) h0 c_6 (by decide)) dX8_taken_20 rfl ?_
    refine h_aload_n C 0 dX8_taken_21 rfl rfl ?_
    refine gfX8_15 C (ty_26 hY) dX8_taken_22 ?_
    refine h_tref (b := 28) (rf_26_1 hY) ?_
    refine h_aload_n C 0 dX8_taken_25 rfl rfl ?_
    refine gfX8_18 C (ty_26 hY) dX8_taken_26 ?_
    refine h_iload_n C 2 dX8_taken_29 rfl rfl ?_
    refine h_iast C _ (ty_28 hY) (vp32 (N := 12) h0 c_6 (by decide)) dX8_taken_30 rfl ?_
    refine h_aload_n C 0 dX8_taken_31 rfl rfl ?_
    refine h_dup C dX8_taken_32 rfl ?_
    refine gfX8_18 C (ty_26 hY) dX8_taken_33 ?_
    refine h_iconst C 1 dX8_taken_36 (by decide) ?_
    refine h_iadd C dX8_taken_37 ?_
    refine pfX8_18 C (ty_26 hY) dX8_taken_38 ?_
    refine h_aload_n C 0 dX8_taken_41 rfl rfl ?_
    refine h_iconst C 0 dX8_taken_42 (by decide) ?_
    refine pfX8_35 C (Or.inl rfl) (ty_26 hY) dX8_taken_43 ?_
    refine h_iconst C 1 dX8_taken_46 (by decide) ?_
    refine h_zret C rfl (by decide) (Nat.zero_le _) (Nat.zero_le _) dX8_taken_47 ?_
    first | exact Or.inr ⟨c_6, rfl, rfl⟩ | (refine Or.inl ⟨c_6, rfl, ?_⟩; simp [planAdd, gI_sI])
  · refine h_iconst C 0 dX8_taken_9 (by decide) ?_
    refine h_zret C rfl (by decide) (Nat.zero_le _) (Nat.zero_le _) dX8_taken_10 ?_
    first | exact Or.inr ⟨c_6, rfl, rfl⟩ | (refine Or.inl ⟨c_6, rfl, ?_⟩; simp [planAdd, gI_sI])
set_option maxRecDepth 100000 in
set_option maxHeartbeats 4000000 in
theorem m_X8_after {G : ha_G} {l : Launch} {σ : ha_St} {d0 side : Int32} (hY : LY σ) (hs0 : 0 ≤ gI σ 26 2) (hs1 : gI σ 26 2 ≤ 12) : hM G l yX8_after cX8_after 5 (some .int) { frames := 0, cells := 0, slots := 0, locals := 0 } [.ref (ad G 26), .int d0, .int side] σ (fun v σ' => v = some (.int (AFT σ d0 side)) ∧ σ' = σ) := by
  refine hM_ofF [(0, .ref (ad G 26)), (1, .int d0), (2, .int side)] (by decide +kernel) (Nat.le_of_ble_eq_true rfl) rfl ?_
  intro p e s m args below meth c0 C hin
  refine h_iload_n C 1 dX8_after_0 rfl rfl ?_
  refine h_istore_n C [(3, .int d0), (0, .ref (ad G 26)), (1, .int d0), (2, .int side)] dX8_after_1 rfl (by decide) rfl ?_
  refine h_iconst C 0 dX8_after_2 (by decide) ?_
  refine h_istore C [(4, .int 0), (3, .int d0), (0, .ref (ad G 26)), (1, .int d0), (2, .int side)] dX8_after_3 (by decide) rfl ?_
  refine h_sub [2, 4, 1, 0] rfl ?_
  refine h_loop (α := Int32 × Int32) (fun (i, d) => 0 ≤ i ∧ i ≤ gI σ 26 2 ∧ d = itI (afS σ side) i.toNatClampNeg d0) (fun (i, d) => tm (gI σ 26 2) i) (fun (i, d) => [(0, .ref (ad G 26)), (2, .int side), (3, .int d), (4, .int i)]) (fun (i, d) => []) (fun (i, d) => σ) (fun (i, d) => 0) (fun (i, d) => 0) ?_ (0, d0) ?_
  · rintro ⟨i, d⟩ hI ih
    show hW _ _ _ _ _ _ _ _ _ _ _ _ _ 5 [(0, .ref (ad G 26)), (2, .int side), (3, .int d), (4, .int i)] [] σ 0 0
    refine h_iload C 3 dX8_after_5 rfl ?_
    refine h_aload_n C 0 dX8_after_7 rfl rfl ?_
    refine gfX8_18 C (ty_26 hY) dX8_after_8 ?_
    refine h_icmp_ge C 62 dX8_after_11 (by decide) (fun c_11 => ?_) (fun c_11 => ?_)
    · refine h_iload_n C 2 dX8_after_62 rfl rfl ?_
      refine h_iret C rfl (Nat.zero_le _) (Nat.zero_le _) dX8_after_63 ?_
      refine ⟨?_, rfl⟩
      have he := eq_end hI.2.1 (Int32.not_lt.mpr c_11)
      rw [hI.2.2, he]
      rfl
    · refine h_iload C 3 dX8_after_14 rfl ?_
      refine h_bipush C 12 dX8_after_16 (by decide) ?_
      refine h_icmp_ge C 62 dX8_after_18 (by decide) (fun c_18 => ?_) (fun c_18 => ?_)
      · exact absurd (Int32.lt_of_lt_of_le (Int32.not_le.mp c_11) hs1) (Int32.not_lt.mpr c_18)
      · refine h_aload_n C 0 dX8_after_21 rfl rfl ?_
        refine gfX8_9 C (ty_26 hY) dX8_after_22 ?_
        refine h_tref (b := 27) (rf_26_0 hY) ?_
        refine h_iload C 3 dX8_after_25 rfl ?_
        refine h_iald C (ty_27 hY) (vp32 (N := 12) hI.1 (Int32.not_le.mp c_18) (by decide)) dX8_after_27 ?_
        refine h_iload_n C 1 dX8_after_28 rfl rfl ?_
        refine h_ishr C dX8_after_29 ?_
        refine h_iconst C 1 dX8_after_30 (by decide) ?_
        refine h_iand C dX8_after_31 ?_
        refine h_if_eq C 56 dX8_after_32 (by decide) (fun c_32 => ?_) (fun c_32 => ?_)
        · refine h_iinc C [(4, .int (i + 1)), (0, .ref (ad G 26)), (2, .int side), (3, .int d)] 3 (i + 1) dX8_after_56 rfl rfl (by decide) rfl ?_
          refine h_goto C 5 dX8_after_59 (by decide) ?_
          refine h_sub [1, 2, 3, 0] rfl ?_
          refine ih ((i + 1), d) ?_ ?_
          · have hlt : i < gI σ 26 2 := Int32.not_le.mp c_11
            refine ⟨(le_succ hI.1 hlt).1, (le_succ hI.1 hlt).2, ?_⟩
            rw [tn_succ hI.1 hlt]
            show _ = afS σ side i.toNatClampNeg (itI (afS σ side) i.toNatClampNeg d0)
            rw [← hI.2.2]
            unfold afS
            rw [nI_tn hI.1]
            rw [if_neg (fun q => q.1 c_32)]
          · exact tm_lt (Int32.not_le.mp c_11)
        · refine h_aload_n C 0 dX8_after_35 rfl rfl ?_
          refine gfX8_15 C (ty_26 hY) dX8_after_36 ?_
          refine h_tref (b := 28) (rf_26_1 hY) ?_
          refine h_iload C 3 dX8_after_39 rfl ?_
          refine h_iald C (ty_28 hY) (vp32 (N := 12) hI.1 (Int32.not_le.mp c_18) (by decide)) dX8_after_41 ?_
          refine h_iload_n C 2 dX8_after_42 rfl rfl ?_
          refine h_iconst C (-1) dX8_after_43 (by decide) ?_
          refine h_ixor C dX8_after_44 ?_
          refine h_iand C dX8_after_45 ?_
          refine h_if_ne C 56 dX8_after_46 (by decide) (fun c_46 => ?_) (fun c_46 => ?_)
          · refine h_iinc C [(4, .int (i + 1)), (0, .ref (ad G 26)), (2, .int side), (3, .int d)] 3 (i + 1) dX8_after_56 rfl rfl (by decide) rfl ?_
            refine h_goto C 5 dX8_after_59 (by decide) ?_
            refine h_sub [1, 2, 3, 0] rfl ?_
            refine ih ((i + 1), d) ?_ ?_
            · have hlt : i < gI σ 26 2 := Int32.not_le.mp c_11
              refine ⟨(le_succ hI.1 hlt).1, (le_succ hI.1 hlt).2, ?_⟩
              rw [tn_succ hI.1 hlt]
              show _ = afS σ side i.toNatClampNeg (itI (afS σ side) i.toNatClampNeg d0)
              rw [← hI.2.2]
              unfold afS
              rw [nI_tn hI.1]
              rw [if_neg (fun q => c_46 q.2)]
            · exact tm_lt (Int32.not_le.mp c_11)
          · refine h_iload_n C 2 dX8_after_49 rfl rfl ?_
            refine h_iconst C 1 dX8_after_50 (by decide) ?_
            refine h_iload C 3 dX8_after_51 rfl ?_
            refine h_ishl C dX8_after_53 ?_
            refine h_ior C dX8_after_54 ?_
            refine h_istore_n C [(3, .int (d ||| (1 <<< (i &&& 31)))), (0, .ref (ad G 26)), (2, .int side), (4, .int i)] dX8_after_55 rfl (by decide) rfl ?_
            refine h_iinc C [(4, .int (i + 1)), (3, .int (d ||| (1 <<< (i &&& 31)))), (0, .ref (ad G 26)), (2, .int side)] 3 (i + 1) dX8_after_56 rfl rfl (by decide) rfl ?_
            refine h_goto C 5 dX8_after_59 (by decide) ?_
            refine h_sub [2, 3, 1, 0] rfl ?_
            refine ih ((i + 1), (d ||| (1 <<< (i &&& 31)))) ?_ ?_
            · have hlt : i < gI σ 26 2 := Int32.not_le.mp c_11
              refine ⟨(le_succ hI.1 hlt).1, (le_succ hI.1 hlt).2, ?_⟩
              rw [tn_succ hI.1 hlt]
              show _ = afS σ side i.toNatClampNeg (itI (afS σ side) i.toNatClampNeg d0)
              rw [← hI.2.2]
              unfold afS
              rw [nI_tn hI.1]
              rw [if_pos ⟨c_32, c_46⟩]
            · exact tm_lt (Int32.not_le.mp c_11)
  · exact ⟨by decide, hs0, by rw [tn_0]; rfl⟩
set_option maxRecDepth 100000 in
set_option maxHeartbeats 4000000 in
theorem m_X8_leastBehind {G : ha_G} {l : Launch} {σ : ha_St} {d : Int32} (hY : LY σ) (hs0 : 0 ≤ gI σ 26 2) (hs1 : gI σ 26 2 ≤ 12) (hd : 0 ≤ d) : hM G l yX8_leastBehind cX8_leastBehind 5 (some .int) { frames := 1, cells := 0, slots := 0, locals := 24 } [.ref (ad G 26), .int d] σ (fun v σ' => v = some (.int (LB σ d)) ∧ σ' = σ) := by
  refine hM_ofF [(0, .ref (ad G 26)), (1, .int d)] (by decide +kernel) (Nat.le_of_ble_eq_true rfl) rfl ?_
  intro p e s m args below meth c0 C hin
  refine h_bipush C 13 dX8_leastBehind_0 (by decide) ?_
  refine h_istore_n C [(2, .int 13), (0, .ref (ad G 26)), (1, .int d)] dX8_leastBehind_2 rfl (by decide) rfl ?_
  refine h_iconst C 0 dX8_leastBehind_3 (by decide) ?_
  refine h_istore_n C [(3, .int 0), (2, .int 13), (0, .ref (ad G 26)), (1, .int d)] dX8_leastBehind_4 rfl (by decide) rfl ?_
  refine h_sub [2, 3, 1, 0] rfl ?_
  refine h_loop (α := Int32 × Int32) (fun (i, x) => 0 ≤ i ∧ i ≤ 6 ∧ x = itI (lbS σ d) i.toNatClampNeg 13) (fun (i, x) => tm 6 i) (fun (i, x) => [(0, .ref (ad G 26)), (1, .int d), (2, .int x), (3, .int i)]) (fun (i, x) => []) (fun (i, x) => σ) (fun (i, x) => 0) (fun (i, x) => 0) ?_ (0, 13) ?_
  · rintro ⟨i, x⟩ hI ih
    show hW _ _ _ _ _ _ _ _ _ _ _ _ _ 5 [(0, .ref (ad G 26)), (1, .int d), (2, .int x), (3, .int i)] [] σ 0 0
    refine h_iload_n C 3 dX8_leastBehind_5 rfl rfl ?_
    refine h_bipush C 6 dX8_leastBehind_6 (by decide) ?_
    refine h_icmp_ge C 53 dX8_leastBehind_8 (by decide) (fun c_8 => ?_) (fun c_8 => ?_)
    · refine h_iload_n C 2 dX8_leastBehind_53 rfl rfl ?_
      refine h_iret C rfl (Nat.zero_le _) (Nat.zero_le _) dX8_leastBehind_54 ?_
      refine ⟨?_, rfl⟩
      have he := eq_end hI.2.1 (Int32.not_lt.mpr c_8)
      rw [hI.2.2, he]
      rfl
    · refine h_aload_n C 0 dX8_leastBehind_11 rfl rfl ?_
      refine h_iload_n C 1 dX8_leastBehind_12 rfl rfl ?_
      refine h_iload_n C 3 dX8_leastBehind_13 rfl rfl ?_
      refine h_callV C (m_X8_after hY hs0 hs1) caX8_39 kX8 (ty_26 hY) ⟨by decide, by decide, by decide, by decide⟩ rfl rfl (Nat.le_of_ble_eq_true rfl) dX8_leastBehind_14 ?_
      rintro v σ' ⟨rfl, h2⟩; rw [h2]; clear h2
      show hW _ _ _ _ _ _ _ _ _ _ _ _ _ 17 [(0, .ref (ad G 26)), (1, .int d), (2, .int x), (3, .int i)] [.int (AFT σ d i)] σ 0 0
      refine h_istore C [(4, .int (AFT σ d i)), (0, .ref (ad G 26)), (1, .int d), (2, .int x), (3, .int i)] dX8_leastBehind_17 (by decide) rfl ?_
      refine h_iload C 0 dX8_leastBehind_19 rfl ?_
      refine h_iload_n C 2 dX8_leastBehind_21 rfl rfl ?_
      refine h_icmp_le C 47 dX8_leastBehind_22 (by decide) (fun c_22 => ?_) (fun c_22 => ?_)
      · refine h_iinc C [(3, .int (i + 1)), (4, .int (AFT σ d i)), (0, .ref (ad G 26)), (1, .int d), (2, .int x)] 4 (i + 1) dX8_leastBehind_47 rfl rfl (by decide) rfl ?_
        refine h_goto C 5 dX8_leastBehind_50 (by decide) ?_
        refine h_sub [2, 3, 4, 0] rfl ?_
        refine ih ((i + 1), x) ?_ ?_
        · have hlt : i < 6 := Int32.not_le.mp c_8
          refine ⟨(le_succ hI.1 hlt).1, (le_succ hI.1 hlt).2, ?_⟩
          rw [tn_succ hI.1 hlt]
          show _ = lbS σ d i.toNatClampNeg (itI (lbS σ d) i.toNatClampNeg 13)
          rw [← hI.2.2]
          unfold lbS
          rw [nI_tn hI.1]
          rw [if_neg (fun q => absurd q.1 (Int32.not_lt.mpr c_22))]
        · exact tm_lt (Int32.not_le.mp c_8)
      · refine h_iload C 0 dX8_leastBehind_25 rfl ?_
        refine h_aload_n C 1 dX8_leastBehind_27 rfl rfl ?_
        refine gfX8_22 C (ty_26 hY) dX8_leastBehind_28 ?_
        refine h_tref (b := 29) (rf_26_3 hY) ?_
        refine h_alen C (ty_29 hY) (by decide) dX8_leastBehind_31 ?_
        refine h_icmp_ge C 47 dX8_leastBehind_32 (by decide) (fun c_32 => ?_) (fun c_32 => ?_)
        · refine h_iinc C [(3, .int (i + 1)), (4, .int (AFT σ d i)), (0, .ref (ad G 26)), (1, .int d), (2, .int x)] 4 (i + 1) dX8_leastBehind_47 rfl rfl (by decide) rfl ?_
          refine h_goto C 5 dX8_leastBehind_50 (by decide) ?_
          refine h_sub [2, 3, 4, 0] rfl ?_
          refine ih ((i + 1), x) ?_ ?_
          · have hlt : i < 6 := Int32.not_le.mp c_8
            refine ⟨(le_succ hI.1 hlt).1, (le_succ hI.1 hlt).2, ?_⟩
            rw [tn_succ hI.1 hlt]
            show _ = lbS σ d i.toNatClampNeg (itI (lbS σ d) i.toNatClampNeg 13)
            rw [← hI.2.2]
            unfold lbS
            rw [nI_tn hI.1]
            rw [if_neg (fun q => absurd q.2 (Int32.not_lt.mpr c_32))]
          · exact tm_lt (Int32.not_le.mp c_8)
        · refine h_iload_n C 3 dX8_leastBehind_35 rfl rfl ?_
          refine h_aload_n C 1 dX8_leastBehind_36 rfl rfl ?_
          refine gfX8_22 C (ty_26 hY) dX8_leastBehind_37 ?_
          refine h_tref (b := 29) (rf_26_3 hY) ?_
          refine h_iload C 0 dX8_leastBehind_40 rfl ?_
          refine h_bald C (ty_29 hY) (vp32 (N := 4096) (Int32.le_of_lt (Int32.lt_of_le_of_lt hd (Int32.not_le.mp c_22))) (Int32.not_le.mp c_32) (by decide)) dX8_leastBehind_42 ?_
          refine h_callS C m_J9_min_7cf53 caX8_53 ⟨by decide, by decide, by decide, by decide⟩ rfl rfl (Nat.le_of_ble_eq_true rfl) dX8_leastBehind_43 ?_
          rintro v σ' ⟨rfl, h2⟩; rw [h2]; clear h2
          show hW _ _ _ _ _ _ _ _ _ _ _ _ _ 46 [(4, .int (AFT σ d i)), (0, .ref (ad G 26)), (1, .int d), (2, .int x), (3, .int i)] [.int (if (gI σ 29 (AFT σ d i).toNatClampNeg) < x then (gI σ 29 (AFT σ d i).toNatClampNeg) else x)] σ 0 0
          refine h_istore_n C [(2, .int (if (gI σ 29 (AFT σ d i).toNatClampNeg) < x then (gI σ 29 (AFT σ d i).toNatClampNeg) else x)), (4, .int (AFT σ d i)), (0, .ref (ad G 26)), (1, .int d), (3, .int i)] dX8_leastBehind_46 rfl (by decide) rfl ?_
          refine h_iinc C [(3, .int (i + 1)), (2, .int (if (gI σ 29 (AFT σ d i).toNatClampNeg) < x then (gI σ 29 (AFT σ d i).toNatClampNeg) else x)), (4, .int (AFT σ d i)), (0, .ref (ad G 26)), (1, .int d)] 4 (i + 1) dX8_leastBehind_47 rfl rfl (by decide) rfl ?_
          refine h_goto C 5 dX8_leastBehind_50 (by decide) ?_
          refine h_sub [3, 4, 1, 0] rfl ?_
          refine ih ((i + 1), (if (gI σ 29 (AFT σ d i).toNatClampNeg) < x then (gI σ 29 (AFT σ d i).toNatClampNeg) else x)) ?_ ?_
          · have hlt : i < 6 := Int32.not_le.mp c_8
            refine ⟨(le_succ hI.1 hlt).1, (le_succ hI.1 hlt).2, ?_⟩
            rw [tn_succ hI.1 hlt]
            show _ = lbS σ d i.toNatClampNeg (itI (lbS σ d) i.toNatClampNeg 13)
            rw [← hI.2.2]
            unfold lbS
            rw [nI_tn hI.1]
            exact (if_pos (show d < AFT σ d i ∧ AFT σ d i < 4096 from ⟨Int32.not_le.mp c_22, Int32.not_le.mp c_32⟩)).symm
          · exact tm_lt (Int32.not_le.mp c_8)
  · exact ⟨by decide, by decide, by rw [tn_0]; rfl⟩
set_option maxRecDepth 100000 in
set_option maxHeartbeats 4000000 in
theorem m_X8_firstSideOnward {G : ha_G} {l : Launch} {σ : ha_St} {d : Int32} (hY : LY σ) (hs0 : 0 ≤ gI σ 26 2) (hs1 : gI σ 26 2 ≤ 12) (hd : 0 ≤ d) : hM G l yX8_firstSideOnward cX8_firstSideOnward 5 (some .int) { frames := 2, cells := 0, slots := 0, locals := 48 } [.ref (ad G 26), .int d] σ (fun v σ' => (∃ r, v = some (.int r) ∧ onP σ d r) ∧ σ' = σ) := by
  refine hM_ofF [(0, .ref (ad G 26)), (1, .int d)] (by decide +kernel) (Nat.le_of_ble_eq_true rfl) rfl ?_
  intro p e s m args below meth c0 C hin
  refine h_aload_n C 0 dX8_firstSideOnward_0 rfl rfl ?_
  refine h_iload_n C 1 dX8_firstSideOnward_1 rfl rfl ?_
  refine h_callV C (m_X8_leastBehind hY hs0 hs1 hd) caX8_58 kX8 (ty_26 hY) ⟨by decide, by decide, by decide, by decide⟩ rfl rfl (Nat.le_of_ble_eq_true rfl) dX8_firstSideOnward_2 ?_
  rintro v σ' ⟨rfl, h2⟩; rw [h2]; clear h2
  show hW _ _ _ _ _ _ _ _ _ _ _ _ _ 5 [(0, .ref (ad G 26)), (1, .int d)] [.int (LB σ d)] σ 0 0
  refine h_istore_n C [(2, .int (LB σ d)), (0, .ref (ad G 26)), (1, .int d)] dX8_firstSideOnward_5 rfl (by decide) rfl ?_
  refine h_iconst C 0 dX8_firstSideOnward_6 (by decide) ?_
  refine h_istore_n C [(3, .int 0), (2, .int (LB σ d)), (0, .ref (ad G 26)), (1, .int d)] dX8_firstSideOnward_7 rfl (by decide) rfl ?_
  refine h_sub [2, 3, 1, 0] rfl ?_
  refine h_loop (α := Int32) (fun i => 0 ≤ i ∧ i ≤ 6 ∧ ∀ s : Int32, 0 ≤ s → s < i → ¬ onGood σ d s) (fun i => tm 6 i) (fun i => [(0, .ref (ad G 26)), (1, .int d), (2, .int (LB σ d)), (3, .int i)]) (fun i => []) (fun i => σ) (fun i => 0) (fun i => 0) ?_ 0 ?_
  · rintro i hI ih
    show hW _ _ _ _ _ _ _ _ _ _ _ _ _ 8 [(0, .ref (ad G 26)), (1, .int d), (2, .int (LB σ d)), (3, .int i)] [] σ 0 0
    refine h_iload_n C 3 dX8_firstSideOnward_8 rfl rfl ?_
    refine h_bipush C 6 dX8_firstSideOnward_9 (by decide) ?_
    refine h_icmp_ge C 57 dX8_firstSideOnward_11 (by decide) (fun c_11 => ?_) (fun c_11 => ?_)
    · refine h_iconst C 0 dX8_firstSideOnward_57 (by decide) ?_
      refine h_iret C rfl (Nat.zero_le _) (Nat.zero_le _) dX8_firstSideOnward_58 ?_
      have he := eq_end hI.2.1 (Int32.not_lt.mpr c_11)
      rw [he] at hI
      exact ⟨⟨_, rfl, Or.inr ⟨rfl, hI.2.2⟩⟩, rfl⟩
    · refine h_aload_n C 0 dX8_firstSideOnward_14 rfl rfl ?_
      refine h_iload_n C 1 dX8_firstSideOnward_15 rfl rfl ?_
      refine h_iload_n C 3 dX8_firstSideOnward_16 rfl rfl ?_
      refine h_callV C (m_X8_after hY hs0 hs1) caX8_39 kX8 (ty_26 hY) ⟨by decide, by decide, by decide, by decide⟩ rfl rfl (Nat.le_of_ble_eq_true rfl) dX8_firstSideOnward_17 ?_
      rintro v σ' ⟨rfl, h2⟩; rw [h2]; clear h2
      show hW _ _ _ _ _ _ _ _ _ _ _ _ _ 20 [(0, .ref (ad G 26)), (1, .int d), (2, .int (LB σ d)), (3, .int i)] [.int (AFT σ d i)] σ 0 0
      refine h_istore C [(4, .int (AFT σ d i)), (0, .ref (ad G 26)), (1, .int d), (2, .int (LB σ d)), (3, .int i)] dX8_firstSideOnward_20 (by decide) rfl ?_
      refine h_iload C 0 dX8_firstSideOnward_22 rfl ?_
      refine h_iload_n C 2 dX8_firstSideOnward_24 rfl rfl ?_
      refine h_icmp_le C 51 dX8_firstSideOnward_25 (by decide) (fun c_25 => ?_) (fun c_25 => ?_)
      · refine h_iinc C [(3, .int (i + 1)), (4, .int (AFT σ d i)), (0, .ref (ad G 26)), (1, .int d), (2, .int (LB σ d))] 4 (i + 1) dX8_firstSideOnward_51 rfl rfl (by decide) rfl ?_
        refine h_goto C 8 dX8_firstSideOnward_54 (by decide) ?_
        refine h_sub [2, 3, 4, 0] rfl ?_
        refine ih (i + 1) ?_ ?_
        · have hlt : i < 6 := Int32.not_le.mp c_11
          refine ⟨(le_succ hI.1 hlt).1, (le_succ hI.1 hlt).2, fun s h1 h2 q => ?_⟩
          by_cases hs : s = i
          · subst hs
            obtain ⟨q1, q2, q3⟩ := q
            first
              | exact absurd q1 (Int32.not_lt.mpr c_25)
              | exact absurd q2 (Int32.not_lt.mpr c_35)
              | exact c_46 q3
          · exact hI.2.2 s h1 (by clear C; grind) q
        · exact tm_lt (Int32.not_le.mp c_11)
      · refine h_iload C 0 dX8_firstSideOnward_28 rfl ?_
        refine h_aload_n C 1 dX8_firstSideOnward_30 rfl rfl ?_
        refine gfX8_22 C (ty_26 hY) dX8_firstSideOnward_31 ?_
        refine h_tref (b := 29) (rf_26_3 hY) ?_
        refine h_alen C (ty_29 hY) (by decide) dX8_firstSideOnward_34 ?_
        refine h_icmp_ge C 51 dX8_firstSideOnward_35 (by decide) (fun c_35 => ?_) (fun c_35 => ?_)
        · refine h_iinc C [(3, .int (i + 1)), (4, .int (AFT σ d i)), (0, .ref (ad G 26)), (1, .int d), (2, .int (LB σ d))] 4 (i + 1) dX8_firstSideOnward_51 rfl rfl (by decide) rfl ?_
          refine h_goto C 8 dX8_firstSideOnward_54 (by decide) ?_
          refine h_sub [2, 3, 4, 0] rfl ?_
          refine ih (i + 1) ?_ ?_
          · have hlt : i < 6 := Int32.not_le.mp c_11
            refine ⟨(le_succ hI.1 hlt).1, (le_succ hI.1 hlt).2, fun s h1 h2 q => ?_⟩
            by_cases hs : s = i
            · subst hs
              obtain ⟨q1, q2, q3⟩ := q
              first
                | exact absurd q1 (Int32.not_lt.mpr c_25)
                | exact absurd q2 (Int32.not_lt.mpr c_35)
                | exact c_46 q3
            · exact hI.2.2 s h1 (by clear C; grind) q
          · exact tm_lt (Int32.not_le.mp c_11)
        · refine h_aload_n C 1 dX8_firstSideOnward_38 rfl rfl ?_
          refine gfX8_22 C (ty_26 hY) dX8_firstSideOnward_39 ?_
          refine h_tref (b := 29) (rf_26_3 hY) ?_
          refine h_iload C 0 dX8_firstSideOnward_42 rfl ?_
          refine h_bald C (ty_29 hY) (vp32 (N := 4096) (Int32.le_of_lt (Int32.lt_of_le_of_lt hd (Int32.not_le.mp c_25))) (Int32.not_le.mp c_35) (by decide)) dX8_firstSideOnward_44 ?_
          refine h_iload_n C 3 dX8_firstSideOnward_45 rfl rfl ?_
          refine h_icmp_ne C 51 dX8_firstSideOnward_46 (by decide) (fun c_46 => ?_) (fun c_46 => ?_)
          · refine h_iinc C [(3, .int (i + 1)), (4, .int (AFT σ d i)), (0, .ref (ad G 26)), (1, .int d), (2, .int (LB σ d))] 4 (i + 1) dX8_firstSideOnward_51 rfl rfl (by decide) rfl ?_
            refine h_goto C 8 dX8_firstSideOnward_54 (by decide) ?_
            refine h_sub [2, 3, 4, 0] rfl ?_
            refine ih (i + 1) ?_ ?_
            · have hlt : i < 6 := Int32.not_le.mp c_11
              refine ⟨(le_succ hI.1 hlt).1, (le_succ hI.1 hlt).2, fun s h1 h2 q => ?_⟩
              by_cases hs : s = i
              · subst hs
                obtain ⟨q1, q2, q3⟩ := q
                first
                  | exact absurd q1 (Int32.not_lt.mpr c_25)
                  | exact absurd q2 (Int32.not_lt.mpr c_35)
                  | exact c_46 q3
              · exact hI.2.2 s h1 (by clear C; grind) q
            · exact tm_lt (Int32.not_le.mp c_11)
          · refine h_iload_n C 4 dX8_firstSideOnward_49 rfl rfl ?_
            refine h_iret C rfl (Nat.zero_le _) (Nat.zero_le _) dX8_firstSideOnward_50 ?_
            exact ⟨⟨_, rfl, Or.inl ⟨hI.1, Int32.not_le.mp c_11, ⟨Int32.not_le.mp c_25, Int32.not_le.mp c_35, c_46⟩, hI.2.2⟩⟩, rfl⟩
  · exact ⟨by decide, by decide, fun s h1 h2 => absurd h2 (Int32.not_lt.mpr h1)⟩
/-- what only the table of the plan changes -/
def frT (σ σ' : ha_St) : Prop := gT σ' = gT σ ∧ gR σ' = gR σ ∧ gn σ' = gn σ ∧ gL σ' = gL σ ∧ ∀ a, a ≠ 29 → gI σ' a = gI σ a
theorem frT.rf {σ : ha_St} : frT σ σ := ⟨rfl, rfl, rfl, rfl, fun _ _ => rfl⟩
theorem frT.tr {σ σ1 σ2 : ha_St} (h : frT σ σ1) (g : frT σ1 σ2) : frT σ σ2 := ⟨g.1.trans h.1, g.2.1.trans h.2.1, g.2.2.1.trans h.2.2.1, g.2.2.2.1.trans h.2.2.2.1, fun a ha => (g.2.2.2.2 a ha).trans (h.2.2.2.2 a ha)⟩
theorem frT_s {σ : ha_St} {j : Nat} {v : Int32} : frT σ (sI σ 29 j v) := ⟨rfl, rfl, rfl, rfl, fun a ha => funext fun x => by rw [gI_sI, if_neg (fun q => ha q.1)]⟩
theorem frT.LY {σ σ' : ha_St} (h : frT σ σ') (hY : LY σ) : LY σ' := hY.same h.1 h.2.1 h.2.2.1
theorem frT.A {σ σ' : ha_St} (h : frT σ σ') {d s : Int32} : AFT σ' d s = AFT σ d s := by
  have e : afS σ' s = afS σ s := by
    funext k d
    unfold afS
    rw [h.2.2.2.2 27 (by decide), h.2.2.2.2 28 (by decide)]
  unfold AFT
  rw [e, h.2.2.2.2 26 (by decide)]
def mrZ (k : Nat) (s : ha_St) : ha_St := sI s 29 k 0
def mrS (d : Nat) (k : Nat) (s : ha_St) : ha_St := if 0 ≤ AFT s (Int32.ofNat d) (Int32.ofNat k) ∧ AFT s (Int32.ofNat d) (Int32.ofNat k) < 4096 then sI s 29 (AFT s (Int32.ofNat d) (Int32.ofNat k)).toNatClampNeg 1 else s
def mrD (d : Nat) (s : ha_St) : ha_St := if gI s 29 d = 0 then s else itF (mrS d) 6 s
def markF (σ : ha_St) (al : Int32) : ha_St := itF mrD al.toNatClampNeg (sI (itF mrZ (al.toNatClampNeg + 1) σ) 29 0 1)
set_option maxRecDepth 100000 in
set_option maxHeartbeats 4000000 in
theorem m_X8_markReached {G : ha_G} {l : Launch} {σ : ha_St} {al : Int32} (hY : LY σ) (hs0 : 0 ≤ gI σ 26 2) (hs1 : gI σ 26 2 ≤ 12) (ha0 : 0 ≤ al) (ha1 : al < 4096) : hM G l yX8_markReached cX8_markReached 5 none { frames := 1, cells := 0, slots := 0, locals := 24 } [.ref (ad G 26), .int al] σ (fun v σ' => v = none ∧ σ' = markF σ al ∧ frT σ σ') := by
  have hY0 := hY
  have hs00 := hs0
  have hs10 := hs1
  refine hM_ofF [(0, .ref (ad G 26)), (1, .int al)] (by decide +kernel) (Nat.le_of_ble_eq_true rfl) rfl ?_
  intro p e s m args below meth c0 C hin
  refine h_iconst C 0 dX8_markReached_0 (by decide) ?_
  refine h_istore_n C [(2, .int 0), (0, .ref (ad G 26)), (1, .int al)] dX8_markReached_1 rfl (by decide) rfl ?_
  refine h_sub [1, 2, 0] rfl ?_
  refine h_loop (α := Int32 × ha_St) (fun (i, σ1) => 0 ≤ i ∧ i ≤ al + 1 ∧ σ1 = itF mrZ i.toNatClampNeg σ ∧ frT σ σ1) (fun (i, σ1) => tm (al + 1) i) (fun (i, σ1) => [(0, .ref (ad G 26)), (1, .int al), (2, .int i)]) (fun (i, σ1) => []) (fun (i, σ1) => σ1) (fun (i, σ1) => 0) (fun (i, σ1) => 0) ?_ (0, σ) ?_
  · rintro ⟨i, σ1⟩ hI ih
    show hW _ _ _ _ _ _ _ _ _ _ _ _ _ 2 [(0, .ref (ad G 26)), (1, .int al), (2, .int i)] [] σ1 0 0
    have hY : LY σ1 := hI.2.2.2.LY hY0
    refine h_iload_n C 2 dX8_markReached_2 rfl rfl ?_
    refine h_iload_n C 1 dX8_markReached_3 rfl rfl ?_
    refine h_icmp_gt C 29 dX8_markReached_4 (by decide) (fun c_4 => ?_) (fun c_4 => ?_)
    · refine h_aload_n C 0 dX8_markReached_29 rfl rfl ?_
      refine gfX8_22 C (ty_26 hY) dX8_markReached_30 ?_
      refine h_tref (b := 29) (rf_26_3 hY) ?_
      refine h_iconst C 0 dX8_markReached_33 (by decide) ?_
      refine h_iconst C 1 dX8_markReached_34 (by decide) ?_
      refine h_bast C _ (ty_29 hY) (vp32 (N := 4096) (by decide) (by decide) (by decide)) dX8_markReached_35 rfl ?_
      refine h_iconst C 0 dX8_markReached_36 (by decide) ?_
      refine h_istore_n C [(2, .int 0), (0, .ref (ad G 26)), (1, .int al)] dX8_markReached_37 rfl (by decide) rfl ?_
      refine h_sub [1, 2, 0] rfl ?_
      refine h_loop (α := Int32 × ha_St) (fun (i, σ2) => 0 ≤ i ∧ i ≤ al ∧ σ2 = itF mrD i.toNatClampNeg (sI (itF mrZ (al.toNatClampNeg + 1) σ) 29 0 1) ∧ frT σ σ2) (fun (i, σ2) => tm al i) (fun (i, σ2) => [(0, .ref (ad G 26)), (1, .int al), (2, .int i)]) (fun (i, σ2) => []) (fun (i, σ2) => σ2) (fun (i, σ2) => 0) (fun (i, σ2) => 0) ?_ (0, (sI σ1 29 (Int32.toNatClampNeg 0) (Int32.toInt8 1).toInt32)) ?_
      · rintro ⟨i, σ2⟩ hI ih
        show hW _ _ _ _ _ _ _ _ _ _ _ _ _ 38 [(0, .ref (ad G 26)), (1, .int al), (2, .int i)] [] σ2 0 0
        have hO := hI
        have ihO := ih
        have hY : LY σ2 := hI.2.2.2.LY hY0
        refine h_iload_n C 2 dX8_markReached_38 rfl rfl ?_
        refine h_iload_n C 1 dX8_markReached_39 rfl rfl ?_
        refine h_icmp_ge C 115 dX8_markReached_40 (by decide) (fun c_40 => ?_) (fun c_40 => ?_)
        · refine h_vret C rfl (Nat.zero_le _) (Nat.zero_le _) dX8_markReached_115 ?_
          have he := eq_end hI.2.1 (Int32.not_lt.mpr c_40)
          refine ⟨rfl, ?_, hI.2.2.2⟩
          rw [hI.2.2.1, he]
          rfl
        · have hlt : i < al := Int32.not_le.mp c_40
          refine h_iload_n C 2 dX8_markReached_43 rfl rfl ?_
          refine h_aload_n C 0 dX8_markReached_44 rfl rfl ?_
          refine gfX8_22 C (ty_26 hY) dX8_markReached_45 ?_
          refine h_tref (b := 29) (rf_26_3 hY) ?_
          refine h_alen C (ty_29 hY) (by decide) dX8_markReached_48 ?_
          refine h_icmp_ge C 115 dX8_markReached_49 (by decide) (fun c_49 => ?_) (fun c_49 => ?_)
          · exact absurd (Int32.lt_of_lt_of_le hlt (Int32.le_of_lt ha1)) (Int32.not_lt.mpr c_49)
          · refine h_aload_n C 0 dX8_markReached_52 rfl rfl ?_
            refine gfX8_22 C (ty_26 hY) dX8_markReached_53 ?_
            refine h_tref (b := 29) (rf_26_3 hY) ?_
            refine h_iload_n C 2 dX8_markReached_56 rfl rfl ?_
            refine h_bald C (ty_29 hY) (vp32 (N := 4096) hO.1 (Int32.lt_of_lt_of_le (Int32.not_le.mp c_40) (Int32.le_of_lt ha1)) (by decide)) dX8_markReached_57 ?_
            refine h_if_ne C 64 dX8_markReached_58 (by decide) (fun c_58 => ?_) (fun c_58 => ?_)
            · refine h_iconst C 0 dX8_markReached_64 (by decide) ?_
              refine h_istore_n C [(3, .int 0), (0, .ref (ad G 26)), (1, .int al), (2, .int i)] dX8_markReached_65 rfl (by decide) rfl ?_
              refine h_sub [1, 2, 3, 0] rfl ?_
              refine h_loop (α := Int32 × ha_St) (fun (j, σ3) => 0 ≤ j ∧ j ≤ 6 ∧ σ3 = itF (mrS i.toNatClampNeg) j.toNatClampNeg σ2 ∧ frT σ σ3) (fun (j, σ3) => tm 6 j) (fun (j, σ3) => [(0, .ref (ad G 26)), (1, .int al), (2, .int i), (3, .int j)]) (fun (j, σ3) => []) (fun (j, σ3) => σ3) (fun (j, σ3) => 0) (fun (j, σ3) => 0) ?_ (0, σ2) ?_
              · rintro ⟨j, σ3⟩ hI ih
                show hW _ _ _ _ _ _ _ _ _ _ _ _ _ 66 [(0, .ref (ad G 26)), (1, .int al), (2, .int i), (3, .int j)] [] σ3 0 0
                have hY : LY σ3 := hI.2.2.2.LY hY0
                have hs0 : 0 ≤ gI σ3 26 2 := by rw [hI.2.2.2.2.2.2.2 26 (by decide)]; exact hs00
                have hs1 : gI σ3 26 2 ≤ 12 := by rw [hI.2.2.2.2.2.2.2 26 (by decide)]; exact hs10
                refine h_iload_n C 3 dX8_markReached_66 rfl rfl ?_
                refine h_bipush C 6 dX8_markReached_67 (by decide) ?_
                refine h_icmp_ge C 109 dX8_markReached_69 (by decide) (fun c_69 => ?_) (fun c_69 => ?_)
                · refine h_iinc C [(2, .int (i + 1)), (0, .ref (ad G 26)), (1, .int al), (3, .int j)] 2 (i + 1) dX8_markReached_109 rfl rfl (by decide) rfl ?_
                  refine h_goto C 38 dX8_markReached_112 (by decide) ?_
                  refine h_sub [1, 2, 0] rfl ?_
                  refine ihO ((i + 1), σ3) ?_ ?_
                  · refine ⟨(le_succ hO.1 hlt).1, (le_succ hO.1 hlt).2, ?_, by first | exact hI.2.2.2 | exact hO.2.2.2⟩
                    rw [tn_succ hO.1 hlt]
                    show _ = mrD i.toNatClampNeg (itF mrD i.toNatClampNeg _)
                    rw [← hO.2.2.1]
                    unfold mrD
                    rw [if_neg c_58]
                    have he := eq_end hI.2.1 (Int32.not_lt.mpr c_69)
                    rw [hI.2.2.1, he]
                    rfl
                  · exact tm_lt hlt
                · refine h_aload_n C 0 dX8_markReached_72 rfl rfl ?_
                  refine h_iload_n C 2 dX8_markReached_73 rfl rfl ?_
                  refine h_iload_n C 3 dX8_markReached_74 rfl rfl ?_
                  refine h_callV C (m_X8_after hY hs0 hs1) caX8_39 kX8 (ty_26 hY) ⟨by decide, by decide, by decide, by decide⟩ rfl rfl (Nat.le_of_ble_eq_true rfl) dX8_markReached_75 ?_
                  rintro v σ' ⟨rfl, h2⟩; rw [h2]; clear h2
                  show hW _ _ _ _ _ _ _ _ _ _ _ _ _ 78 [(0, .ref (ad G 26)), (1, .int al), (2, .int i), (3, .int j)] [.int (AFT σ3 i j)] σ3 0 0
                  refine h_istore C [(4, .int (AFT σ3 i j)), (0, .ref (ad G 26)), (1, .int al), (2, .int i), (3, .int j)] dX8_markReached_78 (by decide) rfl ?_
                  refine h_iload C 0 dX8_markReached_80 rfl ?_
                  refine h_if_lt C 103 dX8_markReached_82 (by decide) (fun c_82 => ?_) (fun c_82 => ?_)
                  · refine h_iinc C [(3, .int (j + 1)), (4, .int (AFT σ3 i j)), (0, .ref (ad G 26)), (1, .int al), (2, .int i)] 4 (j + 1) dX8_markReached_103 rfl rfl (by decide) rfl ?_
                    refine h_goto C 66 dX8_markReached_106 (by decide) ?_
                    refine h_sub [2, 3, 4, 0] rfl ?_
                    refine ih ((j + 1), σ3) ?_ ?_
                    · have hlt6 : j < 6 := Int32.not_le.mp c_69
                      refine ⟨(le_succ hI.1 hlt6).1, (le_succ hI.1 hlt6).2, ?_, by first | exact hI.2.2.2.tr frT_s | exact hI.2.2.2⟩
                      rw [tn_succ hI.1 hlt6]
                      show _ = mrS i.toNatClampNeg j.toNatClampNeg (itF (mrS i.toNatClampNeg) j.toNatClampNeg σ2)
                      rw [← hI.2.2.1]
                      unfold mrS
                      rw [nI_tn hI.1, nI_tn hO.1]
                      rw [if_neg (fun q => absurd c_82 (Int32.not_lt.mpr q.1))]
                    · exact tm_lt (Int32.not_le.mp c_69)
                  · refine h_iload C 0 dX8_markReached_85 rfl ?_
                    refine h_aload_n C 1 dX8_markReached_87 rfl rfl ?_
                    refine gfX8_22 C (ty_26 hY) dX8_markReached_88 ?_
                    refine h_tref (b := 29) (rf_26_3 hY) ?_
                    refine h_alen C (ty_29 hY) (by decide) dX8_markReached_91 ?_
                    refine h_icmp_ge C 103 dX8_markReached_92 (by decide) (fun c_92 => ?_) (fun c_92 => ?_)
                    · refine h_iinc C [(3, .int (j + 1)), (4, .int (AFT σ3 i j)), (0, .ref (ad G 26)), (1, .int al), (2, .int i)] 4 (j + 1) dX8_markReached_103 rfl rfl (by decide) rfl ?_
                      refine h_goto C 66 dX8_markReached_106 (by decide) ?_
                      refine h_sub [2, 3, 4, 0] rfl ?_
                      refine ih ((j + 1), σ3) ?_ ?_
                      · have hlt6 : j < 6 := Int32.not_le.mp c_69
                        refine ⟨(le_succ hI.1 hlt6).1, (le_succ hI.1 hlt6).2, ?_, by first | exact hI.2.2.2.tr frT_s | exact hI.2.2.2⟩
                        rw [tn_succ hI.1 hlt6]
                        show _ = mrS i.toNatClampNeg j.toNatClampNeg (itF (mrS i.toNatClampNeg) j.toNatClampNeg σ2)
                        rw [← hI.2.2.1]
                        unfold mrS
                        rw [nI_tn hI.1, nI_tn hO.1]
                        rw [if_neg (fun q => absurd q.2 (Int32.not_lt.mpr c_92))]
                      · exact tm_lt (Int32.not_le.mp c_69)
                    · refine h_aload_n C 1 dX8_markReached_95 rfl rfl ?_
                      refine gfX8_22 C (ty_26 hY) dX8_markReached_96 ?_
                      refine h_tref (b := 29) (rf_26_3 hY) ?_
                      refine h_iload C 0 dX8_markReached_99 rfl ?_
                      refine h_iconst C 1 dX8_markReached_101 (by decide) ?_
                      refine h_bast C _ (ty_29 hY) (vp32 (N := 4096) (Int32.not_lt.mp c_82) (Int32.not_le.mp c_92) (by decide)) dX8_markReached_102 rfl ?_
                      refine h_iinc C [(3, .int (j + 1)), (4, .int (AFT σ3 i j)), (0, .ref (ad G 26)), (1, .int al), (2, .int i)] 4 (j + 1) dX8_markReached_103 rfl rfl (by decide) rfl ?_
                      refine h_goto C 66 dX8_markReached_106 (by decide) ?_
                      refine h_sub [2, 3, 4, 0] rfl ?_
                      refine ih ((j + 1), (sI σ3 29 (AFT σ3 i j).toNatClampNeg (Int32.toInt8 1).toInt32)) ?_ ?_
                      · have hlt6 : j < 6 := Int32.not_le.mp c_69
                        refine ⟨(le_succ hI.1 hlt6).1, (le_succ hI.1 hlt6).2, ?_, by first | exact hI.2.2.2.tr frT_s | exact hI.2.2.2⟩
                        rw [tn_succ hI.1 hlt6]
                        show _ = mrS i.toNatClampNeg j.toNatClampNeg (itF (mrS i.toNatClampNeg) j.toNatClampNeg σ2)
                        rw [← hI.2.2.1]
                        unfold mrS
                        rw [nI_tn hI.1, nI_tn hO.1]
                        rw [if_pos ⟨Int32.not_lt.mp c_82, Int32.not_le.mp c_92⟩]
                        rfl
                      · exact tm_lt (Int32.not_le.mp c_69)
              · exact ⟨by decide, by decide, by rw [tn_0]; rfl, hO.2.2.2⟩
            · refine h_goto C 109 dX8_markReached_61 (by decide) ?_
              refine h_iinc C [(2, .int (i + 1)), (0, .ref (ad G 26)), (1, .int al)] 2 (i + 1) dX8_markReached_109 rfl rfl (by decide) rfl ?_
              refine h_goto C 38 dX8_markReached_112 (by decide) ?_
              refine h_sub [1, 2, 0] rfl ?_
              refine ihO ((i + 1), σ2) ?_ ?_
              · refine ⟨(le_succ hO.1 hlt).1, (le_succ hO.1 hlt).2, ?_, by first | exact hI.2.2.2 | exact hO.2.2.2⟩
                rw [tn_succ hO.1 hlt]
                show _ = mrD i.toNatClampNeg (itF mrD i.toNatClampNeg _)
                rw [← hO.2.2.1]
                unfold mrD
                rw [if_pos c_58]
              · exact tm_lt hlt
      · refine ⟨by decide, ha0, ?_, hI.2.2.2.tr frT_s⟩
        have he : i = al + 1 := eq_end hI.2.1 (by have h1 := c_4; clear C; grind)
        rw [hI.2.2.1, he, tn_0, tn_succ ha0 (N := 4096) ha1]
        rfl
    · refine h_iload_n C 2 dX8_markReached_7 rfl rfl ?_
      refine h_aload_n C 0 dX8_markReached_8 rfl rfl ?_
      refine gfX8_22 C (ty_26 hY) dX8_markReached_9 ?_
      refine h_tref (b := 29) (rf_26_3 hY) ?_
      refine h_alen C (ty_29 hY) (by decide) dX8_markReached_12 ?_
      refine h_icmp_ge C 29 dX8_markReached_13 (by decide) (fun c_13 => ?_) (fun c_13 => ?_)
      · exact absurd (Int32.lt_of_le_of_lt (Int32.not_lt.mp c_4) ha1) (Int32.not_lt.mpr c_13)
      · refine h_aload_n C 0 dX8_markReached_16 rfl rfl ?_
        refine gfX8_22 C (ty_26 hY) dX8_markReached_17 ?_
        refine h_tref (b := 29) (rf_26_3 hY) ?_
        refine h_iload_n C 2 dX8_markReached_20 rfl rfl ?_
        refine h_iconst C 0 dX8_markReached_21 (by decide) ?_
        refine h_bast C _ (ty_29 hY) (vp32 (N := 4096) hI.1 (Int32.lt_of_le_of_lt (Int32.not_lt.mp c_4) ha1) (by decide)) dX8_markReached_22 rfl ?_
        refine h_iinc C [(2, .int (i + 1)), (0, .ref (ad G 26)), (1, .int al)] 2 (i + 1) dX8_markReached_23 rfl rfl (by decide) rfl ?_
        refine h_goto C 2 dX8_markReached_26 (by decide) ?_
        refine h_sub [1, 2, 0] rfl ?_
        refine ih ((i + 1), (sI σ1 29 i.toNatClampNeg (Int32.toInt8 0).toInt32)) ?_ ?_
        · have hlt : i < al + 1 := by have h1 := Int32.not_lt.mp c_4; clear C; grind
          refine ⟨(le_succ hI.1 hlt).1, (le_succ hI.1 hlt).2, ?_, hI.2.2.2.tr frT_s⟩
          rw [tn_succ hI.1 hlt]
          show _ = mrZ i.toNatClampNeg (itF mrZ i.toNatClampNeg σ)
          rw [← hI.2.2.1]
          rfl
        · exact tm_lt (by have h1 := Int32.not_lt.mp c_4; clear C; grind)
  · exact ⟨by decide, by clear C; grind, by rw [tn_0]; rfl, frT.rf⟩
def ctK (al : Int32) (k : Nat) (s : ha_St) : ha_St := if gI s 29 (al.toNatClampNeg - 1 - k) = 0 then s else sI s 29 (al.toNatClampNeg - 1 - k) (1 + LB s (Int32.ofNat (al.toNatClampNeg - 1 - k))).toInt8.toInt32.toInt8.toInt32
def countF (σ : ha_St) (al : Int32) : ha_St := itF (ctK al) al.toNatClampNeg σ
theorem i8_i8 (x : Int32) : x.toInt8.toInt32.toInt8.toInt32 = x.toInt8.toInt32 := by
  rw [Int8.toInt8_toInt32]
set_option maxRecDepth 100000 in
set_option maxHeartbeats 4000000 in
theorem m_X8_countToGo {G : ha_G} {l : Launch} {σ : ha_St} {al : Int32} (hY : LY σ) (hs0 : 0 ≤ gI σ 26 2) (hs1 : gI σ 26 2 ≤ 12) (ha0 : 0 ≤ al) (ha1 : al < 4096) : hM G l yX8_countToGo cX8_countToGo 3 none { frames := 2, cells := 0, slots := 0, locals := 48 } [.ref (ad G 26), .int al] σ (fun v σ' => v = none ∧ σ' = countF σ al ∧ frT σ σ') := by
  have hY0 := hY
  have hs00 := hs0
  have hs10 := hs1
  refine hM_ofF [(0, .ref (ad G 26)), (1, .int al)] (by decide +kernel) (Nat.le_of_ble_eq_true rfl) rfl ?_
  intro p e s m args below meth c0 C hin
  refine h_iload_n C 1 dX8_countToGo_0 rfl rfl ?_
  refine h_aload_n C 0 dX8_countToGo_1 rfl rfl ?_
  refine gfX8_22 C (ty_26 hY) dX8_countToGo_2 ?_
  refine h_tref (b := 29) (rf_26_3 hY) ?_
  refine h_alen C (ty_29 hY) (by decide) dX8_countToGo_5 ?_
  refine h_callS C m_J9_min_7cf53 caX8_53 ⟨by decide, by decide, by decide, by decide⟩ rfl rfl (Nat.le_of_ble_eq_true rfl) dX8_countToGo_6 ?_
  rintro v σ' ⟨rfl, h2⟩; rw [h2]; clear h2; rw [if_neg (by clear C; grind)]
  show hW _ _ _ _ _ _ _ _ _ _ _ _ _ 9 [(0, .ref (ad G 26)), (1, .int al)] [.int al] σ 0 0
  refine h_iconst C 1 dX8_countToGo_9 (by decide) ?_
  refine h_isub C dX8_countToGo_10 ?_
  refine h_istore_n C [(2, .int (al - 1)), (0, .ref (ad G 26)), (1, .int al)] dX8_countToGo_11 rfl (by decide) rfl ?_
  refine h_sub [1, 2, 0] rfl ?_
  refine h_loop (α := Int32 × ha_St) (fun (i, σ1) => -1 ≤ i ∧ i < al ∧ σ1 = itF (ctK al) (al.toNatClampNeg - (i + 1).toNatClampNeg) σ ∧ frT σ σ1) (fun (i, σ1) => (i + 1).toNatClampNeg) (fun (i, σ1) => [(0, .ref (ad G 26)), (1, .int al), (2, .int i)]) (fun (i, σ1) => []) (fun (i, σ1) => σ1) (fun (i, σ1) => 0) (fun (i, σ1) => 0) ?_ ((al - 1), σ) ?_
  · rintro ⟨i, σ1⟩ hI ih
    show hW _ _ _ _ _ _ _ _ _ _ _ _ _ 12 [(0, .ref (ad G 26)), (1, .int al), (2, .int i)] [] σ1 0 0
    have hY : LY σ1 := hI.2.2.2.LY hY0
    have hs0 : 0 ≤ gI σ1 26 2 := by rw [hI.2.2.2.2.2.2.2 26 (by decide)]; exact hs00
    have hs1 : gI σ1 26 2 ≤ 12 := by rw [hI.2.2.2.2.2.2.2 26 (by decide)]; exact hs10
    refine h_iload_n C 2 dX8_countToGo_12 rfl rfl ?_
    refine h_if_lt C 45 dX8_countToGo_13 (by decide) (fun c_13 => ?_) (fun c_13 => ?_)
    · refine h_vret C rfl (Nat.zero_le _) (Nat.zero_le _) dX8_countToGo_45 ?_
      have he : i = -1 := by have h1 := hI.1; clear C; grind
      refine ⟨rfl, ?_, hI.2.2.2⟩
      rw [hI.2.2.1, he]
      rfl
    · refine h_aload_n C 0 dX8_countToGo_16 rfl rfl ?_
      refine gfX8_22 C (ty_26 hY) dX8_countToGo_17 ?_
      refine h_tref (b := 29) (rf_26_3 hY) ?_
      refine h_iload_n C 2 dX8_countToGo_20 rfl rfl ?_
      refine h_bald C (ty_29 hY) (vp32 (N := 4096) (Int32.not_lt.mp c_13) (Int32.lt_of_lt_of_le hI.2.1 (Int32.le_of_lt ha1)) (by decide)) dX8_countToGo_21 ?_
      refine h_if_eq C 39 dX8_countToGo_22 (by decide) (fun c_22 => ?_) (fun c_22 => ?_)
      · refine h_iinc C [(2, .int (i + (-1))), (0, .ref (ad G 26)), (1, .int al)] 2 (i + (-1)) dX8_countToGo_39 rfl rfl (by decide) rfl ?_
        refine h_goto C 12 dX8_countToGo_42 (by decide) ?_
        refine h_sub [1, 2, 0] rfl ?_
        refine ih ((i + (-1)), σ1) ?_ ?_
        · have hi0 : 0 ≤ i := Int32.not_lt.mp c_13
          refine ⟨by clear C; grind, by clear C; grind, ?_, by first | exact hI.2.2.2.tr frT_s | exact hI.2.2.2⟩
          rw [show i + (-1) + 1 = i by clear C; grind]
          have e1 := tn_succ hi0 hI.2.1
          have e2 := tn_lt hi0 hI.2.1
          rw [show al.toNatClampNeg - i.toNatClampNeg = (al.toNatClampNeg - (i + 1).toNatClampNeg) + 1 by omega]
          show _ = ctK al (al.toNatClampNeg - (i + 1).toNatClampNeg) (itF (ctK al) (al.toNatClampNeg - (i + 1).toNatClampNeg) σ)
          rw [← hI.2.2.1]
          have e3 : al.toNatClampNeg - 1 - (al.toNatClampNeg - (i + 1).toNatClampNeg) = i.toNatClampNeg := by omega
          unfold ctK
          rw [e3, nI_tn hi0]
          rw [if_pos c_22]
        · have hi0 : 0 ≤ i := Int32.not_lt.mp c_13
          show (i + (-1) + 1).toNatClampNeg < (i + 1).toNatClampNeg
          rw [show i + (-1) + 1 = i by clear C; grind, tn_succ hi0 hI.2.1]
          omega
      · refine h_aload_n C 0 dX8_countToGo_25 rfl rfl ?_
        refine gfX8_22 C (ty_26 hY) dX8_countToGo_26 ?_
        refine h_tref (b := 29) (rf_26_3 hY) ?_
        refine h_iload_n C 2 dX8_countToGo_29 rfl rfl ?_
        refine h_iconst C 1 dX8_countToGo_30 (by decide) ?_
        refine h_aload_n C 0 dX8_countToGo_31 rfl rfl ?_
        refine h_iload_n C 2 dX8_countToGo_32 rfl rfl ?_
        refine h_callV C (m_X8_leastBehind hY hs0 hs1 (Int32.not_lt.mp c_13)) caX8_58 kX8 (ty_26 hY) ⟨by decide, by decide, by decide, by decide⟩ rfl rfl (Nat.le_of_ble_eq_true rfl) dX8_countToGo_33 ?_
        rintro v σ' ⟨rfl, h2⟩; rw [h2]; clear h2
        show hW _ _ _ _ _ _ _ _ _ _ _ _ _ 36 [(0, .ref (ad G 26)), (1, .int al), (2, .int i)] [.int (LB σ1 i), .int 1, .int i, .ref (ad G 29)] σ1 0 0
        refine h_iadd C dX8_countToGo_36 ?_
        refine h_i2b C dX8_countToGo_37 ?_
        refine h_bast C _ (ty_29 hY) (vp32 (N := 4096) (Int32.not_lt.mp c_13) (Int32.lt_of_lt_of_le hI.2.1 (Int32.le_of_lt ha1)) (by decide)) dX8_countToGo_38 rfl ?_
        refine h_iinc C [(2, .int (i + (-1))), (0, .ref (ad G 26)), (1, .int al)] 2 (i + (-1)) dX8_countToGo_39 rfl rfl (by decide) rfl ?_
        refine h_goto C 12 dX8_countToGo_42 (by decide) ?_
        refine h_sub [1, 2, 0] rfl ?_
        refine ih ((i + (-1)), (sI σ1 29 i.toNatClampNeg (Int32.toInt8 ((1 + (LB σ1 i)).toInt8.toInt32)).toInt32)) ?_ ?_
        · have hi0 : 0 ≤ i := Int32.not_lt.mp c_13
          refine ⟨by clear C; grind, by clear C; grind, ?_, by first | exact hI.2.2.2.tr frT_s | exact hI.2.2.2⟩
          rw [show i + (-1) + 1 = i by clear C; grind]
          have e1 := tn_succ hi0 hI.2.1
          have e2 := tn_lt hi0 hI.2.1
          rw [show al.toNatClampNeg - i.toNatClampNeg = (al.toNatClampNeg - (i + 1).toNatClampNeg) + 1 by omega]
          show _ = ctK al (al.toNatClampNeg - (i + 1).toNatClampNeg) (itF (ctK al) (al.toNatClampNeg - (i + 1).toNatClampNeg) σ)
          rw [← hI.2.2.1]
          have e3 : al.toNatClampNeg - 1 - (al.toNatClampNeg - (i + 1).toNatClampNeg) = i.toNatClampNeg := by omega
          unfold ctK
          rw [e3, nI_tn hi0]
          rw [if_neg c_22]
        · have hi0 : 0 ≤ i := Int32.not_lt.mp c_13
          show (i + (-1) + 1).toNatClampNeg < (i + 1).toNatClampNeg
          rw [show i + (-1) + 1 = i by clear C; grind, tn_succ hi0 hI.2.1]
          omega
  · refine ⟨by clear C; grind, by clear C; grind, ?_, frT.rf⟩
    rw [show al - 1 + 1 = al by clear C; grind, Nat.sub_self]
    rfl
