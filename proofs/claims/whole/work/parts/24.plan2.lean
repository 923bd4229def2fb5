theorem nn_msb (z : Int32) : 0 ≤ z ↔ z.toBitVec.msb = false := by
  rw [Int32.le_iff_toInt_le, BitVec.msb_eq_toInt, Int32.toInt_zero]
  show 0 ≤ z.toBitVec.toInt ↔ _
  rw [decide_eq_false_iff_not]
  omega
theorem or_nn {x y : Int32} (hx : 0 ≤ x) (hy : 0 ≤ y) : 0 ≤ x ||| y := by
  rw [nn_msb] at *
  rw [show (x ||| y).toBitVec = x.toBitVec ||| y.toBitVec from rfl, BitVec.msb_or, hx, hy]
  rfl
theorem bit_nn : ∀ s : Nat, s < 12 → (0 : Int32) ≤ 1 <<< (Int32.ofNat s &&& 31) := by decide
theorem afS_nn {σ : ha_St} {side : Int32} {s : Nat} {d : Int32} (hs : s < 12) (hd : 0 ≤ d) : 0 ≤ afS σ side s d := by
  unfold afS
  split
  · exact or_nn hd (bit_nn s hs)
  · exact hd
theorem itI_nn {f : Nat → Int32 → Int32} {N : Nat} {d : Int32} (hd : 0 ≤ d) (hf : ∀ s d, s < N → 0 ≤ d → 0 ≤ f s d) : ∀ n, n ≤ N → 0 ≤ itI f n d
  | 0, _ => hd
  | n + 1, h => hf n _ (by omega) (itI_nn hd hf n (by omega))
theorem AFT_nn {σ : ha_St} {d side : Int32} (hs0 : 0 ≤ gI σ 26 2) (hs1 : gI σ 26 2 ≤ 12) (hd : 0 ≤ d) : 0 ≤ AFT σ d side := by
  refine itI_nn (N := 12) hd (fun s d h1 h2 => afS_nn h1 h2) _ ?_
  have := tn_le hs0 hs1
  rw [show (12 : Int32).toNatClampNeg = 12 by decide] at this
  exact this
/-- the row of set-ups, i of them written: what is done then -/
def WR (σ : ha_St) (al : Int32) : Nat → Int32 → ha_St → Prop
  | 0, d, s => d = 0 ∧ s = σ
  | i + 1, d', s' => ∃ (d : Int32) (s : ha_St) (side : Int32), WR σ al i d s ∧ d ≠ al ∧ onP s d side ∧ d' = AFT s d side ∧ s' = sI (sI s 30 i side) 31 i (d' &&& (d ^^^ (-1)))
/-- what only the rows of the plan change -/
def frW (σ σ' : ha_St) : Prop := gT σ' = gT σ ∧ gR σ' = gR σ ∧ gn σ' = gn σ ∧ gL σ' = gL σ ∧ ∀ a, a ≠ 30 → a ≠ 31 → gI σ' a = gI σ a
theorem frW.rf {σ : ha_St} : frW σ σ := ⟨rfl, rfl, rfl, rfl, fun _ _ _ => rfl⟩
theorem frW.LY {σ σ' : ha_St} (h : frW σ σ') (hY : LY σ) : LY σ' := hY.same h.1 h.2.1 h.2.2.1
theorem frW.st {σ σ' : ha_St} {i j : Nat} {x y : Int32} (h : frW σ σ') : frW σ (sI (sI σ' 30 i x) 31 j y) :=
  ⟨h.1, h.2.1, h.2.2.1, h.2.2.2.1, fun a h1 h2 => (funext fun q => by rw [gI_sI, if_neg (fun z => h2 z.1), gI_sI, if_neg (fun z => h1 z.1)] : gI (sI (sI σ' 30 i x) 31 j y) a = gI σ' a).trans (h.2.2.2.2 a h1 h2)⟩
def rowQ (σ : ha_St) (al : Int32) (σ' : ha_St) : Prop := ∃ (n : Nat) (d : Int32) (s : ha_St), n ≤ 12 ∧ WR σ al n d s ∧ (n = 12 ∨ d = al) ∧ σ' = sI s 26 6 (Int32.ofNat n) ∧ frW σ s
set_option maxRecDepth 100000 in
set_option maxHeartbeats 4000000 in
theorem m_X8_writeRow {G : ha_G} {l : Launch} {σ : ha_St} {al : Int32} (hY : LY σ) (hs0 : 0 ≤ gI σ 26 2) (hs1 : gI σ 26 2 ≤ 12) : hM G l yX8_writeRow cX8_writeRow 7 none { frames := 3, cells := 0, slots := 0, locals := 72 } [.ref (ad G 26), .int al] σ (fun v σ' => v = none ∧ rowQ σ al σ') := by
  have hY0 := hY
  have hs00 := hs0
  have hs10 := hs1
  refine hM_ofF [(0, .ref (ad G 26)), (1, .int al)] (by decide +kernel) (Nat.le_of_ble_eq_true rfl) rfl ?_
  intro p e s m args below meth c0 C hin
  refine h_iconst C 0 dX8_writeRow_0 (by decide) ?_
  refine h_istore_n C [(2, .int 0), (0, .ref (ad G 26)), (1, .int al)] dX8_writeRow_1 rfl (by decide) rfl ?_
  refine h_iconst C 0 dX8_writeRow_2 (by decide) ?_
  refine h_istore_n C [(3, .int 0), (2, .int 0), (0, .ref (ad G 26)), (1, .int al)] dX8_writeRow_3 rfl (by decide) rfl ?_
  refine h_iconst C 0 dX8_writeRow_4 (by decide) ?_
  refine h_istore C [(4, .int 0), (3, .int 0), (2, .int 0), (0, .ref (ad G 26)), (1, .int al)] dX8_writeRow_5 (by decide) rfl ?_
  refine h_sub [3, 4, 2, 1, 0] rfl ?_
  refine h_loop (α := Int32 × Int32 × ha_St) (fun (i, d, σ1) => 0 ≤ i ∧ i ≤ 12 ∧ 0 ≤ d ∧ WR σ al i.toNatClampNeg d σ1 ∧ frW σ σ1) (fun (i, d, σ1) => tm 12 i) (fun (i, d, σ1) => [(0, .ref (ad G 26)), (1, .int al), (2, .int d), (3, .int i), (4, .int i)]) (fun (i, d, σ1) => []) (fun (i, d, σ1) => σ1) (fun (i, d, σ1) => 0) (fun (i, d, σ1) => 0) ?_ (0, 0, σ) ?_
  · rintro ⟨i, d, σ1⟩ hI ih
    show hW _ _ _ _ _ _ _ _ _ _ _ _ _ 7 [(0, .ref (ad G 26)), (1, .int al), (2, .int d), (3, .int i), (4, .int i)] [] σ1 0 0
    have hY : LY σ1 := hI.2.2.2.2.LY hY0
    have hs0 : 0 ≤ gI σ1 26 2 := by rw [hI.2.2.2.2.2.2.2.2 26 (by decide) (by decide)]; exact hs00
    have hs1 : gI σ1 26 2 ≤ 12 := by rw [hI.2.2.2.2.2.2.2.2 26 (by decide) (by decide)]; exact hs10
    refine h_iload C 4 dX8_writeRow_7 rfl ?_
    refine h_bipush C 12 dX8_writeRow_9 (by decide) ?_
    refine h_icmp_ge C 69 dX8_writeRow_11 (by decide) (fun c_11 => ?_) (fun c_11 => ?_)
    · refine h_aload_n C 0 dX8_writeRow_69 rfl rfl ?_
      refine h_iload_n C 3 dX8_writeRow_70 rfl rfl ?_
      refine pfX8_32 C (ty_26 hY) dX8_writeRow_71 ?_
      refine h_vret C rfl (Nat.zero_le _) (Nat.zero_le _) dX8_writeRow_74 ?_
      refine ⟨rfl, i.toNatClampNeg, d, σ1, ?_, hI.2.2.2.1, ?_, by rw [nI_tn hI.1], hI.2.2.2.2⟩
      · have := tn_le hI.1 hI.2.1
        rw [show (12 : Int32).toNatClampNeg = 12 by decide] at this
        exact this
      · have he := eq_end hI.2.1 (Int32.not_lt.mpr c_11)
        rw [he]
        exact Or.inl (by decide)
    · refine h_iload_n C 2 dX8_writeRow_14 rfl rfl ?_
      refine h_iload_n C 1 dX8_writeRow_15 rfl rfl ?_
      refine h_icmp_eq C 69 dX8_writeRow_16 (by decide) (fun c_16 => ?_) (fun c_16 => ?_)
      · refine h_aload_n C 0 dX8_writeRow_69 rfl rfl ?_
        refine h_iload_n C 3 dX8_writeRow_70 rfl rfl ?_
        refine pfX8_32 C (ty_26 hY) dX8_writeRow_71 ?_
        refine h_vret C rfl (Nat.zero_le _) (Nat.zero_le _) dX8_writeRow_74 ?_
        refine ⟨rfl, i.toNatClampNeg, d, σ1, ?_, hI.2.2.2.1, ?_, by rw [nI_tn hI.1], hI.2.2.2.2⟩
        · have := tn_le hI.1 hI.2.1
          rw [show (12 : Int32).toNatClampNeg = 12 by decide] at this
          exact this
        · exact Or.inr c_16
      · refine h_aload_n C 0 dX8_writeRow_19 rfl rfl ?_
        refine h_iload_n C 2 dX8_writeRow_20 rfl rfl ?_
        refine h_callV C (m_X8_firstSideOnward hY hs0 hs1 hI.2.2.1) caX8_62 kX8 (ty_26 hY) ⟨by decide, by decide, by decide, by decide⟩ rfl rfl (Nat.le_of_ble_eq_true rfl) dX8_writeRow_21 ?_
        rintro v σ' ⟨⟨rb, rfl, hb⟩, h2⟩; rw [h2]; clear h2
        show hW _ _ _ _ _ _ _ _ _ _ _ _ _ 24 [(0, .ref (ad G 26)), (1, .int al), (2, .int d), (3, .int i), (4, .int i)] [.int rb] σ1 0 0
        refine h_istore C [(5, .int rb), (0, .ref (ad G 26)), (1, .int al), (2, .int d), (3, .int i), (4, .int i)] dX8_writeRow_24 (by decide) rfl ?_
        refine h_aload_n C 1 dX8_writeRow_26 rfl rfl ?_
        refine h_iload_n C 3 dX8_writeRow_27 rfl rfl ?_
        refine h_iload C 0 dX8_writeRow_28 rfl ?_
        refine h_callV C (m_X8_after hY hs0 hs1) caX8_39 kX8 (ty_26 hY) ⟨by decide, by decide, by decide, by decide⟩ rfl rfl (Nat.le_of_ble_eq_true rfl) dX8_writeRow_30 ?_
        rintro v σ' ⟨rfl, h2⟩; rw [h2]; clear h2
        show hW _ _ _ _ _ _ _ _ _ _ _ _ _ 33 [(5, .int rb), (0, .ref (ad G 26)), (1, .int al), (2, .int d), (3, .int i), (4, .int i)] [.int (AFT σ1 d rb)] σ1 0 0
        refine h_istore C [(6, .int (AFT σ1 d rb)), (5, .int rb), (0, .ref (ad G 26)), (1, .int al), (2, .int d), (3, .int i), (4, .int i)] dX8_writeRow_33 (by decide) rfl ?_
        refine h_aload_n C 2 dX8_writeRow_35 rfl rfl ?_
        refine gfX8_26 C (ty_26 hY) dX8_writeRow_36 ?_
        refine h_tref (b := 30) (rf_26_4 hY) ?_
        refine h_iload C 6 dX8_writeRow_39 rfl ?_
        refine h_iload C 1 dX8_writeRow_41 rfl ?_
        refine h_iast C _ (ty_30 hY) (vp32 (N := 12) hI.1 (Int32.not_le.mp c_11) (by decide)) dX8_writeRow_43 rfl ?_
        refine h_aload_n C 2 dX8_writeRow_44 rfl rfl ?_
        refine gfX8_29 C (ty_26 hY) dX8_writeRow_45 ?_
        refine h_tref (b := 31) (rf_26_5 hY) ?_
        refine h_iload C 6 dX8_writeRow_48 rfl ?_
        refine h_iload C 0 dX8_writeRow_50 rfl ?_
        refine h_iload_n C 4 dX8_writeRow_52 rfl rfl ?_
        refine h_iconst C (-1) dX8_writeRow_53 (by decide) ?_
        refine h_ixor C dX8_writeRow_54 ?_
        refine h_iand C dX8_writeRow_55 ?_
        refine h_iast C _ (ty_31 hY) (vp32 (N := 12) hI.1 (Int32.not_le.mp c_11) (by decide)) dX8_writeRow_56 rfl ?_
        refine h_iload C 0 dX8_writeRow_57 rfl ?_
        refine h_istore_n C [(2, .int (AFT σ1 d rb)), (6, .int (AFT σ1 d rb)), (5, .int rb), (0, .ref (ad G 26)), (1, .int al), (3, .int i), (4, .int i)] dX8_writeRow_59 rfl (by decide) rfl ?_
        refine h_iinc C [(3, .int (i + 1)), (2, .int (AFT σ1 d rb)), (6, .int (AFT σ1 d rb)), (5, .int rb), (0, .ref (ad G 26)), (1, .int al), (4, .int i)] 5 (i + 1) dX8_writeRow_60 rfl rfl (by decide) rfl ?_
        refine h_iinc C [(4, .int (i + 1)), (3, .int (i + 1)), (2, .int (AFT σ1 d rb)), (6, .int (AFT σ1 d rb)), (5, .int rb), (0, .ref (ad G 26)), (1, .int al)] 6 (i + 1) dX8_writeRow_63 rfl rfl (by decide) rfl ?_
        refine h_goto C 7 dX8_writeRow_66 (by decide) ?_
        refine h_sub [5, 6, 2, 1, 0] rfl ?_
        refine ih ((i + 1), (AFT σ1 d rb), (sI (sI σ1 30 i.toNatClampNeg rb) 31 i.toNatClampNeg ((AFT σ1 d rb) &&& (d ^^^ (-1))))) ?_ ?_
        · have hlt : i < 12 := Int32.not_le.mp c_11
          refine ⟨(le_succ hI.1 hlt).1, (le_succ hI.1 hlt).2, AFT_nn hs0 hs1 hI.2.2.1, ?_, hI.2.2.2.2.st⟩
          rw [tn_succ hI.1 hlt]
          exact ⟨d, σ1, rb, hI.2.2.2.1, c_16, hb, rfl, rfl⟩
        · exact tm_lt (Int32.not_le.mp c_11)
  · exact ⟨by decide, by decide, by decide, by rw [tn_0]; exact ⟨rfl, rfl⟩, frW.rf⟩
def allOf (σ : ha_St) : Int32 := 1 <<< (gI σ 26 2 &&& 31) - 1
theorem all_ok : ∀ s : Nat, s ≤ 12 → (0 : Int32) ≤ 1 <<< (Int32.ofNat s &&& 31) - 1 ∧ (1 <<< (Int32.ofNat s &&& 31) - 1 : Int32) < 4096 := by decide
theorem allOf_ok {σ : ha_St} (hs0 : 0 ≤ gI σ 26 2) (hs1 : gI σ 26 2 ≤ 12) : 0 ≤ allOf σ ∧ allOf σ < 4096 := by
  have h1 := tn_le hs0 hs1
  rw [show (12 : Int32).toNatClampNeg = 12 by decide] at h1
  have h2 := all_ok _ h1
  rw [nI_tn hs0] at h2
  exact h2
def fewQ (σ σ' : ha_St) : Prop := (gI σ 26 7 ≠ 0 ∧ σ' = σ) ∨ (gI σ 26 7 = 0 ∧ ∃ s, rowQ (countF (markF σ (allOf σ)) (allOf σ)) (allOf σ) s ∧ σ' = sI s 26 7 1 ∧ frT σ (countF (markF σ (allOf σ)) (allOf σ)))
set_option maxRecDepth 100000 in
set_option maxHeartbeats 4000000 in
theorem m_X8_findFewest {G : ha_G} {l : Launch} {σ : ha_St} (hY : LY σ) (hs0 : 0 ≤ gI σ 26 2) (hs1 : gI σ 26 2 ≤ 12) : hM G l yX8_findFewest cX8_findFewest 2 none { frames := 4, cells := 0, slots := 0, locals := 98 } [.ref (ad G 26)] σ (fun v σ' => v = none ∧ fewQ σ σ') := by
  have ha := allOf_ok hs0 hs1
  refine hM_ofF [(0, .ref (ad G 26))] (by decide +kernel) (Nat.le_of_ble_eq_true rfl) rfl ?_
  intro p e s m args below meth c0 C hin
  refine h_aload_n C 0 dX8_findFewest_0 rfl rfl ?_
  refine gfX8_35 C (ty_26 hY) dX8_findFewest_1 ?_
  refine h_if_eq C 8 dX8_findFewest_4 (by decide) (fun c_4 => ?_) (fun c_4 => ?_)
  · refine h_iconst C 1 dX8_findFewest_8 (by decide) ?_
    refine h_aload_n C 0 dX8_findFewest_9 rfl rfl ?_
    refine gfX8_18 C (ty_26 hY) dX8_findFewest_10 ?_
    refine h_ishl C dX8_findFewest_13 ?_
    refine h_iconst C 1 dX8_findFewest_14 (by decide) ?_
    refine h_isub C dX8_findFewest_15 ?_
    refine h_istore_n C [(1, .int ((1 <<< ((gI σ 26 2) &&& 31)) - 1)), (0, .ref (ad G 26))] dX8_findFewest_16 rfl (by decide) rfl ?_
    refine h_iload_n C 0 dX8_findFewest_17 rfl rfl ?_
    refine h_if_lt C 30 dX8_findFewest_18 (by decide) (fun c_18 => ?_) (fun c_18 => ?_)
    · exact absurd c_18 (Int32.not_lt.mpr ha.1)
    · refine h_iload_n C 0 dX8_findFewest_21 rfl rfl ?_
      refine h_aload_n C 1 dX8_findFewest_22 rfl rfl ?_
      refine gfX8_22 C (ty_26 hY) dX8_findFewest_23 ?_
      refine h_tref (b := 29) (rf_26_3 hY) ?_
      refine h_alen C (ty_29 hY) (by decide) dX8_findFewest_26 ?_
      refine h_icmp_lt C 31 dX8_findFewest_27 (by decide) (fun c_27 => ?_) (fun c_27 => ?_)
      · refine h_aload_n C 1 dX8_findFewest_31 rfl rfl ?_
        refine h_iload_n C 0 dX8_findFewest_32 rfl rfl ?_
        refine h_callV C (m_X8_markReached hY hs0 hs1 ha.1 ha.2) caX8_43 kX8 (ty_26 hY) ⟨by decide, by decide, by decide, by decide⟩ rfl rfl (Nat.le_of_ble_eq_true rfl) dX8_findFewest_33 ?_
        rintro v σ1 ⟨rfl, h1, f1⟩
        have hY : LY σ1 := f1.LY hY
        have hs0 : 0 ≤ gI σ1 26 2 := by rw [f1.2.2.2.2 26 (by decide)]; exact hs0
        have hs1 : gI σ1 26 2 ≤ 12 := by rw [f1.2.2.2.2 26 (by decide)]; exact hs1
        show hW _ _ _ _ _ _ _ _ _ _ _ _ _ 36 [(1, .int ((1 <<< ((gI σ 26 2) &&& 31)) - 1)), (0, .ref (ad G 26))] [] σ1 0 0
        refine h_aload_n C 1 dX8_findFewest_36 rfl rfl ?_
        refine h_iload_n C 0 dX8_findFewest_37 rfl rfl ?_
        refine h_callV C (m_X8_countToGo hY hs0 hs1 ha.1 ha.2) caX8_47 kX8 (ty_26 hY) ⟨by decide, by decide, by decide, by decide⟩ rfl rfl (Nat.le_of_ble_eq_true rfl) dX8_findFewest_38 ?_
        rintro v σ2 ⟨rfl, h2, f2⟩
        have hY : LY σ2 := f2.LY hY
        have hs0 : 0 ≤ gI σ2 26 2 := by rw [f2.2.2.2.2 26 (by decide)]; exact hs0
        have hs1 : gI σ2 26 2 ≤ 12 := by rw [f2.2.2.2.2 26 (by decide)]; exact hs1
        show hW _ _ _ _ _ _ _ _ _ _ _ _ _ 41 [(1, .int ((1 <<< ((gI σ 26 2) &&& 31)) - 1)), (0, .ref (ad G 26))] [] σ2 0 0
        refine h_aload_n C 1 dX8_findFewest_41 rfl rfl ?_
        refine h_iload_n C 0 dX8_findFewest_42 rfl rfl ?_
        refine h_callV C (m_X8_writeRow hY hs0 hs1) caX8_50 kX8 (ty_26 hY) ⟨by decide, by decide, by decide, by decide⟩ rfl rfl (Nat.le_of_ble_eq_true rfl) dX8_findFewest_43 ?_
        rintro v σ3 ⟨rfl, h3⟩
        have hY : LY σ3 := by
          obtain ⟨n, d, s9, -, -, -, e9, f9⟩ := h3
          rw [e9]
          exact (f9.LY hY).same rfl rfl rfl
        show hW _ _ _ _ _ _ _ _ _ _ _ _ _ 46 [(1, .int ((1 <<< ((gI σ 26 2) &&& 31)) - 1)), (0, .ref (ad G 26))] [] σ3 0 0
        refine h_aload_n C 1 dX8_findFewest_46 rfl rfl ?_
        refine h_iconst C 1 dX8_findFewest_47 (by decide) ?_
        refine pfX8_35 C (Or.inr rfl) (ty_26 hY) dX8_findFewest_48 ?_
        refine h_vret C rfl (Nat.zero_le _) (Nat.zero_le _) dX8_findFewest_51 ?_
        refine ⟨rfl, Or.inr ⟨c_4, σ3, ?_, rfl, ?_⟩⟩
        · rw [h2, h1] at h3
          exact h3
        · rw [h2, h1] at f2
          rw [h1] at f1
          exact f1.tr f2
      · exact absurd ha.2 c_27
  · refine h_vret C rfl (Nat.zero_le _) (Nat.zero_le _) dX8_findFewest_7 ?_
    exact ⟨rfl, Or.inl ⟨c_4, rfl⟩⟩
/-- what is done, and the rest of the sides told, behind i set-ups -/
def tdR (σ : ha_St) (row : Int32) : Nat → Int32 × Int32
  | 0 => (0, row)
  | i + 1 => (AFT σ (tdR σ row i).1 ((tdR σ row i).2 - (tdR σ row i).2 / 6 * 6), (tdR σ row i).2 / 6)
def tdP (σ : ha_St) (row n r : Int32) : Prop := (0 ≤ r ∧ r ≤ n ∧ (tdR σ row r.toNatClampNeg).1 = allOf σ ∧ ∀ i, i < r.toNatClampNeg → (tdR σ row i).1 ≠ allOf σ) ∨ (r = -1 ∧ ∀ i, i ≤ n.toNatClampNeg → (tdR σ row i).1 ≠ allOf σ)
set_option maxRecDepth 100000 in
set_option maxHeartbeats 4000000 in
theorem m_X8_takenBy {G : ha_G} {l : Launch} {σ : ha_St} {row n : Int32} (hY : LY σ) (hs0 : 0 ≤ gI σ 26 2) (hs1 : gI σ 26 2 ≤ 12) (hn0 : 0 ≤ n) : hM G l yX8_takenBy cX8_takenBy 7 (some .int) { frames := 1, cells := 0, slots := 0, locals := 24 } [.ref (ad G 26), .int row, .int n] σ (fun v σ' => (∃ r, v = some (.int r) ∧ tdP σ row n r) ∧ σ' = σ) := by
  refine hM_ofF [(0, .ref (ad G 26)), (1, .int row), (2, .int n)] (by decide +kernel) (Nat.le_of_ble_eq_true rfl) rfl ?_
  intro p e s m args below meth c0 C hin
  refine h_iconst C 1 dX8_takenBy_0 (by decide) ?_
  refine h_aload_n C 0 dX8_takenBy_1 rfl rfl ?_
  refine gfX8_18 C (ty_26 hY) dX8_takenBy_2 ?_
  refine h_ishl C dX8_takenBy_5 ?_
  refine h_iconst C 1 dX8_takenBy_6 (by decide) ?_
  refine h_isub C dX8_takenBy_7 ?_
  refine h_istore_n C [(3, .int ((1 <<< ((gI σ 26 2) &&& 31)) - 1)), (0, .ref (ad G 26)), (1, .int row), (2, .int n)] dX8_takenBy_8 rfl (by decide) rfl ?_
  refine h_iconst C 0 dX8_takenBy_9 (by decide) ?_
  refine h_istore C [(4, .int 0), (3, .int ((1 <<< ((gI σ 26 2) &&& 31)) - 1)), (0, .ref (ad G 26)), (1, .int row), (2, .int n)] dX8_takenBy_10 (by decide) rfl ?_
  refine h_iload_n C 3 dX8_takenBy_12 rfl rfl ?_
  refine h_istore C [(5, .int row), (4, .int 0), (3, .int ((1 <<< ((gI σ 26 2) &&& 31)) - 1)), (0, .ref (ad G 26)), (1, .int row), (2, .int n)] dX8_takenBy_13 (by decide) rfl ?_
  refine h_iconst C 0 dX8_takenBy_15 (by decide) ?_
  refine h_istore C [(6, .int 0), (5, .int row), (4, .int 0), (3, .int ((1 <<< ((gI σ 26 2) &&& 31)) - 1)), (0, .ref (ad G 26)), (1, .int row), (2, .int n)] dX8_takenBy_16 (by decide) rfl ?_
  refine h_sub [4, 6, 3, 2, 1, 0] rfl ?_
  refine h_loop (α := Int32 × Int32 × Int32) (fun (i, d, x) => 0 ≤ i ∧ i ≤ n ∧ (d, x) = tdR σ row i.toNatClampNeg ∧ ∀ y, y < i.toNatClampNeg → (tdR σ row y).1 ≠ allOf σ) (fun (i, d, x) => tm n i) (fun (i, d, x) => [(0, .ref (ad G 26)), (2, .int n), (3, .int (allOf σ)), (4, .int d), (5, .int x), (6, .int i)]) (fun (i, d, x) => []) (fun (i, d, x) => σ) (fun (i, d, x) => 0) (fun (i, d, x) => 0) ?_ (0, 0, row) ?_
  · rintro ⟨i, d, x⟩ hI ih
    show hW _ _ _ _ _ _ _ _ _ _ _ _ _ 18 [(0, .ref (ad G 26)), (2, .int n), (3, .int (allOf σ)), (4, .int d), (5, .int x), (6, .int i)] [] σ 0 0
    refine h_iload C 5 dX8_takenBy_18 rfl ?_
    refine h_iload_n C 1 dX8_takenBy_20 rfl rfl ?_
    refine h_icmp_ge C 59 dX8_takenBy_21 (by decide) (fun c_21 => ?_) (fun c_21 => ?_)
    · refine h_iload C 3 dX8_takenBy_59 rfl ?_
      refine h_iload_n C 2 dX8_takenBy_61 rfl rfl ?_
      refine h_icmp_ne C 69 dX8_takenBy_62 (by decide) (fun c_62 => ?_) (fun c_62 => ?_)
      · refine h_iconst C (-1) dX8_takenBy_69 (by decide) ?_
        refine h_iret C rfl (Nat.zero_le _) (Nat.zero_le _) dX8_takenBy_70 ?_
        have he := eq_end hI.2.1 (Int32.not_lt.mpr c_21)
        rw [he] at hI
        refine ⟨⟨_, rfl, Or.inr ⟨rfl, fun y hy => ?_⟩⟩, rfl⟩
        by_cases hyn : y = n.toNatClampNeg
        · rw [hyn, ← hI.2.2.1]; exact c_62
        · exact hI.2.2.2 y (by omega)
      · refine h_iload_n C 1 dX8_takenBy_65 rfl rfl ?_
        refine h_goto C 70 dX8_takenBy_66 (by decide) ?_
        refine h_iret C rfl (Nat.zero_le _) (Nat.zero_le _) dX8_takenBy_70 ?_
        have he := eq_end hI.2.1 (Int32.not_lt.mpr c_21)
        rw [he] at hI
        exact ⟨⟨_, rfl, Or.inl ⟨hI.1, Int32.le_refl _, by rw [← hI.2.2.1]; exact c_62, hI.2.2.2⟩⟩, rfl⟩
    · refine h_iload C 3 dX8_takenBy_24 rfl ?_
      refine h_iload_n C 2 dX8_takenBy_26 rfl rfl ?_
      refine h_icmp_ne C 33 dX8_takenBy_27 (by decide) (fun c_27 => ?_) (fun c_27 => ?_)
      · refine h_aload_n C 0 dX8_takenBy_33 rfl rfl ?_
        refine h_iload C 3 dX8_takenBy_34 rfl ?_
        refine h_iload C 4 dX8_takenBy_36 rfl ?_
        refine h_bipush C 6 dX8_takenBy_38 (by decide) ?_
        refine h_irem C dX8_takenBy_40 (by decide) ?_
        refine h_callV C (m_X8_after hY hs0 hs1) caX8_39 kX8 (ty_26 hY) ⟨by decide, by decide, by decide, by decide⟩ rfl rfl (Nat.le_of_ble_eq_true rfl) dX8_takenBy_41 ?_
        rintro v σ' ⟨rfl, h2⟩; rw [h2]; clear h2
        show hW _ _ _ _ _ _ _ _ _ _ _ _ _ 44 [(0, .ref (ad G 26)), (2, .int n), (3, .int (allOf σ)), (4, .int d), (5, .int x), (6, .int i)] [.int (AFT σ d (x - x / 6 * 6))] σ 0 0
        refine h_istore C [(4, .int (AFT σ d (x - x / 6 * 6))), (0, .ref (ad G 26)), (2, .int n), (3, .int (allOf σ)), (5, .int x), (6, .int i)] dX8_takenBy_44 (by decide) rfl ?_
        refine h_iload C 4 dX8_takenBy_46 rfl ?_
        refine h_bipush C 6 dX8_takenBy_48 (by decide) ?_
        refine h_idiv C dX8_takenBy_50 (by decide) ?_
        refine h_istore C [(5, .int (x / 6)), (4, .int (AFT σ d (x - x / 6 * 6))), (0, .ref (ad G 26)), (2, .int n), (3, .int (allOf σ)), (6, .int i)] dX8_takenBy_51 (by decide) rfl ?_
        refine h_iinc C [(6, .int (i + 1)), (5, .int (x / 6)), (4, .int (AFT σ d (x - x / 6 * 6))), (0, .ref (ad G 26)), (2, .int n), (3, .int (allOf σ))] 5 (i + 1) dX8_takenBy_53 rfl rfl (by decide) rfl ?_
        refine h_goto C 18 dX8_takenBy_56 (by decide) ?_
        refine h_sub [3, 4, 5, 2, 1, 0] rfl ?_
        refine ih ((i + 1), (AFT σ d (x - x / 6 * 6)), (x / 6)) ?_ ?_
        · have hlt : i < n := Int32.not_le.mp c_21
          refine ⟨(le_succ hI.1 hlt).1, (le_succ hI.1 hlt).2, ?_, all_succ hI.1 hlt hI.2.2.2 (by rw [← hI.2.2.1]; exact c_27)⟩
          rw [tn_succ hI.1 hlt]
          show _ = (AFT σ (tdR σ row i.toNatClampNeg).1 _, _)
          rw [← hI.2.2.1]
        · exact tm_lt (Int32.not_le.mp c_21)
      · refine h_iload C 5 dX8_takenBy_30 rfl ?_
        refine h_iret C rfl (Nat.zero_le _) (Nat.zero_le _) dX8_takenBy_32 ?_
        exact ⟨⟨_, rfl, Or.inl ⟨hI.1, Int32.le_of_lt (Int32.not_le.mp c_21), by rw [← hI.2.2.1]; exact c_27, hI.2.2.2⟩⟩, rfl⟩
  · exact ⟨by decide, hn0, by rw [tn_0]; rfl, all_0⟩
