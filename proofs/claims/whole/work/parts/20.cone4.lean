theorem le0_of {a b : Int32} (h : a = b) (g : 0 ≤ b) : 0 ≤ a := by rw [h]; exact g
theorem le30_of {a b : Int32} (h : a = b) (g : b ≤ 30) : a ≤ 30 := by rw [h]; exact g
def planeR (c : Nat) (a b w : Int64) (i : Nat) (s s' : ha_St) : Prop := oneSided (tcr s c a b w i) c s'
def spaceJ (c i : Nat) (j : Nat) (s s' : ha_St) : Prop := pairStep c i (i + 1 + j) s s'
def spaceR (c n : Nat) (i : Nat) (s s' : ha_St) : Prop := chain (spaceJ c i) (n - (i + 1)) s s'
set_option maxRecDepth 100000 in
set_option maxHeartbeats 4000000 in
theorem m_X2_boundLine {G : ha_G} {l : Launch} {σ : ha_St} {c : Nat} (hc : isC σ c) (hn : nOK σ c) (hs0 : 0 ≤ gI σ c 3) (hs1 : gI σ c 3 ≤ 30) : hM G l yX2_boundLine cX2_boundLine 1 none { frames := 2, cells := 0, slots := 0, locals := 52 } [.ref (ad G c)] σ (fun v σ' => v = none ∧ oneSided (lineIn σ c) c σ') := by
  have hz : gI σ c 3 = gI σ c 3 := rfl
  refine hM_ofF [(0, .ref (ad G c))] (by decide +kernel) (Nat.le_of_ble_eq_true rfl) rfl ?_
  intro p e s m args below meth c0 C hin
  refine h_aload_n C 0 dX2_boundLine_0 rfl rfl ?_
  refine h_lconst C 0 dX2_boundLine_1 rfl ?_
  refine h_aload_n C 0 dX2_boundLine_2 rfl rfl ?_
  refine gfX2_18 C hc.1 dX2_boundLine_3 ?_
  refine h_tref (b := (c + 3)) hc.2.2.2.1.2.2 ?_
  refine h_iconst C 0 dX2_boundLine_6 (by decide) ?_
  refine h_lald C hc.2.1.2.2 (vp32 (N := 30) (by decide) (by decide) (by decide)) dX2_boundLine_7 ?_
  refine h_aload_n C 0 dX2_boundLine_8 rfl rfl ?_
  refine gfX2_15 C hc.1 dX2_boundLine_9 ?_
  refine h_tref (b := (c + 2)) hc.2.2.2.1.2.1 ?_
  refine h_iconst C 0 dX2_boundLine_12 (by decide) ?_
  refine h_lald C hc.2.1.2.1 (vp32 (N := 30) (by decide) (by decide) (by decide)) dX2_boundLine_13 ?_
  refine h_lneg C dX2_boundLine_14 ?_
  refine h_callV C (m_X2_boundBoth hc hn.1) caX2_75 kX2 hc.1 ⟨by decide, by decide, by decide, by decide⟩ rfl rfl (Nat.le_of_ble_eq_true rfl) dX2_boundLine_15 ?_
  rintro v σ' ⟨rfl, h2⟩; rw [h2]; clear h2
  obtain ⟨τ1, eτ1⟩ : ∃ z, z = (bb σ c 0 (gL σ (c + 3) (Int32.toNatClampNeg 0)) (-(gL σ (c + 2) (Int32.toNatClampNeg 0)))) := ⟨_, rfl⟩
  rw [show bonce (bonce σ c 0 (gL σ (c + 3) (Int32.toNatClampNeg 0)) (-(gL σ (c + 2) (Int32.toNatClampNeg 0)))) c (-0) (-(gL σ (c + 3) (Int32.toNatClampNeg 0))) (-(-(gL σ (c + 2) (Int32.toNatClampNeg 0)))) = τ1 from eτ1.symm]
  show hW _ _ _ _ _ _ _ _ _ _ _ _ _ 18 [(0, .ref (ad G c))] [] τ1 0 0
  have hc : isC τ1 c := by rw [eτ1]; exact frC_bb.isC hc
  have hn : nOK τ1 c := by rw [eτ1]; exact nOK_bb hn
  have hz : gI τ1 c 3 = gI σ c 3 := by rw [eτ1]; exact frC_bb.2.2.2.2.2.trans hz
  refine h_aload_n C 0 dX2_boundLine_18 rfl rfl ?_
  refine h_aload_n C 0 dX2_boundLine_19 rfl rfl ?_
  refine gfX2_18 C hc.1 dX2_boundLine_20 ?_
  refine h_tref (b := (c + 3)) hc.2.2.2.1.2.2 ?_
  refine h_iconst C 0 dX2_boundLine_23 (by decide) ?_
  refine h_lald C hc.2.1.2.2 (vp32 (N := 30) (by decide) (by decide) (by decide)) dX2_boundLine_24 ?_
  refine h_lneg C dX2_boundLine_25 ?_
  refine h_lconst C 0 dX2_boundLine_26 rfl ?_
  refine h_aload_n C 0 dX2_boundLine_27 rfl rfl ?_
  refine gfX2_9 C hc.1 dX2_boundLine_28 ?_
  refine h_tref (b := (c + 1)) hc.2.2.2.1.1 ?_
  refine h_iconst C 0 dX2_boundLine_31 (by decide) ?_
  refine h_lald C hc.2.1.1 (vp32 (N := 30) (by decide) (by decide) (by decide)) dX2_boundLine_32 ?_
  refine h_callV C (m_X2_boundBoth hc hn.1) caX2_75 kX2 hc.1 ⟨by decide, by decide, by decide, by decide⟩ rfl rfl (Nat.le_of_ble_eq_true rfl) dX2_boundLine_33 ?_
  rintro v σ' ⟨rfl, h2⟩; rw [h2]; clear h2
  obtain ⟨τ2, eτ2⟩ : ∃ z, z = (bb τ1 c (-(gL τ1 (c + 3) (Int32.toNatClampNeg 0))) 0 (gL τ1 (c + 1) (Int32.toNatClampNeg 0))) := ⟨_, rfl⟩
  rw [show bonce (bonce τ1 c (-(gL τ1 (c + 3) (Int32.toNatClampNeg 0))) 0 (gL τ1 (c + 1) (Int32.toNatClampNeg 0))) c (-(-(gL τ1 (c + 3) (Int32.toNatClampNeg 0)))) (-0) (-(gL τ1 (c + 1) (Int32.toNatClampNeg 0))) = τ2 from eτ2.symm]
  show hW _ _ _ _ _ _ _ _ _ _ _ _ _ 36 [(0, .ref (ad G c))] [] τ2 0 0
  have hc : isC τ2 c := by rw [eτ2]; exact frC_bb.isC hc
  have hn : nOK τ2 c := by rw [eτ2]; exact nOK_bb hn
  have hz : gI τ2 c 3 = gI σ c 3 := by rw [eτ2]; exact frC_bb.2.2.2.2.2.trans hz
  refine h_aload_n C 0 dX2_boundLine_36 rfl rfl ?_
  refine h_aload_n C 0 dX2_boundLine_37 rfl rfl ?_
  refine gfX2_15 C hc.1 dX2_boundLine_38 ?_
  refine h_tref (b := (c + 2)) hc.2.2.2.1.2.1 ?_
  refine h_iconst C 0 dX2_boundLine_41 (by decide) ?_
  refine h_lald C hc.2.1.2.1 (vp32 (N := 30) (by decide) (by decide) (by decide)) dX2_boundLine_42 ?_
  refine h_aload_n C 0 dX2_boundLine_43 rfl rfl ?_
  refine gfX2_9 C hc.1 dX2_boundLine_44 ?_
  refine h_tref (b := (c + 1)) hc.2.2.2.1.1 ?_
  refine h_iconst C 0 dX2_boundLine_47 (by decide) ?_
  refine h_lald C hc.2.1.1 (vp32 (N := 30) (by decide) (by decide) (by decide)) dX2_boundLine_48 ?_
  refine h_lneg C dX2_boundLine_49 ?_
  refine h_lconst C 0 dX2_boundLine_50 rfl ?_
  refine h_callV C (m_X2_boundBoth hc hn.1) caX2_75 kX2 hc.1 ⟨by decide, by decide, by decide, by decide⟩ rfl rfl (Nat.le_of_ble_eq_true rfl) dX2_boundLine_51 ?_
  rintro v σ' ⟨rfl, h2⟩; rw [h2]; clear h2
  obtain ⟨τ3, eτ3⟩ : ∃ z, z = (bb τ2 c (gL τ2 (c + 2) (Int32.toNatClampNeg 0)) (-(gL τ2 (c + 1) (Int32.toNatClampNeg 0))) 0) := ⟨_, rfl⟩
  rw [show bonce (bonce τ2 c (gL τ2 (c + 2) (Int32.toNatClampNeg 0)) (-(gL τ2 (c + 1) (Int32.toNatClampNeg 0))) 0) c (-(gL τ2 (c + 2) (Int32.toNatClampNeg 0))) (-(-(gL τ2 (c + 1) (Int32.toNatClampNeg 0)))) (-0) = τ3 from eτ3.symm]
  show hW _ _ _ _ _ _ _ _ _ _ _ _ _ 54 [(0, .ref (ad G c))] [] τ3 0 0
  have hc : isC τ3 c := by rw [eτ3]; exact frC_bb.isC hc
  have hn : nOK τ3 c := by rw [eτ3]; exact nOK_bb hn
  have hz : gI τ3 c 3 = gI σ c 3 := by rw [eτ3]; exact frC_bb.2.2.2.2.2.trans hz
  refine h_aload_n C 0 dX2_boundLine_54 rfl rfl ?_
  refine h_aload_n C 0 dX2_boundLine_55 rfl rfl ?_
  refine gfX2_9 C hc.1 dX2_boundLine_56 ?_
  refine h_tref (b := (c + 1)) hc.2.2.2.1.1 ?_
  refine h_iconst C 0 dX2_boundLine_59 (by decide) ?_
  refine h_lald C hc.2.1.1 (vp32 (N := 30) (by decide) (by decide) (by decide)) dX2_boundLine_60 ?_
  refine pfX2_37 C hc.1 dX2_boundLine_61 ?_
  refine h_aload_n C 0 dX2_boundLine_64 rfl rfl ?_
  refine h_aload_n C 0 dX2_boundLine_65 rfl rfl ?_
  refine gfX2_15 C hc.1 dX2_boundLine_66 ?_
  refine h_tref (b := (c + 2)) hc.2.2.2.1.2.1 ?_
  refine h_iconst C 0 dX2_boundLine_69 (by decide) ?_
  refine h_lald C hc.2.1.2.1 (vp32 (N := 30) (by decide) (by decide) (by decide)) dX2_boundLine_70 ?_
  refine pfX2_41 C hc.1 dX2_boundLine_71 ?_
  refine h_aload_n C 0 dX2_boundLine_74 rfl rfl ?_
  refine h_aload_n C 0 dX2_boundLine_75 rfl rfl ?_
  refine gfX2_18 C hc.1 dX2_boundLine_76 ?_
  refine h_tref (b := (c + 3)) hc.2.2.2.1.2.2 ?_
  refine h_iconst C 0 dX2_boundLine_79 (by decide) ?_
  refine h_lald C hc.2.1.2.2 (vp32 (N := 30) (by decide) (by decide) (by decide)) dX2_boundLine_80 ?_
  refine pfX2_44 C hc.1 dX2_boundLine_81 ?_
  refine h_aload_n C 0 dX2_boundLine_84 rfl rfl ?_
  refine h_callV C (m_X2_boundIfOneSided (σ := (sL (sL (sL τ3 c 8 (gL τ3 (c + 1) (Int32.toNatClampNeg 0))) c 9 (gL (sL τ3 c 8 (gL τ3 (c + 1) (Int32.toNatClampNeg 0))) (c + 2) (Int32.toNatClampNeg 0))) c 10 (gL (sL (sL τ3 c 8 (gL τ3 (c + 1) (Int32.toNatClampNeg 0))) c 9 (gL (sL τ3 c 8 (gL τ3 (c + 1) (Int32.toNatClampNeg 0))) (c + 2) (Int32.toNatClampNeg 0))) (c + 3) (Int32.toNatClampNeg 0)))) hc hn.1 (le0_of hz hs0) (le30_of hz hs1)) caX2_92 kX2 hc.1 ⟨by decide, by decide, by decide, by decide⟩ rfl rfl (Nat.le_of_ble_eq_true rfl) dX2_boundLine_85 ?_
  rintro v σ' ⟨rfl, h2⟩
  show hW _ _ _ _ _ _ _ _ _ _ _ _ _ 88 [(0, .ref (ad G c))] [] σ' 0 0
  refine h_vret C rfl (Nat.zero_le _) (Nat.zero_le _) dX2_boundLine_88 ?_
  refine ⟨rfl, ?_⟩
  have e : lineIn σ c = sL (sL (sL τ3 c 8 (gL τ3 (c + 1) (Int32.toNatClampNeg 0))) c 9 (gL (sL τ3 c 8 (gL τ3 (c + 1) (Int32.toNatClampNeg 0))) (c + 2) (Int32.toNatClampNeg 0))) c 10 (gL (sL (sL τ3 c 8 (gL τ3 (c + 1) (Int32.toNatClampNeg 0))) c 9 (gL (sL τ3 c 8 (gL τ3 (c + 1) (Int32.toNatClampNeg 0))) (c + 2) (Int32.toNatClampNeg 0))) (c + 3) (Int32.toNatClampNeg 0)) := by
    subst eτ3; subst eτ2; subst eτ1
    simp [lineIn, line3, set3, cP, cQ, cM, gL_sL, tn_0]
  rw [e]
  exact h2
set_option maxRecDepth 100000 in
set_option maxHeartbeats 4000000 in
theorem m_X2_boundPlane {G : ha_G} {l : Launch} {σ : ha_St} {c : Nat} (hc : isC σ c) (hn : nOK σ c) (hs0 : 0 ≤ gI σ c 3) (hs1 : gI σ c 3 ≤ 30) : hM G l yX2_boundPlane cX2_boundPlane 8 none { frames := 2, cells := 0, slots := 0, locals := 52 } [.ref (ad G c)] σ (fun v σ' => v = none ∧ chain (planeR c (gL σ c 8) (gL σ c 9) (gL σ c 10)) (gI σ c 3).toNatClampNeg (bb σ c (gL σ c 8) (gL σ c 9) (gL σ c 10)) σ') := by
  have hz : gI σ c 3 = gI σ c 3 := rfl
  have hn0 := hn
  have hc0 := hc
  refine hM_ofF [(0, .ref (ad G c))] (by decide +kernel) (Nat.le_of_ble_eq_true rfl) rfl ?_
  intro p e s m args below meth c0 C hin
  refine h_aload_n C 0 dX2_boundPlane_0 rfl rfl ?_
  refine gfX2_37 C hc.1 dX2_boundPlane_1 ?_
  refine h_lstore_n C [(1, .long (gL σ c 8)), (0, .ref (ad G c))] dX2_boundPlane_4 rfl (by decide) rfl ?_
  refine h_aload_n C 1 dX2_boundPlane_5 rfl rfl ?_
  refine gfX2_41 C hc.1 dX2_boundPlane_6 ?_
  refine h_lstore_n C [(3, .long (gL σ c 9)), (1, .long (gL σ c 8)), (0, .ref (ad G c))] dX2_boundPlane_9 rfl (by decide) rfl ?_
  refine h_aload_n C 2 dX2_boundPlane_10 rfl rfl ?_
  refine gfX2_44 C hc.1 dX2_boundPlane_11 ?_
  refine h_lstore C [(5, .long (gL σ c 10)), (3, .long (gL σ c 9)), (1, .long (gL σ c 8)), (0, .ref (ad G c))] dX2_boundPlane_14 (by decide) rfl ?_
  refine h_aload_n C 3 dX2_boundPlane_16 rfl rfl ?_
  refine h_lload_n C 2 dX2_boundPlane_17 rfl rfl ?_
  refine h_lload_n C 1 dX2_boundPlane_18 rfl rfl ?_
  refine h_lload C 0 dX2_boundPlane_19 rfl ?_
  refine h_callV C (m_X2_boundBoth hc hn.1) caX2_75 kX2 hc.1 ⟨by decide, by decide, by decide, by decide⟩ rfl rfl (Nat.le_of_ble_eq_true rfl) dX2_boundPlane_21 ?_
  rintro v σ' ⟨rfl, h2⟩; rw [h2]; clear h2
  obtain ⟨τ1, eτ1⟩ : ∃ z, z = (bb σ c (gL σ c 8) (gL σ c 9) (gL σ c 10)) := ⟨_, rfl⟩
  rw [show bonce (bonce σ c (gL σ c 8) (gL σ c 9) (gL σ c 10)) c (-(gL σ c 8)) (-(gL σ c 9)) (-(gL σ c 10)) = τ1 from eτ1.symm]
  show hW _ _ _ _ _ _ _ _ _ _ _ _ _ 24 [(5, .long (gL σ c 10)), (3, .long (gL σ c 9)), (1, .long (gL σ c 8)), (0, .ref (ad G c))] [] τ1 0 0
  have hc : isC τ1 c := by rw [eτ1]; exact frC_bb.isC hc
  have hn : nOK τ1 c := by rw [eτ1]; exact nOK_bb hn
  have hz : gI τ1 c 3 = gI σ c 3 := by rw [eτ1]; exact frC_bb.2.2.2.2.2.trans hz
  refine h_iconst C 0 dX2_boundPlane_24 (by decide) ?_
  refine h_istore C [(7, .int 0), (5, .long (gL σ c 10)), (3, .long (gL σ c 9)), (1, .long (gL σ c 8)), (0, .ref (ad G c))] dX2_boundPlane_25 (by decide) rfl ?_
  refine h_sub [4, 3, 2, 1, 0] rfl ?_
  refine h_loop (α := Int32 × ha_St) (fun (i, σ1) => 0 ≤ i ∧ i ≤ gI σ c 3 ∧ chain (planeR c (gL σ c 8) (gL σ c 9) (gL σ c 10)) i.toNatClampNeg (bb σ c (gL σ c 8) (gL σ c 9) (gL σ c 10)) σ1 ∧ frC c σ σ1 ∧ nOK σ1 c) (fun (i, σ1) => tm (gI σ c 3) i) (fun (i, σ1) => [(0, .ref (ad G c)), (1, .long (gL σ c 8)), (3, .long (gL σ c 9)), (5, .long (gL σ c 10)), (7, .int i)]) (fun (i, σ1) => []) (fun (i, σ1) => σ1) (fun (i, σ1) => 0) (fun (i, σ1) => 0) ?_ (0, τ1) ?_
  · rintro ⟨i, σ1⟩ hI ih
    show hW _ _ _ _ _ _ _ _ _ _ _ _ _ 27 [(0, .ref (ad G c)), (1, .long (gL σ c 8)), (3, .long (gL σ c 9)), (5, .long (gL σ c 10)), (7, .int i)] [] σ1 0 0
    have hc : isC σ1 c := hI.2.2.2.1.isC hc0
    have hz : gI σ1 c 3 = gI σ c 3 := hI.2.2.2.1.2.2.2.2.2
    have hn : nOK σ1 c := hI.2.2.2.2
    refine h_iload C 4 dX2_boundPlane_27 rfl ?_
    refine h_aload_n C 0 dX2_boundPlane_29 rfl rfl ?_
    refine gfX2_21 C hc.1 dX2_boundPlane_30 ?_
    refine h_icmp_ge C 56 dX2_boundPlane_33 (by decide) (fun c_33 => ?_) (fun c_33 => ?_)
    · refine h_vret C rfl (Nat.zero_le _) (Nat.zero_le _) dX2_boundPlane_56 ?_
      refine ⟨rfl, ?_⟩
      have he := eq_end hI.2.1 (by rw [← hz]; exact Int32.not_lt.mpr c_33)
      rw [← he]
      exact hI.2.2.1
    · refine h_aload_n C 0 dX2_boundPlane_36 rfl rfl ?_
      refine h_lload_n C 1 dX2_boundPlane_37 rfl rfl ?_
      refine h_lload_n C 2 dX2_boundPlane_38 rfl rfl ?_
      refine h_lload C 3 dX2_boundPlane_39 rfl ?_
      refine h_iload C 4 dX2_boundPlane_41 rfl ?_
      refine h_callV C (m_X2_takeCross hc hI.1 (Int32.lt_of_lt_of_le (Int32.not_le.mp c_33) (le30_of hz hs1))) caX2_59 kX2 hc.1 ⟨by decide, by decide, by decide, by decide⟩ rfl rfl (Nat.le_of_ble_eq_true rfl) dX2_boundPlane_43 ?_
      rintro v σ' ⟨rfl, h2⟩; rw [h2]; clear h2
      show hW _ _ _ _ _ _ _ _ _ _ _ _ _ 46 [(0, .ref (ad G c)), (1, .long (gL σ c 8)), (3, .long (gL σ c 9)), (5, .long (gL σ c 10)), (7, .int i)] [] (tcr σ1 c (gL σ c 8) (gL σ c 9) (gL σ c 10) i.toNatClampNeg) 0 0
      refine h_aload_n C 0 dX2_boundPlane_46 rfl rfl ?_
      refine h_callV C (m_X2_boundIfOneSided (σ := (tcr σ1 c (gL σ c 8) (gL σ c 9) (gL σ c 10) i.toNatClampNeg)) hc hn.1 (le0_of hz hs0) (le30_of hz hs1)) caX2_92 kX2 hc.1 ⟨by decide, by decide, by decide, by decide⟩ rfl rfl (Nat.le_of_ble_eq_true rfl) dX2_boundPlane_47 ?_
      rintro v σ' ⟨rfl, h2⟩
      show hW _ _ _ _ _ _ _ _ _ _ _ _ _ 50 [(0, .ref (ad G c)), (1, .long (gL σ c 8)), (3, .long (gL σ c 9)), (5, .long (gL σ c 10)), (7, .int i)] [] σ' 0 0
      refine h_iinc C [(7, .int (i + 1)), (0, .ref (ad G c)), (1, .long (gL σ c 8)), (3, .long (gL σ c 9)), (5, .long (gL σ c 10))] 4 (i + 1) dX2_boundPlane_50 rfl rfl (by decide) rfl ?_
      refine h_goto C 27 dX2_boundPlane_53 (by decide) ?_
      refine h_sub [1, 2, 3, 4, 0] rfl ?_
      refine ih ((i + 1), σ') ?_ ?_
      · have hlt : i < gI σ c 3 := by rw [← hz]; exact Int32.not_le.mp c_33
        refine ⟨(le_succ hI.1 hlt).1, (le_succ hI.1 hlt).2, ?_, hI.2.2.2.1.tr (frC_tcr.tr (frC_one h2)), nOK_one h2 hI.2.2.2.2⟩
        rw [tn_succ hI.1 hlt]
        exact ⟨σ1, hI.2.2.1, h2⟩
      · rw [← hz]
        exact tm_lt (Int32.not_le.mp c_33)
  · rw [eτ1]
    exact ⟨by decide, hs0, by rw [tn_0]; rfl, frC_bb, nOK_bb hn0⟩
set_option maxRecDepth 100000 in
set_option maxHeartbeats 4000000 in
theorem m_X2_boundSpace {G : ha_G} {l : Launch} {σ : ha_St} {c : Nat} (hc : isC σ c) (hn : nOK σ c) (hs0 : 0 ≤ gI σ c 3) (hs1 : gI σ c 3 ≤ 30) : hM G l yX2_boundSpace cX2_boundSpace 3 none { frames := 2, cells := 0, slots := 0, locals := 51 } [.ref (ad G c)] σ (fun v σ' => v = none ∧ chain (spaceR c (gI σ c 3).toNatClampNeg) (gI σ c 3).toNatClampNeg σ σ') := by
  have hc0 := hc
  refine hM_ofF [(0, .ref (ad G c))] (by decide +kernel) (Nat.le_of_ble_eq_true rfl) rfl ?_
  intro p e s m args below meth c0 C hin
  refine h_iconst C 0 dX2_boundSpace_0 (by decide) ?_
  refine h_istore_n C [(1, .int 0), (0, .ref (ad G c))] dX2_boundSpace_1 rfl (by decide) rfl ?_
  refine h_sub [1, 0] rfl ?_
  refine h_loop (α := Int32 × ha_St) (fun (i, σ1) => 0 ≤ i ∧ i ≤ gI σ c 3 ∧ chain (spaceR c (gI σ c 3).toNatClampNeg) i.toNatClampNeg σ σ1 ∧ frC c σ σ1 ∧ nOK σ1 c) (fun (i, σ1) => tm (gI σ c 3) i) (fun (i, σ1) => [(0, .ref (ad G c)), (1, .int i)]) (fun (i, σ1) => []) (fun (i, σ1) => σ1) (fun (i, σ1) => 0) (fun (i, σ1) => 0) ?_ (0, σ) ?_
  · rintro ⟨i, σ1⟩ hI ih
    show hW _ _ _ _ _ _ _ _ _ _ _ _ _ 2 [(0, .ref (ad G c)), (1, .int i)] [] σ1 0 0
    have hO := hI
    have hc : isC σ1 c := hI.2.2.2.1.isC hc0
    have hz : gI σ1 c 3 = gI σ c 3 := hI.2.2.2.1.2.2.2.2.2
    have hn : nOK σ1 c := hI.2.2.2.2
    refine h_iload_n C 1 dX2_boundSpace_2 rfl rfl ?_
    refine h_aload_n C 0 dX2_boundSpace_3 rfl rfl ?_
    refine gfX2_21 C hc.1 dX2_boundSpace_4 ?_
    refine h_icmp_ge C 100 dX2_boundSpace_7 (by decide) (fun c_7 => ?_) (fun c_7 => ?_)
    · refine h_vret C rfl (Nat.zero_le _) (Nat.zero_le _) dX2_boundSpace_100 ?_
      refine ⟨rfl, ?_⟩
      have he := eq_end hI.2.1 (by rw [← hz]; exact Int32.not_lt.mpr c_7)
      have hq := hI.2.2.1
      rw [he] at hq
      exact hq
    · have hlt : i < gI σ c 3 := by rw [← hz]; exact Int32.not_le.mp c_7
      have ihO := ih
      refine h_iload_n C 1 dX2_boundSpace_10 rfl rfl ?_
      refine h_iconst C 1 dX2_boundSpace_11 (by decide) ?_
      refine h_iadd C dX2_boundSpace_12 ?_
      refine h_istore_n C [(2, .int (i + 1)), (0, .ref (ad G c)), (1, .int i)] dX2_boundSpace_13 rfl (by decide) rfl ?_
      refine h_sub [1, 2, 0] rfl ?_
      refine h_loop (α := Int32 × ha_St) (fun (j, σ2) => i + 1 ≤ j ∧ j ≤ gI σ c 3 ∧ chain (spaceJ c i.toNatClampNeg) (j.toNatClampNeg - (i.toNatClampNeg + 1)) σ1 σ2 ∧ frC c σ σ2 ∧ nOK σ2 c) (fun (j, σ2) => tm (gI σ c 3) j) (fun (j, σ2) => [(0, .ref (ad G c)), (1, .int i), (2, .int j)]) (fun (j, σ2) => []) (fun (j, σ2) => σ2) (fun (j, σ2) => 0) (fun (j, σ2) => 0) ?_ ((i + 1), σ1) ?_
      · rintro ⟨j, σ2⟩ hI ih
        show hW _ _ _ _ _ _ _ _ _ _ _ _ _ 14 [(0, .ref (ad G c)), (1, .int i), (2, .int j)] [] σ2 0 0
        have hc : isC σ2 c := hI.2.2.2.1.isC hc0
        have hz : gI σ2 c 3 = gI σ c 3 := hI.2.2.2.1.2.2.2.2.2
        have hn : nOK σ2 c := hI.2.2.2.2
        refine h_iload_n C 2 dX2_boundSpace_14 rfl rfl ?_
        refine h_aload_n C 0 dX2_boundSpace_15 rfl rfl ?_
        refine gfX2_21 C hc.1 dX2_boundSpace_16 ?_
        refine h_icmp_ge C 94 dX2_boundSpace_19 (by decide) (fun c_19 => ?_) (fun c_19 => ?_)
        · refine h_iinc C [(1, .int (i + 1)), (0, .ref (ad G c)), (2, .int j)] 1 (i + 1) dX2_boundSpace_94 rfl rfl (by decide) rfl ?_
          refine h_goto C 2 dX2_boundSpace_97 (by decide) ?_
          refine h_sub [1, 0] rfl ?_
          refine ihO ((i + 1), σ2) ?_ ?_
          · have hje := eq_end hI.2.1 (by rw [← hz]; exact Int32.not_lt.mpr c_19)
            refine ⟨(le_succ hO.1 hlt).1, (le_succ hO.1 hlt).2, ?_, hI.2.2.2.1, hI.2.2.2.2⟩
            rw [tn_succ hO.1 hlt]
            refine ⟨σ1, hO.2.2.1, ?_⟩
            have hq := hI.2.2.1
            rw [hje] at hq
            exact hq
          · exact tm_lt hlt
        · refine h_aload_n C 0 dX2_boundSpace_22 rfl rfl ?_
          refine h_iload_n C 1 dX2_boundSpace_23 rfl rfl ?_
          refine h_iload_n C 2 dX2_boundSpace_24 rfl rfl ?_
          refine h_callV C (m_X2_isBoundBy hc hn hO.1 (Int32.lt_of_lt_of_le hlt hs1) (by grind) (Int32.lt_of_lt_of_le (Int32.not_le.mp c_19) (le30_of hz hs1))) caX2_95 kX2 hc.1 ⟨by decide, by decide, by decide, by decide⟩ rfl rfl (Nat.le_of_ble_eq_true rfl) dX2_boundSpace_25 ?_
          rintro v σ' ⟨⟨rb, rfl, hb⟩, h2⟩; rw [h2]; clear h2
          show hW _ _ _ _ _ _ _ _ _ _ _ _ _ 28 [(0, .ref (ad G c)), (1, .int i), (2, .int j)] [.int rb] σ2 0 0
          refine h_if_eq C 34 dX2_boundSpace_28 (by decide) (fun c_28 => ?_) (fun c_28 => ?_)
          · refine h_aload_n C 0 dX2_boundSpace_34 rfl rfl ?_
            refine h_aload_n C 0 dX2_boundSpace_35 rfl rfl ?_
            refine gfX2_9 C hc.1 dX2_boundSpace_36 ?_
            refine h_tref (b := (c + 1)) hc.2.2.2.1.1 ?_
            refine h_iload_n C 1 dX2_boundSpace_39 rfl rfl ?_
            refine h_lald C hc.2.1.1 (vp32 (N := 30) hO.1 (Int32.lt_of_lt_of_le hlt hs1) (by decide)) dX2_boundSpace_40 ?_
            refine h_aload_n C 0 dX2_boundSpace_41 rfl rfl ?_
            refine gfX2_15 C hc.1 dX2_boundSpace_42 ?_
            refine h_tref (b := (c + 2)) hc.2.2.2.1.2.1 ?_
            refine h_iload_n C 1 dX2_boundSpace_45 rfl rfl ?_
            refine h_lald C hc.2.1.2.1 (vp32 (N := 30) hO.1 (Int32.lt_of_lt_of_le hlt hs1) (by decide)) dX2_boundSpace_46 ?_
            refine h_aload_n C 0 dX2_boundSpace_47 rfl rfl ?_
            refine gfX2_18 C hc.1 dX2_boundSpace_48 ?_
            refine h_tref (b := (c + 3)) hc.2.2.2.1.2.2 ?_
            refine h_iload_n C 1 dX2_boundSpace_51 rfl rfl ?_
            refine h_lald C hc.2.1.2.2 (vp32 (N := 30) hO.1 (Int32.lt_of_lt_of_le hlt hs1) (by decide)) dX2_boundSpace_52 ?_
            refine h_iload_n C 2 dX2_boundSpace_53 rfl rfl ?_
            refine h_callV C (m_X2_takeCross hc (by grind) (Int32.lt_of_lt_of_le (Int32.not_le.mp c_19) (le30_of hz hs1))) caX2_59 kX2 hc.1 ⟨by decide, by decide, by decide, by decide⟩ rfl rfl (Nat.le_of_ble_eq_true rfl) dX2_boundSpace_54 ?_
            rintro v σ' ⟨rfl, h2⟩; rw [h2]; clear h2
            show hW _ _ _ _ _ _ _ _ _ _ _ _ _ 57 [(0, .ref (ad G c)), (1, .int i), (2, .int j)] [] (tcr σ2 c (cP σ2 c i.toNatClampNeg) (cQ σ2 c i.toNatClampNeg) (cM σ2 c i.toNatClampNeg) j.toNatClampNeg) 0 0
            refine h_aload_n C 0 dX2_boundSpace_57 rfl rfl ?_
            refine gfX2_37 C hc.1 dX2_boundSpace_58 ?_
            refine h_lconst C 0 dX2_boundSpace_61 rfl ?_
            refine h_lcmp C dX2_boundSpace_62 ?_
            refine h_if_ne C 84 dX2_boundSpace_63 (by decide) (fun c_63 => ?_) (fun c_63 => ?_)
            · refine h_aload_n C 0 dX2_boundSpace_84 rfl rfl ?_
              refine h_callV C (m_X2_boundIfOneSided (σ := (tcr σ2 c (cP σ2 c i.toNatClampNeg) (cQ σ2 c i.toNatClampNeg) (cM σ2 c i.toNatClampNeg) j.toNatClampNeg)) hc hn.1 (le0_of hz hs0) (le30_of hz hs1)) caX2_92 kX2 hc.1 ⟨by decide, by decide, by decide, by decide⟩ rfl rfl (Nat.le_of_ble_eq_true rfl) dX2_boundSpace_85 ?_
              rintro v σ' ⟨rfl, h2⟩
              show hW _ _ _ _ _ _ _ _ _ _ _ _ _ 88 [(0, .ref (ad G c)), (1, .int i), (2, .int j)] [] σ' 0 0
              refine h_iinc C [(2, .int (j + 1)), (0, .ref (ad G c)), (1, .int i)] 2 (j + 1) dX2_boundSpace_88 rfl rfl (by decide) rfl ?_
              refine h_goto C 14 dX2_boundSpace_91 (by decide) ?_
              refine h_sub [1, 2, 0] rfl ?_
              refine ih ((j + 1), σ') ?_ ?_
              · have hjl : j < gI σ c 3 := by rw [← hz]; exact Int32.not_le.mp c_19
                have hps : pairStep c i.toNatClampNeg j.toNatClampNeg σ2 σ' := by
                  rcases hb with ⟨e, hb⟩ | ⟨e, hb⟩
                  · first | exact absurd e (by rw [c_28]; decide) | exact Or.inl ⟨hb, rfl⟩
                  · first
                      | exact absurd e c_28
                      | exact Or.inr (Or.inl ⟨hb, by rw [← nrm_tcr]; exact nrm_zer.mpr ⟨lg_eq0.mp c_63, lg_eq0.mp c_72, lg_eq0.mp c_81⟩, rfl⟩)
                      | exact Or.inr (Or.inr ⟨hb, fun q => c_63 (lg_eq0.mpr (nrm_zer.mp (nrm_tcr.trans q)).1), h2⟩)
                      | exact Or.inr (Or.inr ⟨hb, fun q => c_72 (lg_eq0.mpr (nrm_zer.mp (nrm_tcr.trans q)).2.1), h2⟩)
                      | exact Or.inr (Or.inr ⟨hb, fun q => c_81 (lg_eq0.mpr (nrm_zer.mp (nrm_tcr.trans q)).2.2), h2⟩)
                have hj0 : (0 : Int32) ≤ j := by grind
                refine ⟨by grind, (le_succ hj0 hjl).2, ?_, hI.2.2.2.1.tr (frC_pair hps), nOK_pair hps hI.2.2.2.2⟩
                have e1 := tn_succ hj0 hjl
                have e2 : i.toNatClampNeg + 1 ≤ j.toNatClampNeg := by
                  have := tn_le (i := i + 1) (by grind) hI.1
                  rw [tn_succ hO.1 hlt] at this
                  exact this
                rw [e1, show j.toNatClampNeg + 1 - (i.toNatClampNeg + 1) = (j.toNatClampNeg - (i.toNatClampNeg + 1)) + 1 by omega]
                refine ⟨σ2, hI.2.2.1, ?_⟩
                show pairStep c i.toNatClampNeg (i.toNatClampNeg + 1 + (j.toNatClampNeg - (i.toNatClampNeg + 1))) σ2 _
                rw [show i.toNatClampNeg + 1 + (j.toNatClampNeg - (i.toNatClampNeg + 1)) = j.toNatClampNeg by omega]
                exact hps
              · rw [← hz]
                exact tm_lt (Int32.not_le.mp c_19)
            · refine h_aload_n C 0 dX2_boundSpace_66 rfl rfl ?_
              refine gfX2_41 C hc.1 dX2_boundSpace_67 ?_
              refine h_lconst C 0 dX2_boundSpace_70 rfl ?_
              refine h_lcmp C dX2_boundSpace_71 ?_
              refine h_if_ne C 84 dX2_boundSpace_72 (by decide) (fun c_72 => ?_) (fun c_72 => ?_)
              · refine h_aload_n C 0 dX2_boundSpace_84 rfl rfl ?_
                refine h_callV C (m_X2_boundIfOneSided (σ := (tcr σ2 c (cP σ2 c i.toNatClampNeg) (cQ σ2 c i.toNatClampNeg) (cM σ2 c i.toNatClampNeg) j.toNatClampNeg)) hc hn.1 (le0_of hz hs0) (le30_of hz hs1)) caX2_92 kX2 hc.1 ⟨by decide, by decide, by decide, by decide⟩ rfl rfl (Nat.le_of_ble_eq_true rfl) dX2_boundSpace_85 ?_
                rintro v σ' ⟨rfl, h2⟩
                show hW _ _ _ _ _ _ _ _ _ _ _ _ _ 88 [(0, .ref (ad G c)), (1, .int i), (2, .int j)] [] σ' 0 0
                refine h_iinc C [(2, .int (j + 1)), (0, .ref (ad G c)), (1, .int i)] 2 (j + 1) dX2_boundSpace_88 rfl rfl (by decide) rfl ?_
                refine h_goto C 14 dX2_boundSpace_91 (by decide) ?_
                refine h_sub [1, 2, 0] rfl ?_
                refine ih ((j + 1), σ') ?_ ?_
                · have hjl : j < gI σ c 3 := by rw [← hz]; exact Int32.not_le.mp c_19
                  have hps : pairStep c i.toNatClampNeg j.toNatClampNeg σ2 σ' := by
                    rcases hb with ⟨e, hb⟩ | ⟨e, hb⟩
                    · first | exact absurd e (by rw [c_28]; decide) | exact Or.inl ⟨hb, rfl⟩
                    · first
                        | exact absurd e c_28
                        | exact Or.inr (Or.inl ⟨hb, by rw [← nrm_tcr]; exact nrm_zer.mpr ⟨lg_eq0.mp c_63, lg_eq0.mp c_72, lg_eq0.mp c_81⟩, rfl⟩)
                        | exact Or.inr (Or.inr ⟨hb, fun q => c_63 (lg_eq0.mpr (nrm_zer.mp (nrm_tcr.trans q)).1), h2⟩)
                        | exact Or.inr (Or.inr ⟨hb, fun q => c_72 (lg_eq0.mpr (nrm_zer.mp (nrm_tcr.trans q)).2.1), h2⟩)
                        | exact Or.inr (Or.inr ⟨hb, fun q => c_81 (lg_eq0.mpr (nrm_zer.mp (nrm_tcr.trans q)).2.2), h2⟩)
                  have hj0 : (0 : Int32) ≤ j := by grind
                  refine ⟨by grind, (le_succ hj0 hjl).2, ?_, hI.2.2.2.1.tr (frC_pair hps), nOK_pair hps hI.2.2.2.2⟩
                  have e1 := tn_succ hj0 hjl
                  have e2 : i.toNatClampNeg + 1 ≤ j.toNatClampNeg := by
                    have := tn_le (i := i + 1) (by grind) hI.1
                    rw [tn_succ hO.1 hlt] at this
                    exact this
                  rw [e1, show j.toNatClampNeg + 1 - (i.toNatClampNeg + 1) = (j.toNatClampNeg - (i.toNatClampNeg + 1)) + 1 by omega]
                  refine ⟨σ2, hI.2.2.1, ?_⟩
                  show pairStep c i.toNatClampNeg (i.toNatClampNeg + 1 + (j.toNatClampNeg - (i.toNatClampNeg + 1))) σ2 _
                  rw [show i.toNatClampNeg + 1 + (j.toNatClampNeg - (i.toNatClampNeg + 1)) = j.toNatClampNeg by omega]
                  exact hps
                · rw [← hz]
                  exact tm_lt (Int32.not_le.mp c_19)
              · refine h_aload_n C 0 dX2_boundSpace_75 rfl rfl ?_
                refine gfX2_44 C hc.1 dX2_boundSpace_76 ?_
                refine h_lconst C 0 dX2_boundSpace_79 rfl ?_
                refine h_lcmp C dX2_boundSpace_80 ?_
                refine h_if_eq C 88 dX2_boundSpace_81 (by decide) (fun c_81 => ?_) (fun c_81 => ?_)
                · refine h_iinc C [(2, .int (j + 1)), (0, .ref (ad G c)), (1, .int i)] 2 (j + 1) dX2_boundSpace_88 rfl rfl (by decide) rfl ?_
                  refine h_goto C 14 dX2_boundSpace_91 (by decide) ?_
                  refine h_sub [1, 2, 0] rfl ?_
                  refine ih ((j + 1), (tcr σ2 c (cP σ2 c i.toNatClampNeg) (cQ σ2 c i.toNatClampNeg) (cM σ2 c i.toNatClampNeg) j.toNatClampNeg)) ?_ ?_
                  · have hjl : j < gI σ c 3 := by rw [← hz]; exact Int32.not_le.mp c_19
                    have hps : pairStep c i.toNatClampNeg j.toNatClampNeg σ2 (tcr σ2 c (cP σ2 c i.toNatClampNeg) (cQ σ2 c i.toNatClampNeg) (cM σ2 c i.toNatClampNeg) j.toNatClampNeg) := by
                      rcases hb with ⟨e, hb⟩ | ⟨e, hb⟩
                      · first | exact absurd e (by rw [c_28]; decide) | exact Or.inl ⟨hb, rfl⟩
                      · first
                          | exact absurd e c_28
                          | exact Or.inr (Or.inl ⟨hb, by rw [← nrm_tcr]; exact nrm_zer.mpr ⟨lg_eq0.mp c_63, lg_eq0.mp c_72, lg_eq0.mp c_81⟩, rfl⟩)
                          | exact Or.inr (Or.inr ⟨hb, fun q => c_63 (lg_eq0.mpr (nrm_zer.mp (nrm_tcr.trans q)).1), h2⟩)
                          | exact Or.inr (Or.inr ⟨hb, fun q => c_72 (lg_eq0.mpr (nrm_zer.mp (nrm_tcr.trans q)).2.1), h2⟩)
                          | exact Or.inr (Or.inr ⟨hb, fun q => c_81 (lg_eq0.mpr (nrm_zer.mp (nrm_tcr.trans q)).2.2), h2⟩)
                    have hj0 : (0 : Int32) ≤ j := by grind
                    refine ⟨by grind, (le_succ hj0 hjl).2, ?_, hI.2.2.2.1.tr (frC_pair hps), nOK_pair hps hI.2.2.2.2⟩
                    have e1 := tn_succ hj0 hjl
                    have e2 : i.toNatClampNeg + 1 ≤ j.toNatClampNeg := by
                      have := tn_le (i := i + 1) (by grind) hI.1
                      rw [tn_succ hO.1 hlt] at this
                      exact this
                    rw [e1, show j.toNatClampNeg + 1 - (i.toNatClampNeg + 1) = (j.toNatClampNeg - (i.toNatClampNeg + 1)) + 1 by omega]
                    refine ⟨σ2, hI.2.2.1, ?_⟩
                    show pairStep c i.toNatClampNeg (i.toNatClampNeg + 1 + (j.toNatClampNeg - (i.toNatClampNeg + 1))) σ2 _
                    rw [show i.toNatClampNeg + 1 + (j.toNatClampNeg - (i.toNatClampNeg + 1)) = j.toNatClampNeg by omega]
                    exact hps
                  · rw [← hz]
                    exact tm_lt (Int32.not_le.mp c_19)
                · refine h_aload_n C 0 dX2_boundSpace_84 rfl rfl ?_
                  refine h_callV C (m_X2_boundIfOneSided (σ := (tcr σ2 c (cP σ2 c i.toNatClampNeg) (cQ σ2 c i.toNatClampNeg) (cM σ2 c i.toNatClampNeg) j.toNatClampNeg)) hc hn.1 (le0_of hz hs0) (le30_of hz hs1)) caX2_92 kX2 hc.1 ⟨by decide, by decide, by decide, by decide⟩ rfl rfl (Nat.le_of_ble_eq_true rfl) dX2_boundSpace_85 ?_
                  rintro v σ' ⟨rfl, h2⟩
                  show hW _ _ _ _ _ _ _ _ _ _ _ _ _ 88 [(0, .ref (ad G c)), (1, .int i), (2, .int j)] [] σ' 0 0
                  refine h_iinc C [(2, .int (j + 1)), (0, .ref (ad G c)), (1, .int i)] 2 (j + 1) dX2_boundSpace_88 rfl rfl (by decide) rfl ?_
                  refine h_goto C 14 dX2_boundSpace_91 (by decide) ?_
                  refine h_sub [1, 2, 0] rfl ?_
                  refine ih ((j + 1), σ') ?_ ?_
                  · have hjl : j < gI σ c 3 := by rw [← hz]; exact Int32.not_le.mp c_19
                    have hps : pairStep c i.toNatClampNeg j.toNatClampNeg σ2 σ' := by
                      rcases hb with ⟨e, hb⟩ | ⟨e, hb⟩
                      · first | exact absurd e (by rw [c_28]; decide) | exact Or.inl ⟨hb, rfl⟩
                      · first
                          | exact absurd e c_28
                          | exact Or.inr (Or.inl ⟨hb, by rw [← nrm_tcr]; exact nrm_zer.mpr ⟨lg_eq0.mp c_63, lg_eq0.mp c_72, lg_eq0.mp c_81⟩, rfl⟩)
                          | exact Or.inr (Or.inr ⟨hb, fun q => c_63 (lg_eq0.mpr (nrm_zer.mp (nrm_tcr.trans q)).1), h2⟩)
                          | exact Or.inr (Or.inr ⟨hb, fun q => c_72 (lg_eq0.mpr (nrm_zer.mp (nrm_tcr.trans q)).2.1), h2⟩)
                          | exact Or.inr (Or.inr ⟨hb, fun q => c_81 (lg_eq0.mpr (nrm_zer.mp (nrm_tcr.trans q)).2.2), h2⟩)
                    have hj0 : (0 : Int32) ≤ j := by grind
                    refine ⟨by grind, (le_succ hj0 hjl).2, ?_, hI.2.2.2.1.tr (frC_pair hps), nOK_pair hps hI.2.2.2.2⟩
                    have e1 := tn_succ hj0 hjl
                    have e2 : i.toNatClampNeg + 1 ≤ j.toNatClampNeg := by
                      have := tn_le (i := i + 1) (by grind) hI.1
                      rw [tn_succ hO.1 hlt] at this
                      exact this
                    rw [e1, show j.toNatClampNeg + 1 - (i.toNatClampNeg + 1) = (j.toNatClampNeg - (i.toNatClampNeg + 1)) + 1 by omega]
                    refine ⟨σ2, hI.2.2.1, ?_⟩
                    show pairStep c i.toNatClampNeg (i.toNatClampNeg + 1 + (j.toNatClampNeg - (i.toNatClampNeg + 1))) σ2 _
                    rw [show i.toNatClampNeg + 1 + (j.toNatClampNeg - (i.toNatClampNeg + 1)) = j.toNatClampNeg by omega]
                    exact hps
                  · rw [← hz]
                    exact tm_lt (Int32.not_le.mp c_19)
          · refine h_goto C 88 dX2_boundSpace_31 (by decide) ?_
            refine h_iinc C [(2, .int (j + 1)), (0, .ref (ad G c)), (1, .int i)] 2 (j + 1) dX2_boundSpace_88 rfl rfl (by decide) rfl ?_
            refine h_goto C 14 dX2_boundSpace_91 (by decide) ?_
            refine h_sub [1, 2, 0] rfl ?_
            refine ih ((j + 1), σ2) ?_ ?_
            · have hjl : j < gI σ c 3 := by rw [← hz]; exact Int32.not_le.mp c_19
              have hps : pairStep c i.toNatClampNeg j.toNatClampNeg σ2 σ2 := by
                rcases hb with ⟨e, hb⟩ | ⟨e, hb⟩
                · first | exact absurd e (by rw [c_28]; decide) | exact Or.inl ⟨hb, rfl⟩
                · first
                    | exact absurd e c_28
                    | exact Or.inr (Or.inl ⟨hb, by rw [← nrm_tcr]; exact nrm_zer.mpr ⟨lg_eq0.mp c_63, lg_eq0.mp c_72, lg_eq0.mp c_81⟩, rfl⟩)
                    | exact Or.inr (Or.inr ⟨hb, fun q => c_63 (lg_eq0.mpr (nrm_zer.mp (nrm_tcr.trans q)).1), h2⟩)
                    | exact Or.inr (Or.inr ⟨hb, fun q => c_72 (lg_eq0.mpr (nrm_zer.mp (nrm_tcr.trans q)).2.1), h2⟩)
                    | exact Or.inr (Or.inr ⟨hb, fun q => c_81 (lg_eq0.mpr (nrm_zer.mp (nrm_tcr.trans q)).2.2), h2⟩)
              have hj0 : (0 : Int32) ≤ j := by grind
              refine ⟨by grind, (le_succ hj0 hjl).2, ?_, hI.2.2.2.1.tr (frC_pair hps), nOK_pair hps hI.2.2.2.2⟩
              have e1 := tn_succ hj0 hjl
              have e2 : i.toNatClampNeg + 1 ≤ j.toNatClampNeg := by
                have := tn_le (i := i + 1) (by grind) hI.1
                rw [tn_succ hO.1 hlt] at this
                exact this
              rw [e1, show j.toNatClampNeg + 1 - (i.toNatClampNeg + 1) = (j.toNatClampNeg - (i.toNatClampNeg + 1)) + 1 by omega]
              refine ⟨σ2, hI.2.2.1, ?_⟩
              show pairStep c i.toNatClampNeg (i.toNatClampNeg + 1 + (j.toNatClampNeg - (i.toNatClampNeg + 1))) σ2 _
              rw [show i.toNatClampNeg + 1 + (j.toNatClampNeg - (i.toNatClampNeg + 1)) = j.toNatClampNeg by omega]
              exact hps
            · rw [← hz]
              exact tm_lt (Int32.not_le.mp c_19)
      · have e := tn_succ hO.1 hlt
        refine ⟨Int32.le_refl _, (le_succ hO.1 hlt).2, ?_, hO.2.2.2.1, hO.2.2.2.2⟩
        rw [e, Nat.sub_self]
        rfl
  · exact ⟨by decide, hs0, by rw [tn_0]; rfl, frC.rf, hn⟩
def bndQ (σ : ha_St) (c : Nat) (σ' : ha_St) : Prop := ∃ (r : Int32) (σ1 : ha_St), measQ (sI σ c 7 0) c r σ1 ∧ ((r = 0 ∧ σ' = bb (bb (bb σ1 c 1 0 0) c 0 1 0) c 0 0 1) ∨ (r = 1 ∧ oneSided (lineIn σ1 c) c σ') ∨
  (r = 2 ∧ chain (planeR c (gL σ1 c 8) (gL σ1 c 9) (gL σ1 c 10)) (gI σ1 c 3).toNatClampNeg (bb σ1 c (gL σ1 c 8) (gL σ1 c 9) (gL σ1 c 10)) σ') ∨ (r = 3 ∧ chain (spaceR c (gI σ1 c 3).toNatClampNeg) (gI σ1 c 3).toNatClampNeg σ1 σ'))
set_option maxRecDepth 100000 in
set_option maxHeartbeats 4000000 in
theorem m_X2_bound {G : ha_G} {l : Launch} {σ : ha_St} {c : Nat} (hc : isC σ c) (hs0 : 0 ≤ gI σ c 3) (hs1 : gI σ c 3 ≤ 30) : hM G l yX2_bound cX2_bound 1 none { frames := 3, cells := 0, slots := 0, locals := 79 } [.ref (ad G c)] σ (fun v σ' => v = none ∧ bndQ σ c σ') := by
  have hz0 : gI (sI σ c 7 0) c 3 = gI σ c 3 := by rw [gI_sI, if_neg (by omega)]
  have hs0' : 0 ≤ gI (sI σ c 7 0) c 3 := le0_of hz0 hs0
  have hs1' : gI (sI σ c 7 0) c 3 ≤ 30 := le30_of hz0 hs1
  have hn0 : nOK (sI σ c 7 0) c := by unfold nOK; rw [gI_sI, if_pos ⟨rfl, rfl⟩]; decide
  refine hM_ofF [(0, .ref (ad G c))] (by decide +kernel) (Nat.le_of_ble_eq_true rfl) rfl ?_
  intro p e s m args below meth c0 C hin
  refine h_aload_n C 0 dX2_bound_0 rfl rfl ?_
  refine h_iconst C 0 dX2_bound_1 (by decide) ?_
  refine pfX2_34 C hc.1 dX2_bound_2 ?_
  refine h_aload_n C 0 dX2_bound_5 rfl rfl ?_
  refine h_callV C (m_X2_measured (σ := (sI σ c 7 0)) hc hs0' hs1') caX2_71 kX2 hc.1 ⟨by decide, by decide, by decide, by decide⟩ rfl rfl (Nat.le_of_ble_eq_true rfl) dX2_bound_6 ?_
  rintro v σ1 ⟨r, rfl, hm⟩
  have hc : isC σ1 c := hm.1.fr.isC (show isC (sI σ c 7 0) c from hc)
  have hn : nOK σ1 c := hm.1.n hn0
  have hz : gI σ1 c 3 = gI σ c 3 := hm.1.fr.2.2.2.2.2.trans hz0
  show hW _ _ _ _ _ _ _ _ _ _ _ _ _ 9 [(0, .ref (ad G c))] [.int r] σ1 0 0
  rcases hm.2 with ⟨rfl, q⟩ | ⟨rfl, q⟩ | ⟨rfl, q⟩ | ⟨rfl, q⟩
  · refine h_tableIn C 36 dX2_bound_9 (by decide) (by decide) rfl (by decide) ?_
    refine h_aload_n C 0 dX2_bound_36 rfl rfl ?_
    refine h_lconst C 1 dX2_bound_37 rfl ?_
    refine h_lconst C 0 dX2_bound_38 rfl ?_
    refine h_lconst C 0 dX2_bound_39 rfl ?_
    refine h_callV C (m_X2_boundBoth hc hn.1) caX2_75 kX2 hc.1 ⟨by decide, by decide, by decide, by decide⟩ rfl rfl (Nat.le_of_ble_eq_true rfl) dX2_bound_40 ?_
    rintro v σ' ⟨rfl, h2⟩; rw [h2]; clear h2
    obtain ⟨τ1, eτ1⟩ : ∃ z, z = (bb σ1 c 1 0 0) := ⟨_, rfl⟩
    rw [show bonce (bonce σ1 c 1 0 0) c (-1) (-0) (-0) = τ1 from eτ1.symm]
    show hW _ _ _ _ _ _ _ _ _ _ _ _ _ 43 [(0, .ref (ad G c))] [] τ1 0 0
    have hc : isC τ1 c := by rw [eτ1]; exact frC_bb.isC hc
    have hn : nOK τ1 c := by rw [eτ1]; exact nOK_bb hn
    have hz : gI τ1 c 3 = gI σ c 3 := by rw [eτ1]; exact frC_bb.2.2.2.2.2.trans hz
    refine h_aload_n C 0 dX2_bound_43 rfl rfl ?_
    refine h_lconst C 0 dX2_bound_44 rfl ?_
    refine h_lconst C 1 dX2_bound_45 rfl ?_
    refine h_lconst C 0 dX2_bound_46 rfl ?_
    refine h_callV C (m_X2_boundBoth hc hn.1) caX2_75 kX2 hc.1 ⟨by decide, by decide, by decide, by decide⟩ rfl rfl (Nat.le_of_ble_eq_true rfl) dX2_bound_47 ?_
    rintro v σ' ⟨rfl, h2⟩; rw [h2]; clear h2
    obtain ⟨τ2, eτ2⟩ : ∃ z, z = (bb τ1 c 0 1 0) := ⟨_, rfl⟩
    rw [show bonce (bonce τ1 c 0 1 0) c (-0) (-1) (-0) = τ2 from eτ2.symm]
    show hW _ _ _ _ _ _ _ _ _ _ _ _ _ 50 [(0, .ref (ad G c))] [] τ2 0 0
    have hc : isC τ2 c := by rw [eτ2]; exact frC_bb.isC hc
    have hn : nOK τ2 c := by rw [eτ2]; exact nOK_bb hn
    have hz : gI τ2 c 3 = gI σ c 3 := by rw [eτ2]; exact frC_bb.2.2.2.2.2.trans hz
    refine h_aload_n C 0 dX2_bound_50 rfl rfl ?_
    refine h_lconst C 0 dX2_bound_51 rfl ?_
    refine h_lconst C 0 dX2_bound_52 rfl ?_
    refine h_lconst C 1 dX2_bound_53 rfl ?_
    refine h_callV C (m_X2_boundBoth hc hn.1) caX2_75 kX2 hc.1 ⟨by decide, by decide, by decide, by decide⟩ rfl rfl (Nat.le_of_ble_eq_true rfl) dX2_bound_54 ?_
    rintro v σ' ⟨rfl, h2⟩; rw [h2]; clear h2
    obtain ⟨τ3, eτ3⟩ : ∃ z, z = (bb τ2 c 0 0 1) := ⟨_, rfl⟩
    rw [show bonce (bonce τ2 c 0 0 1) c (-0) (-0) (-1) = τ3 from eτ3.symm]
    show hW _ _ _ _ _ _ _ _ _ _ _ _ _ 57 [(0, .ref (ad G c))] [] τ3 0 0
    have hc : isC τ3 c := by rw [eτ3]; exact frC_bb.isC hc
    have hn : nOK τ3 c := by rw [eτ3]; exact nOK_bb hn
    have hz : gI τ3 c 3 = gI σ c 3 := by rw [eτ3]; exact frC_bb.2.2.2.2.2.trans hz
    refine h_goto C 78 dX2_bound_57 (by decide) ?_
    refine h_vret C rfl (Nat.zero_le _) (Nat.zero_le _) dX2_bound_78 ?_
    refine ⟨rfl, _, _, hm, ?_⟩
    first
      | (subst eτ3; subst eτ2; subst eτ1; exact Or.inl ⟨rfl, rfl⟩)
      | exact Or.inr (Or.inl ⟨rfl, h2⟩)
      | exact Or.inr (Or.inr (Or.inl ⟨rfl, h2⟩))
      | exact Or.inr (Or.inr (Or.inr ⟨rfl, h2⟩))
  · refine h_tableIn C 60 dX2_bound_9 (by decide) (by decide) rfl (by decide) ?_
    refine h_aload_n C 0 dX2_bound_60 rfl rfl ?_
    refine h_callV C (m_X2_boundLine hc hn (le0_of hz hs0) (le30_of hz hs1)) caX2_79 kX2 hc.1 ⟨by decide, by decide, by decide, by decide⟩ rfl rfl (Nat.le_of_ble_eq_true rfl) dX2_bound_61 ?_
    rintro v σ' ⟨rfl, h2⟩
    show hW _ _ _ _ _ _ _ _ _ _ _ _ _ 64 [(0, .ref (ad G c))] [] σ' 0 0
    refine h_goto C 78 dX2_bound_64 (by decide) ?_
    refine h_vret C rfl (Nat.zero_le _) (Nat.zero_le _) dX2_bound_78 ?_
    refine ⟨rfl, _, _, hm, ?_⟩
    first
      | (subst eτ3; subst eτ2; subst eτ1; exact Or.inl ⟨rfl, rfl⟩)
      | exact Or.inr (Or.inl ⟨rfl, h2⟩)
      | exact Or.inr (Or.inr (Or.inl ⟨rfl, h2⟩))
      | exact Or.inr (Or.inr (Or.inr ⟨rfl, h2⟩))
  · refine h_tableIn C 67 dX2_bound_9 (by decide) (by decide) rfl (by decide) ?_
    refine h_aload_n C 0 dX2_bound_67 rfl rfl ?_
    refine h_callV C (m_X2_boundPlane hc hn (le0_of hz hs0) (le30_of hz hs1)) caX2_82 kX2 hc.1 ⟨by decide, by decide, by decide, by decide⟩ rfl rfl (Nat.le_of_ble_eq_true rfl) dX2_bound_68 ?_
    rintro v σ' ⟨rfl, h2⟩
    show hW _ _ _ _ _ _ _ _ _ _ _ _ _ 71 [(0, .ref (ad G c))] [] σ' 0 0
    refine h_goto C 78 dX2_bound_71 (by decide) ?_
    refine h_vret C rfl (Nat.zero_le _) (Nat.zero_le _) dX2_bound_78 ?_
    refine ⟨rfl, _, _, hm, ?_⟩
    first
      | (subst eτ3; subst eτ2; subst eτ1; exact Or.inl ⟨rfl, rfl⟩)
      | exact Or.inr (Or.inl ⟨rfl, h2⟩)
      | exact Or.inr (Or.inr (Or.inl ⟨rfl, h2⟩))
      | exact Or.inr (Or.inr (Or.inr ⟨rfl, h2⟩))
  · refine h_tableOut C 74 dX2_bound_9 (by decide) (by decide) ?_
    refine h_aload_n C 0 dX2_bound_74 rfl rfl ?_
    refine h_callV C (m_X2_boundSpace hc hn (le0_of hz hs0) (le30_of hz hs1)) caX2_85 kX2 hc.1 ⟨by decide, by decide, by decide, by decide⟩ rfl rfl (Nat.le_of_ble_eq_true rfl) dX2_bound_75 ?_
    rintro v σ' ⟨rfl, h2⟩
    show hW _ _ _ _ _ _ _ _ _ _ _ _ _ 78 [(0, .ref (ad G c))] [] σ' 0 0
    refine h_vret C rfl (Nat.zero_le _) (Nat.zero_le _) dX2_bound_78 ?_
    refine ⟨rfl, _, _, hm, ?_⟩
    first
      | (subst eτ3; subst eτ2; subst eτ1; exact Or.inl ⟨rfl, rfl⟩)
      | exact Or.inr (Or.inl ⟨rfl, h2⟩)
      | exact Or.inr (Or.inr (Or.inl ⟨rfl, h2⟩))
      | exact Or.inr (Or.inr (Or.inr ⟨rfl, h2⟩))
