/-- the first n elements of an array -/
def sF (σ : ha_St) (a n : Nat) (f : Nat → Int32) : ha_St := (fun x y => if x = a ∧ y < n then f y else σ.1 x y, σ.2)
theorem gI_sF (σ : ha_St) (a n : Nat) (f : Nat → Int32) (x y : Nat) : gI (sF σ a n f) x y = if x = a ∧ y < n then f y else gI σ x y := rfl
theorem sF_0 {σ : ha_St} {a : Nat} {f : Nat → Int32} : sF σ a 0 f = σ := by
  unfold sF
  simp
theorem sF_1 {σ : ha_St} {a n : Nat} {f : Nat → Int32} {v : Int32} (h : v = f n) : sI (sF σ a n f) a n v = sF σ a (n + 1) f := by
  subst h
  unfold sF sI
  refine Prod.ext ?_ rfl
  funext x y
  show (if x = a ∧ y = n then f n else if x = a ∧ y < n then f y else σ.1 x y) = if x = a ∧ y < n + 1 then f y else σ.1 x y
  by_cases hx : x = a ∧ y = n
  · rw [if_pos hx, if_pos ⟨hx.1, by omega⟩, hx.2]
  · rw [if_neg hx]
    by_cases hy : x = a ∧ y < n
    · rw [if_pos hy, if_pos ⟨hy.1, by omega⟩]
    · rw [if_neg hy, if_neg (fun q => by by_cases z : y = n; exact hx ⟨q.1, z⟩; exact hy ⟨q.1, by omega⟩)]
def sdI (σ : ha_St) : Int32 := if gI σ 26 6 < 0 then 0 else if 12 < gI σ 26 6 then 12 else gI σ 26 6
def sdN (σ : ha_St) : Nat := (sdI σ).toNatClampNeg
theorem sdI_ok (σ : ha_St) : 0 ≤ sdI σ ∧ sdI σ ≤ 12 := by unfold sdI; grind
theorem sdN_ok (σ : ha_St) : sdN σ ≤ 12 := by
  have h := tn_le (sdI_ok σ).1 (sdI_ok σ).2
  rw [show (12 : Int32).toNatClampNeg = 12 by decide] at h
  exact h
def sideF (σ : ha_St) : ha_St := sF (sN σ 22 (sdN σ)) (gn σ) (sdN σ) (fun i => (gI σ 30 i).toInt8.toInt32)
set_option maxRecDepth 100000 in
set_option maxHeartbeats 4000000 in
theorem m_X8_sideRow {G : ha_G} {l : Launch} {σ : ha_St} (hY : LY σ) : hM G l yX8_sideRow cX8_sideRow 4 (some (.array .byte)) { frames := 1, cells := 1, slots := 12, locals := 21 } [.ref (ad G 26)] σ (fun v σ' => v = some (.ref (ad G (gn σ))) ∧ σ' = sideF σ) := by
  have hg := hY.2.2
  refine hM_ofF [(0, .ref (ad G 26))] (by decide +kernel) (Nat.le_of_ble_eq_true rfl) rfl ?_
  intro p e s m args below meth c0 C hin
  refine h_join (α := Int32) 20 (fun x => x = sdI σ) (fun x => [(0, .ref (ad G 26))]) (fun x => [.int x]) (fun x => σ) (fun x => 0) (fun x => 0) ?_ (fun J_1 => ?_)
  · rintro x hJ
    show hW _ _ _ _ _ _ _ _ _ _ _ _ _ 20 [(0, .ref (ad G 26))] [.int x] σ 0 0
    subst hJ
    refine h_istore_n C [(1, .int (sdI σ)), (0, .ref (ad G 26))] dX8_sideRow_20 rfl (by decide) rfl ?_
    refine h_iload_n C 0 dX8_sideRow_21 rfl rfl ?_
    refine h_newaB C acB (Int32.not_lt.mpr (sdI_ok σ).1) (show _ = sdN σ from rfl) (by have := sdN_ok σ; omega) (by decide) (by have := sdN_ok σ; show 0 + sdN σ ≤ 12; omega) dX8_sideRow_22 ?_
    refine h_widen (Nat.le_refl _) (show 0 + sdN σ ≤ 12 by have := sdN_ok σ; omega) ?_
    refine h_astore_n C [(2, .ref (ad G (gn σ))), (1, .int (sdI σ)), (0, .ref (ad G 26))] dX8_sideRow_24 rfl (by decide) rfl ?_
    have hY0 := hY
    have hY : LY (sN σ 22 (sdN σ)) := hY.new
    refine h_iconst C 0 dX8_sideRow_25 (by decide) ?_
    refine h_istore_n C [(3, .int 0), (2, .ref (ad G (gn σ))), (1, .int (sdI σ)), (0, .ref (ad G 26))] dX8_sideRow_26 rfl (by decide) rfl ?_
    rw [show (sN σ 22 (sdN σ)) = sF (sN σ 22 (sdN σ)) (gn σ) (0 : Int32).toNatClampNeg (fun i => (gI σ 30 i).toInt8.toInt32) by rw [tn_0, sF_0]]
    refine h_sub [3, 2, 1, 0] rfl ?_
    refine h_loop (α := Int32) (fun i => 0 ≤ i ∧ i ≤ sdI σ) (fun i => tm (sdI σ) i) (fun i => [(0, .ref (ad G 26)), (1, .int (sdI σ)), (2, .ref (ad G (gn σ))), (3, .int i)]) (fun i => []) (fun i => (sF (sN σ 22 (sdN σ)) (gn σ) i.toNatClampNeg (fun i => (gI σ 30 i).toInt8.toInt32))) (fun i => 1) (fun i => 12) ?_ 0 ?_
    · rintro i hI ih
      show hW _ _ _ _ _ _ _ _ _ _ _ _ _ 27 [(0, .ref (ad G 26)), (1, .int (sdI σ)), (2, .ref (ad G (gn σ))), (3, .int i)] [] (sF (sN σ 22 (sdN σ)) (gn σ) i.toNatClampNeg (fun i => (gI σ 30 i).toInt8.toInt32)) 1 12
      refine h_iload_n C 3 dX8_sideRow_27 rfl rfl ?_
      refine h_iload_n C 1 dX8_sideRow_28 rfl rfl ?_
      refine h_icmp_ge C 48 dX8_sideRow_29 (by decide) (fun c_29 => ?_) (fun c_29 => ?_)
      · refine h_aload_n C 2 dX8_sideRow_48 rfl rfl ?_
        refine h_aret C (some (gn σ)) rfl (by first | exact Or.inl ⟨_, rfl⟩ | exact Or.inr ⟨_, rfl⟩) (by decide) (by decide) dX8_sideRow_49 ?_
        have he := eq_end hI.2 (Int32.not_lt.mpr c_29)
        subst he
        exact ⟨rfl, rfl⟩
      · refine h_aload_n C 2 dX8_sideRow_32 rfl rfl ?_
        refine h_iload_n C 3 dX8_sideRow_33 rfl rfl ?_
        refine h_aload_n C 0 dX8_sideRow_34 rfl rfl ?_
        refine gfX8_26 C (ty_26 hY) dX8_sideRow_35 ?_
        refine h_tref (b := 30) (rf_26_4 hY) ?_
        refine h_iload_n C 3 dX8_sideRow_38 rfl rfl ?_
        refine h_iald C (ty_30 hY) (vp32 (N := 12) hI.1 (Int32.lt_of_lt_of_le (Int32.not_le.mp c_29) (sdI_ok σ).2) (by decide)) dX8_sideRow_39 ?_
        refine h_i2b C dX8_sideRow_40 ?_
        refine h_bast C _ (show gT (sN σ 22 (sdN σ)) (gn σ) = (22, sdN σ) from sN_T) (vp32 (N := sdI σ) hI.1 (Int32.not_le.mp c_29) (tn_int (sdI_ok σ).1).symm) dX8_sideRow_41 rfl ?_
        rw [show sI (sF (sN σ 22 (sdN σ)) (gn σ) i.toNatClampNeg (fun i => (gI σ 30 i).toInt8.toInt32)) (gn σ) i.toNatClampNeg (Int32.toInt8 (gI (sF (sN σ 22 (sdN σ)) (gn σ) i.toNatClampNeg (fun i => (gI σ 30 i).toInt8.toInt32)) 30 i.toNatClampNeg).toInt8.toInt32).toInt32 = sF (sN σ 22 (sdN σ)) (gn σ) (i + 1).toNatClampNeg (fun i => (gI σ 30 i).toInt8.toInt32) by
          rw [tn_succ hI.1 (Int32.not_le.mp c_29), gI_sF, if_neg (by omega), gI_sN, if_neg (by omega), i8_i8]
          exact sF_1 rfl]
        refine h_iinc C [(3, .int (i + 1)), (0, .ref (ad G 26)), (1, .int (sdI σ)), (2, .ref (ad G (gn σ)))] 3 (i + 1) dX8_sideRow_42 rfl rfl (by decide) rfl ?_
        refine h_goto C 27 dX8_sideRow_45 (by decide) ?_
        refine h_sub [1, 2, 3, 0] rfl ?_
        refine ih (i + 1) ?_ ?_
        · exact le_succ hI.1 (Int32.not_le.mp c_29)
        · exact tm_lt (Int32.not_le.mp c_29)
    · exact ⟨by decide, (sdI_ok σ).1⟩
  · refine h_aload_n C 0 dX8_sideRow_0 rfl rfl ?_
    refine gfX8_32 C (ty_26 hY) dX8_sideRow_1 ?_
    refine h_if_ge C 11 dX8_sideRow_4 (by decide) (fun c_4 => ?_) (fun c_4 => ?_)
    · refine h_aload_n C 0 dX8_sideRow_11 rfl rfl ?_
      refine gfX8_32 C (ty_26 hY) dX8_sideRow_12 ?_
      refine h_bipush C 12 dX8_sideRow_15 (by decide) ?_
      refine h_callS C m_J9_min_7cf53 caX8_53 ⟨by decide, by decide, by decide, by decide⟩ rfl rfl (Nat.le_of_ble_eq_true rfl) dX8_sideRow_17 ?_
      rintro v σ' ⟨rfl, h2⟩; rw [h2]; clear h2
      show hW _ _ _ _ _ _ _ _ _ _ _ _ _ 20 [(0, .ref (ad G 26))] [.int (if 12 < (gI σ 26 6) then 12 else (gI σ 26 6))] σ 0 0
      refine J_1 (if 12 < (gI σ 26 6) then 12 else (gI σ 26 6)) ?_
      unfold sdI
      rw [if_neg (Int32.not_lt.mpr c_4)]
    · refine h_iconst C 0 dX8_sideRow_7 (by decide) ?_
      refine h_goto C 20 dX8_sideRow_8 (by decide) ?_
      refine J_1 0 ?_
      unfold sdI
      rw [if_pos (Int32.not_le.mp c_4)]
def twin1 (σ : ha_St) (b t : Nat) : ha_St := mkPin σ (kindOf t) (gI σ b 0) (gI σ b 5) (gI σ b 6) (gripOf σ b t) (gI σ b 3)
def twinF (σ : ha_St) (b t : Nat) : ha_St := sI (sI (twin1 σ b t) (gn σ) 4 (gI σ b 4)) (gn σ) 7 (gI σ b 7)
theorem tw_tag {t : Nat} (h : pT t) : mkTag (kindOf t) = t := by rcases h with rfl | rfl | rfl | rfl <;> decide
theorem twin1_T {σ : ha_St} {b t : Nat} (h : pT t) : gT (twin1 σ b t) (gn σ) = (t, 0) := by unfold twin1; rw [mkPin_tag, tw_tag h]
theorem twin1_I {σ : ha_St} {b t : Nat} (hb : b ≠ gn σ) : gI (twin1 σ b t) b = gI σ b := mkPin_I hb
theorem twin1_Tb {σ : ha_St} {b t : Nat} (hb : b ≠ gn σ) : gT (twin1 σ b t) b = gT σ b := by unfold twin1; rw [mkPin_T, gT_sN, if_neg hb]
set_option maxRecDepth 100000 in
set_option maxHeartbeats 4000000 in
theorem m_X10_twinOf {G : ha_G} {l : Launch} {σ : ha_St} {b t : Nat} (hT : gT σ b = (t, 0)) (ht : pT t) (hb : b ≠ gn σ) (hd : 0 ≤ gI σ b 0 ∧ gI σ b 0 < 8) : hM G l yX10_twinOf cX10_twinOf 2 (some (.object "HeldPart$Pin")) { frames := 5, cells := 1, slots := 9, locals := 120 } [.ref (ad G b)] σ (fun v σ' => v = some (.ref (ad G (gn σ))) ∧ σ' = twinF σ b t) := by
  refine hM_ofF [(0, .ref (ad G b))] (by decide +kernel) (Nat.le_of_ble_eq_true rfl) rfl ?_
  intro p e s m args below meth c0 C hin
  refine h_aload_n C 0 dX10_twinOf_0 rfl rfl ?_
  refine cvX10_107 C hT ht (by decide) (by decide) (by decide) (by decide) (Nat.le_of_ble_eq_true rfl) dX10_twinOf_1 ?_
  refine h_aload_n C 0 dX10_twinOf_4 rfl rfl ?_
  refine gpX10_111 C hT ht dX10_twinOf_5 ?_
  refine h_aload_n C 0 dX10_twinOf_8 rfl rfl ?_
  refine gpX10_94 C hT ht dX10_twinOf_9 ?_
  refine h_aload_n C 0 dX10_twinOf_12 rfl rfl ?_
  refine gpX10_97 C hT ht dX10_twinOf_13 ?_
  refine h_aload_n C 0 dX10_twinOf_16 rfl rfl ?_
  refine cvX10_114 C hT ht (by decide) (by decide) (by decide) (by decide) (Nat.le_of_ble_eq_true rfl) dX10_twinOf_17 ?_
  refine h_aload_n C 0 dX10_twinOf_20 rfl rfl ?_
  refine gpX10_117 C hT ht dX10_twinOf_21 ?_
  refine h_callS C (m_X10_made hd) caX10_83 ⟨by decide, by decide, by decide, by decide⟩ rfl rfl (Nat.le_of_ble_eq_true rfl) dX10_twinOf_24 ?_
  rintro v σ' ⟨rfl, h2⟩; rw [show mkPin σ (kindOf t) (gI σ b 0) (gI σ b 5) (gI σ b 6) (gripOf σ b t) (gI σ b 3) = twin1 σ b t from rfl] at h2; rw [h2]; clear h2
  show hW _ _ _ _ _ _ _ _ _ _ _ _ _ 27 [(0, .ref (ad G b))] [.ref (ad G (gn σ))] (twin1 σ b t) 1 9
  have hT2 : gT (twin1 σ b t) b = (t, 0) := (twin1_Tb hb).trans hT
  refine h_astore_n C [(1, .ref (ad G (gn σ))), (0, .ref (ad G b))] dX10_twinOf_27 rfl (by decide) rfl ?_
  refine h_aload_n C 0 dX10_twinOf_28 rfl rfl ?_
  refine h_aload_n C 1 dX10_twinOf_29 rfl rfl ?_
  refine gpX10_87 C hT2 ht dX10_twinOf_30 ?_
  refine ppX10_87 C (twin1_T ht) ht dX10_twinOf_33 ?_
  refine h_aload_n C 0 dX10_twinOf_36 rfl rfl ?_
  refine h_aload_n C 1 dX10_twinOf_37 rfl rfl ?_
  refine gpX10_104 C (show gT (sI (twin1 σ b t) (gn σ) 4 _) b = (t, 0) from hT2) ht dX10_twinOf_38 ?_
  refine ppX10_104 C (show gT (sI (twin1 σ b t) (gn σ) 4 _) (gn σ) = (t, 0) from twin1_T ht) ht dX10_twinOf_41 ?_
  refine h_aload_n C 0 dX10_twinOf_44 rfl rfl ?_
  refine h_aret C (some (gn σ)) rfl (by first | exact Or.inl ⟨_, rfl⟩ | exact Or.inr ⟨_, rfl⟩) (by decide) (by decide) dX10_twinOf_45 ?_
  refine ⟨rfl, ?_⟩
  unfold twinF
  rw [gI_sI, if_neg (fun q => hb q.1), twin1_I hb]
/-- what a contact's direction gives, by parts -/
def wrV (σ : ha_St) (y : Nat) : Int32 := match cAt σ (Int32.ofNat (y / 3)) with
  | some b => if y % 3 = 0 then pxOf σ b (gT σ b).1 (-1) else if y % 3 = 1 then pyOf σ b (gT σ b).1 (-1) else tuOf σ b (gT σ b).1 (-1)
  | none => 0
def cN (σ : ha_St) : Nat := (gI σ 0 1).toNatClampNeg
def wrowF (σ : ha_St) : ha_St := sF (sN σ 20 (3 * cN σ)) (gn σ) (3 * cN σ) (wrV σ)
theorem px_cg {s s' : ha_St} {b t : Nat} {d : Int32} (h : gI s' b = gI s b) : pxOf s' b t d = pxOf s b t d := by unfold pxOf gripOf; rw [h]
theorem py_cg {s s' : ha_St} {b t : Nat} {d : Int32} (h : gI s' b = gI s b) : pyOf s' b t d = pyOf s b t d := by unfold pyOf gripOf; rw [h]
theorem tu_cg {s s' : ha_St} {b t : Nat} {d : Int32} (h : gI s' b = gI s b) : tuOf s' b t d = tuOf s b t d := by unfold tuOf; rw [h, px_cg h, py_cg h]
theorem cN_ok {σ : ha_St} (hP : PN σ) : cN σ ≤ 10 := by
  have h := tn_le hP.1 hP.2.1
  rw [show (10 : Int32).toNatClampNeg = 10 by decide] at h
  exact h
/-- the store of the loop: nothing old has changed -/
def wrS (σ : ha_St) (n : Nat) : ha_St := sF (sN σ 20 (3 * cN σ)) (gn σ) n (wrV σ)
theorem wrS_LY {σ : ha_St} {n : Nat} (h : LY σ) : LY (wrS σ n) := (h.new (t := 20) (n := 3 * cN σ)).same rfl rfl rfl
theorem wrS_I {σ : ha_St} {n a : Nat} (h : a ≠ gn σ) : gI (wrS σ n) a = gI σ a := by
  funext y
  unfold wrS
  rw [gI_sF, if_neg (fun q => h q.1), gI_sN, if_neg h]
theorem wrS_R {σ : ha_St} {n a : Nat} (h : a ≠ gn σ) : gR (wrS σ n) a = gR σ a := by
  funext y
  show gR (sN σ 20 (3 * cN σ)) a y = _
  rw [gR_sN, if_neg h]
theorem wrS_T {σ : ha_St} {n a : Nat} (h : a ≠ gn σ) : gT (wrS σ n) a = gT σ a := by
  show gT (sN σ 20 (3 * cN σ)) a = _
  rw [gT_sN, if_neg h]
theorem wrS_N {σ : ha_St} {n : Nat} : gT (wrS σ n) (gn σ) = (20, 3 * cN σ) := sN_T
theorem wrS_c {σ : ha_St} {n : Nat} {i : Int32} (hY : LY σ) : cAt (wrS σ n) i = cAt σ i := by
  have := hY.2.2
  unfold cAt
  rw [wrS_I (by omega), wrS_R (by omega)]
theorem PN_apart {σ : ha_St} (hP : PN σ) (hf : ∀ a t, gT σ a = (t, 0) → pT t → a < gn σ) : ∀ i, i < cN σ → ∃ a t, gR σ 1 i = some a ∧ gT σ a = (t, 0) ∧ pT t ∧ 74 ≤ a ∧ a < gn σ := by
  intro i hi
  obtain ⟨a, t, h1, h2, h3, h4⟩ := hP.2.2 i hi
  exact ⟨a, t, h1, h2, h3, h4, hf a t h2 h3⟩
theorem wrS_P {σ : ha_St} {n : Nat} (hY : LY σ) (hP : PN σ) (hf : ∀ a t, gT σ a = (t, 0) → pT t → a < gn σ) : PN (wrS σ n) := by
  have := hY.2.2
  refine ⟨?_, ?_, ?_⟩
  · rw [wrS_I (by omega)]; exact hP.1
  · rw [wrS_I (by omega)]; exact hP.2.1
  · rw [wrS_I (by omega), wrS_R (by omega)]
    intro i hi
    obtain ⟨a, t, h1, h2, h3, h4, h5⟩ := PN_apart hP hf i hi
    exact ⟨a, t, h1, by rw [wrS_T (by omega)]; exact h2, h3, h4⟩
theorem wr_3 {σ : ha_St} {b t : Nat} {i N : Int32} (hY : LY σ) (h0 : 0 ≤ i) (h1 : i < gI σ 0 1) (hc : cAt σ i = some b) (hT : gT σ b = (t, 0)) (hb : b ≠ gn σ) (n0 n1 n2 : Nat) (e0 : n0 = 3 * i.toNatClampNeg) (e1 : n1 = 3 * i.toNatClampNeg + 1) (e2 : n2 = 3 * i.toNatClampNeg + 2) (v0 v1 v2 : Int32)
    (f0 : v0 = pxOf σ b t (-1)) (f1 : v1 = pyOf σ b t (-1)) (f2 : v2 = tuOf σ b t (-1)) : sI (sI (sI (wrS σ (3 * i.toNatClampNeg)) (gn σ) n0 v0) (gn σ) n1 v1) (gn σ) n2 v2 = wrS σ (3 * (i + 1).toNatClampNeg) := by
  subst e0 e1 e2
  have hv : ∀ k, k < 3 → wrV σ (3 * i.toNatClampNeg + k) = if k = 0 then pxOf σ b t (-1) else if k = 1 then pyOf σ b t (-1) else tuOf σ b t (-1) := by
    intro k hk
    unfold wrV
    rw [show (3 * i.toNatClampNeg + k) / 3 = i.toNatClampNeg by omega, show (3 * i.toNatClampNeg + k) % 3 = k by omega, ofNat_succ_tn h0 rfl, hc]
    simp only [hT]
  rw [tn_succ h0 h1]
  unfold wrS
  have g0 : v0 = wrV σ (3 * i.toNatClampNeg) := by rw [f0]; exact ((hv 0 (by omega)).trans (by rw [if_pos rfl])).symm
  have g1 : v1 = wrV σ (3 * i.toNatClampNeg + 1) := by rw [f1]; exact ((hv 1 (by omega)).trans (by rw [if_neg (by omega), if_pos rfl])).symm
  have g2 : v2 = wrV σ (3 * i.toNatClampNeg + 2) := by rw [f2]; exact ((hv 2 (by omega)).trans (by rw [if_neg (by omega), if_neg (by omega)])).symm
  rw [sF_1 g0, sF_1 g1, show 3 * i.toNatClampNeg + 2 = (3 * i.toNatClampNeg + 1) + 1 by omega, sF_1 (n := 3 * i.toNatClampNeg + 1 + 1) g2, show 3 * (i.toNatClampNeg + 1) = 3 * i.toNatClampNeg + 1 + 1 + 1 by omega]
theorem tri_1 : ∀ k, k < 10 → (3 * Int32.ofNat k).toNatClampNeg = 3 * k ∧ (3 * Int32.ofNat k + 1).toNatClampNeg = 3 * k + 1 ∧ (3 * Int32.ofNat k + 2).toNatClampNeg = 3 * k + 2 ∧ 0 ≤ 3 * Int32.ofNat k ∧ 0 ≤ 3 * Int32.ofNat k + 1 ∧ 0 ≤ 3 * Int32.ofNat k + 2 := by decide
theorem tri_2 : ∀ k, k < 10 → ∀ d, d < 11 → k + 1 + d ≤ 10 → 3 * Int32.ofNat k < 3 * Int32.ofNat (k + 1 + d) ∧ 3 * Int32.ofNat k + 1 < 3 * Int32.ofNat (k + 1 + d) ∧ 3 * Int32.ofNat k + 2 < 3 * Int32.ofNat (k + 1 + d) := by decide
theorem tri {i c : Int32} (h0 : 0 ≤ i) (h1 : i < c) (h2 : c ≤ 10) : (3 * i).toNatClampNeg = 3 * i.toNatClampNeg ∧ (3 * i + 1).toNatClampNeg = 3 * i.toNatClampNeg + 1 ∧ (3 * i + 2).toNatClampNeg = 3 * i.toNatClampNeg + 2 ∧ (0 ≤ 3 * i ∧ 3 * i < 3 * c) ∧ (0 ≤ 3 * i + 1 ∧ 3 * i + 1 < 3 * c) ∧ 0 ≤ 3 * i + 2 ∧ 3 * i + 2 < 3 * c := by
  have e : i.toNatClampNeg < 10 := by have := tn_lt h0 (Int32.lt_of_lt_of_le h1 h2); rw [show (10 : Int32).toNatClampNeg = 10 by decide] at this; exact this
  have e2 := ofNat_succ_tn h0 rfl
  have h3 : (0 : Int32) ≤ c := by grind
  have e3 := ofNat_succ_tn h3 rfl
  have e4 : c.toNatClampNeg < 11 := by have := tn_le h3 h2; rw [show (10 : Int32).toNatClampNeg = 10 by decide] at this; omega
  have e5 := tn_lt h0 h1
  have a := tri_1 _ e
  have b := tri_2 _ e (c.toNatClampNeg - (i.toNatClampNeg + 1)) (by omega) (by omega)
  rw [show i.toNatClampNeg + 1 + (c.toNatClampNeg - (i.toNatClampNeg + 1)) = c.toNatClampNeg by omega] at b
  rw [e2] at a b
  rw [e3] at b
  exact ⟨a.1, a.2.1, a.2.2.1, ⟨a.2.2.2.1, b.1⟩, ⟨a.2.2.2.2.1, b.2.1⟩, a.2.2.2.2.2, b.2.2⟩
theorem tri_c {c : Int32} (h0 : 0 ≤ c) (h2 : c ≤ 10) : ¬ 3 * c < 0 ∧ (3 * c).toNatClampNeg = 3 * c.toNatClampNeg ∧ Int32.ofNat (3 * c.toNatClampNeg) = 3 * c ∧ (3 * c).toInt = ((3 * c.toNatClampNeg : Nat) : Int) := by
  have e3 := ofNat_succ_tn h0 rfl
  have e4 : c.toNatClampNeg < 11 := by have := tn_le h0 h2; rw [show (10 : Int32).toNatClampNeg = 10 by decide] at this; omega
  generalize c.toNatClampNeg = j at e3 e4
  subst e3
  clear h2 h0
  revert j
  decide
set_option maxRecDepth 100000 in
set_option maxHeartbeats 4000000 in
theorem m_X10_wrenchRow {G : ha_G} {l : Launch} {σ : ha_St} (hY : LY σ) (hP : PN σ) (hf : ∀ a t, gT σ a = (t, 0) → pT t → a < gn σ) : hM G l yX10_wrenchRow cX10_wrenchRow 5 (some (.array .int)) { frames := 3, cells := 1, slots := 30, locals := 63 } [.ref (ad G 0)] σ (fun v σ' => v = some (.ref (ad G (gn σ))) ∧ σ' = wrowF σ) := by
  have hY0 := hY
  have hP0 := hP
  have hg := hY.2.2
  refine hM_ofF [(0, .ref (ad G 0))] (by decide +kernel) (Nat.le_of_ble_eq_true rfl) rfl ?_
  intro p e s m args below meth c0 C hin
  refine h_iconst C 3 dX10_wrenchRow_0 (by decide) ?_
  refine h_aload_n C 0 dX10_wrenchRow_1 rfl rfl ?_
  refine gfX10_15 C (ty_0 hY) dX10_wrenchRow_2 ?_
  refine h_imul C dX10_wrenchRow_5 ?_
  refine h_newaI C acI (tri_c hP.1 hP.2.1).1 (show _ = 3 * cN σ from (tri_c hP.1 hP.2.1).2.1) (by have := cN_ok hP; omega) (by decide) (by have := cN_ok hP; show 0 + 3 * cN σ ≤ 30; omega) dX10_wrenchRow_6 ?_
  refine h_widen (Nat.le_refl _) (show 0 + 3 * cN σ ≤ 30 by have := cN_ok hP; omega) ?_
  refine h_astore_n C [(1, .ref (ad G (gn σ))), (0, .ref (ad G 0))] dX10_wrenchRow_8 rfl (by decide) rfl ?_
  refine h_iconst C 0 dX10_wrenchRow_9 (by decide) ?_
  refine h_istore_n C [(2, .int 0), (1, .ref (ad G (gn σ))), (0, .ref (ad G 0))] dX10_wrenchRow_10 rfl (by decide) rfl ?_
  rw [show sN σ 20 (3 * cN σ) = wrS σ (3 * (0 : Int32).toNatClampNeg) by rw [tn_0]; exact sF_0.symm]
  refine h_sub [2, 1, 0] rfl ?_
  refine h_loop (α := Int32) (fun i => 0 ≤ i ∧ i ≤ gI σ 0 1) (fun i => tm (gI σ 0 1) i) (fun i => [(0, .ref (ad G 0)), (1, .ref (ad G (gn σ))), (2, .int i)]) (fun i => []) (fun i => (wrS σ (3 * i.toNatClampNeg))) (fun i => 1) (fun i => 30) ?_ 0 ?_
  · rintro i hI ih
    show hW _ _ _ _ _ _ _ _ _ _ _ _ _ 11 [(0, .ref (ad G 0)), (1, .ref (ad G (gn σ))), (2, .int i)] [] (wrS σ (3 * i.toNatClampNeg)) 1 30
    have hY : LY (wrS σ (3 * i.toNatClampNeg)) := wrS_LY hY0
    have hP : PN (wrS σ (3 * i.toNatClampNeg)) := wrS_P hY0 hP0 hf
    refine h_iload_n C 2 dX10_wrenchRow_11 rfl rfl ?_
    refine h_aload_n C 0 dX10_wrenchRow_12 rfl rfl ?_
    refine gfX10_15 C (ty_0 hY) dX10_wrenchRow_13 ?_
    refine h_icmp_ge C 80 dX10_wrenchRow_16 (by decide) (fun c_16 => ?_) (fun c_16 => ?_)
    · refine h_aload_n C 1 dX10_wrenchRow_80 rfl rfl ?_
      refine h_aret C (some (gn σ)) rfl (by first | exact Or.inl ⟨_, rfl⟩ | exact Or.inr ⟨_, rfl⟩) (by decide) (by decide) dX10_wrenchRow_81 ?_
      have he : i = gI σ 0 1 := eq_end hI.2 (Int32.not_lt.mpr (by rw [wrS_I (by omega)] at c_16; exact c_16))
      subst he
      exact ⟨rfl, rfl⟩
    · have hlt : i < gI σ 0 1 := by have := Int32.not_le.mp c_16; rw [wrS_I (by omega)] at this; exact this
      refine h_aload_n C 0 dX10_wrenchRow_19 rfl rfl ?_
      refine h_iload_n C 2 dX10_wrenchRow_20 rfl rfl ?_
      refine h_callV C (m_X10_contactAt hY hP) caX10_90 kX10 (ty_0 hY) ⟨by decide, by decide, by decide, by decide⟩ rfl rfl (Nat.le_of_ble_eq_true rfl) dX10_wrenchRow_21 ?_
      rintro v σ' ⟨rfl, h2⟩; rw [h2]; clear h2
      show hW _ _ _ _ _ _ _ _ _ _ _ _ _ 24 [(0, .ref (ad G 0)), (1, .ref (ad G (gn σ))), (2, .int i)] [rf G (cAt (wrS σ (3 * i.toNatClampNeg)) i)] (wrS σ (3 * i.toNatClampNeg)) 1 30
      refine h_topt (fun o_1 => ?_) (fun b_2 o_1 => ?_)
      · rw [wrS_c hY0] at o_1
        exact absurd ⟨hI.1, hlt⟩ (cAt_none hP0 o_1)
      · rw [wrS_c hY0] at o_1
        obtain ⟨t_2, hT_2, ht_2, hb_2, hi_2, hj_2, hr_2⟩ := cAt_some hP0 o_1
        have hne : b_2 ≠ gn σ := by have := hf _ _ hT_2 ht_2; omega
        have hTw : gT (wrS σ (3 * i.toNatClampNeg)) b_2 = (t_2, 0) := by rw [wrS_T hne]; exact hT_2
        have hIw : gI (wrS σ (3 * i.toNatClampNeg)) b_2 = gI σ b_2 := wrS_I hne
        have hil := hlt
        have htr := tri hI.1 hil hP0.2.1
        refine h_astore_n C [(3, .ref (ad G b_2)), (0, .ref (ad G 0)), (1, .ref (ad G (gn σ))), (2, .int i)] dX10_wrenchRow_24 rfl (by decide) rfl ?_
        refine h_iconst C 3 dX10_wrenchRow_25 (by decide) ?_
        refine h_iload_n C 3 dX10_wrenchRow_26 rfl rfl ?_
        refine h_imul C dX10_wrenchRow_27 ?_
        refine h_istore C [(4, .int (3 * i)), (3, .ref (ad G b_2)), (0, .ref (ad G 0)), (1, .ref (ad G (gn σ))), (2, .int i)] dX10_wrenchRow_28 (by decide) rfl ?_
        refine h_aload_n C 1 dX10_wrenchRow_30 rfl rfl ?_
        refine h_ifnull C dX10_wrenchRow_31 ?_
        refine h_iload C 0 dX10_wrenchRow_34 rfl ?_
        refine h_iconst C 2 dX10_wrenchRow_36 (by decide) ?_
        refine h_iadd C dX10_wrenchRow_37 ?_
        refine h_aload_n C 3 dX10_wrenchRow_38 rfl rfl ?_
        refine h_alen C wrS_N (by decide) dX10_wrenchRow_39 ?_
        refine h_icmp_ge C 74 dX10_wrenchRow_40 (by decide) (fun c_40 => ?_) (fun c_40 => ?_)
        · exact absurd (show 3 * i + 2 < Int32.ofNat (3 * cN σ) by unfold cN; rw [(tri_c hP0.1 hP0.2.1).2.2.1]; exact htr.2.2.2.2.2.2) (Int32.not_lt.mpr c_40)
        · refine h_aload_n C 3 dX10_wrenchRow_43 rfl rfl ?_
          refine h_iload C 0 dX10_wrenchRow_44 rfl ?_
          refine h_aload_n C 1 dX10_wrenchRow_46 rfl rfl ?_
          refine h_iconst C (-1) dX10_wrenchRow_47 (by decide) ?_
          refine cvX10_130 C hTw ht_2 (by decide) (by decide) (by decide) (by decide) (Nat.le_of_ble_eq_true rfl) dX10_wrenchRow_48 ?_
          refine h_iast C _ wrS_N (vp32 (N := 3 * gI σ 0 1) htr.2.2.2.1.1 htr.2.2.2.1.2 (tri_c hP0.1 hP0.2.1).2.2.2) dX10_wrenchRow_51 rfl ?_
          have hIw1 : gI (sI (wrS σ (3 * i.toNatClampNeg)) (gn σ) (3 * i).toNatClampNeg (pxOf (wrS σ (3 * i.toNatClampNeg)) b_2 t_2 (-1))) b_2 = gI σ b_2 := (funext fun y => by rw [gI_sI, if_neg (fun q => hne q.1)]).trans hIw
          refine h_aload_n C 3 dX10_wrenchRow_52 rfl rfl ?_
          refine h_iload C 0 dX10_wrenchRow_53 rfl ?_
          refine h_iconst C 1 dX10_wrenchRow_55 (by decide) ?_
          refine h_iadd C dX10_wrenchRow_56 ?_
          refine h_aload_n C 1 dX10_wrenchRow_57 rfl rfl ?_
          refine h_iconst C (-1) dX10_wrenchRow_58 (by decide) ?_
          refine cvX10_134 C hTw ht_2 (by decide) (by decide) (by decide) (by decide) (Nat.le_of_ble_eq_true rfl) dX10_wrenchRow_59 ?_
          refine h_iast C _ (wrS_N (n := 3 * i.toNatClampNeg)) (vp32 (N := 3 * gI σ 0 1) htr.2.2.2.2.1.1 htr.2.2.2.2.1.2 (tri_c hP0.1 hP0.2.1).2.2.2) dX10_wrenchRow_62 rfl ?_
          have hIw2 : gI (sI (sI (wrS σ (3 * i.toNatClampNeg)) (gn σ) (3 * i).toNatClampNeg (pxOf (wrS σ (3 * i.toNatClampNeg)) b_2 t_2 (-1))) (gn σ) ((3 * i) + 1).toNatClampNeg (pyOf (sI (wrS σ (3 * i.toNatClampNeg)) (gn σ) (3 * i).toNatClampNeg (pxOf (wrS σ (3 * i.toNatClampNeg)) b_2 t_2 (-1))) b_2 t_2 (-1))) b_2 = gI σ b_2 := (funext fun y => by rw [gI_sI, if_neg (fun q => hne q.1)]).trans hIw1
          refine h_aload_n C 3 dX10_wrenchRow_63 rfl rfl ?_
          refine h_iload C 0 dX10_wrenchRow_64 rfl ?_
          refine h_iconst C 2 dX10_wrenchRow_66 (by decide) ?_
          refine h_iadd C dX10_wrenchRow_67 ?_
          refine h_aload_n C 1 dX10_wrenchRow_68 rfl rfl ?_
          refine h_iconst C (-1) dX10_wrenchRow_69 (by decide) ?_
          refine cvX10_137 C hTw ht_2 (by decide) (by decide) (by decide) (by decide) (Nat.le_of_ble_eq_true rfl) dX10_wrenchRow_70 ?_
          refine h_iast C _ (wrS_N (n := 3 * i.toNatClampNeg)) (vp32 (N := 3 * gI σ 0 1) htr.2.2.2.2.2.1 htr.2.2.2.2.2.2 (tri_c hP0.1 hP0.2.1).2.2.2) dX10_wrenchRow_73 rfl ?_
          have e3 := wr_3 (N := 10) hY0 hI.1 hil o_1 hT_2 hne _ _ _ htr.1 htr.2.1 htr.2.2.1 _ _ _ (px_cg (d := -1) hIw) (py_cg (d := -1) (hIw1)) (tu_cg (d := -1) (hIw2))
          rw [e3]
          refine h_iinc C [(2, .int (i + 1)), (4, .int (3 * i)), (3, .ref (ad G b_2)), (0, .ref (ad G 0)), (1, .ref (ad G (gn σ)))] 4 (i + 1) dX10_wrenchRow_74 rfl rfl (by decide) rfl ?_
          refine h_goto C 11 dX10_wrenchRow_77 (by decide) ?_
          refine h_sub [3, 4, 0] rfl ?_
          refine ih (i + 1) ?_ ?_
          · exact le_succ hI.1 hlt
          · exact tm_lt hlt
  · exact ⟨by decide, hP0.1⟩
