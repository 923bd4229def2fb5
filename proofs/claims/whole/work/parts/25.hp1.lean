/-! ===== the class: contacts ===== -/
section
variable {p : Program} {l : Launch} {e : Env} {R : Room} {s : State} {m : MethodId} {args : Array Value} {below : List Frame} {meth : Method} {c : Code} {Q : State → Prop} {G : ha_G} {cc : ByteArray} {own : String} {ret : Option FieldType} {nL pc : Nat} {lv lv' : List (Nat × Value)} {st : List Value} {σ : ha_St} {k n : Nat}
theorem h_pastP (C : hX p s m args meth c G cc own nL ret) {a ln b t lb : Nat} {i : Int32} (hT : gT σ a = (23, ln)) (hTb : gT σ b = (t, lb)) (ht : pT t) (hi : vp_in i ln) (hd : decode cc pc = .ok (.aastore, 1))
    (kk : hW p l e R s m args below meth c Q G nL (pc + 1) lv st (sR σ a i.toNatClampNeg (some b)) k n) : hW p l e R s m args below meth c Q G nL pc lv (.ref (ad G b) :: .int i :: .ref (ad G a) :: st) σ k n := by
  rcases ht with rfl | rfl | rfl | rfl
  · exact h_past C hT kX0 hTb (Or.inr cb_X0) hi hd kk
  · exact h_past C hT kX1 hTb (Or.inr cb_X1) hi hd kk
  · exact h_past C hT kX5 hTb (Or.inr cb_X5) hi hd kk
  · exact h_past C hT kX7 hTb (Or.inl rfl) hi hd kk
end
/-- the contacts are objects of the four kinds -/
def PN (σ : ha_St) : Prop := 0 ≤ gI σ 0 1 ∧ gI σ 0 1 ≤ 10 ∧ ∀ i, i < (gI σ 0 1).toNatClampNeg → ∃ a t, gR σ 1 i = some a ∧ gT σ a = (t, 0) ∧ pT t ∧ 74 ≤ a
def cAt (σ : ha_St) (i : Int32) : Option Nat := if 0 ≤ i ∧ i < gI σ 0 1 then gR σ 1 i.toNatClampNeg else none
theorem cAt_some {σ : ha_St} {i : Int32} {b : Nat} (hP : PN σ) (h : cAt σ i = some b) : ∃ t, gT σ b = (t, 0) ∧ pT t ∧ 74 ≤ b ∧ 0 ≤ i ∧ i < gI σ 0 1 ∧ gR σ 1 i.toNatClampNeg = some b := by
  unfold cAt at h
  split at h
  · rename_i hi
    obtain ⟨a, t, h1, h2, h3, h4⟩ := hP.2.2 _ (tn_lt hi.1 hi.2)
    cases h1.symm.trans h
    exact ⟨t, h2, h3, h4, hi.1, hi.2, h⟩
  · cases h
theorem cAt_none {σ : ha_St} {i : Int32} (hP : PN σ) (h : cAt σ i = none) : ¬ (0 ≤ i ∧ i < gI σ 0 1) := by
  intro hi
  unfold cAt at h
  rw [if_pos hi] at h
  obtain ⟨a, t, h1, -⟩ := hP.2.2 _ (tn_lt hi.1 hi.2)
  rw [h1] at h
  cases h
def pAt (σ : ha_St) (i : Int32) : Option Nat := match cAt σ i with
  | none => none
  | some a => if (gT σ a).1 = 2 then none else some a
theorem pAt_none {σ : ha_St} {i : Int32} (h : cAt σ i = none) : pAt σ i = none := by unfold pAt; rw [h]
theorem pAt_of {σ : ha_St} {i : Int32} {a t ln : Nat} (h : cAt σ i = some a) (hT : gT σ a = (t, ln)) : pAt σ i = if t = 2 then none else some a := by unfold pAt; rw [h]; simp only [hT]
theorem pAt_some {σ : ha_St} {i : Int32} {b : Nat} (hP : PN σ) (h : pAt σ i = some b) : ∃ t, gT σ b = (t, 0) ∧ pT t ∧ t ≠ 2 ∧ 74 ≤ b ∧ cAt σ i = some b := by
  cases hc : cAt σ i with
  | none => rw [pAt_none hc] at h; cases h
  | some a =>
    obtain ⟨t, h1, h2, h3, -⟩ := cAt_some hP hc
    rw [pAt_of hc h1] at h
    split at h
    · cases h
    · rename_i ht
      cases h
      exact ⟨t, h1, h2, ht, h3, rfl⟩
set_option maxRecDepth 100000 in
set_option maxHeartbeats 4000000 in
theorem m_X10_contactAt {G : ha_G} {l : Launch} {σ : ha_St} {i : Int32} (hY : LY σ) (hP : PN σ) : hM G l yX10_contactAt cX10_contactAt 2 (some (.object "HeldPart$Pin")) { frames := 0, cells := 0, slots := 0, locals := 0 } [.ref (ad G 0), .int i] σ (fun v σ' => v = some (rf G (cAt σ i)) ∧ σ' = σ) := by
  refine hM_ofF [(0, .ref (ad G 0)), (1, .int i)] (by decide +kernel) (Nat.le_of_ble_eq_true rfl) rfl ?_
  intro p e s m args below meth c0 C hin
  refine h_join (α := Option Nat) 31 (fun r => r = cAt σ i) (fun r => [(0, .ref (ad G 0)), (1, .int i)]) (fun r => [rf G r]) (fun r => σ) (fun r => 0) (fun r => 0) ?_ (fun J_1 => ?_)
  · rintro r hJ
    show hW _ _ _ _ _ _ _ _ _ _ _ _ _ 31 [(0, .ref (ad G 0)), (1, .int i)] [rf G r] σ 0 0
    refine h_aret C r rfl (by first | exact Or.inl ⟨_, rfl⟩ | exact Or.inr ⟨_, rfl⟩) (Nat.zero_le _) (Nat.zero_le _) dX10_contactAt_31 ?_
    refine ⟨?_, rfl⟩
    rw [hJ]
  · refine h_iload_n C 1 dX10_contactAt_0 rfl rfl ?_
    refine h_if_lt C 30 dX10_contactAt_1 (by decide) (fun c_1 => ?_) (fun c_1 => ?_)
    · refine h_null C dX10_contactAt_30 ?_
      refine J_1 none ?_
      unfold cAt
      rw [if_neg (fun q => absurd c_1 (Int32.not_lt.mpr q.1))]
    · refine h_iload_n C 1 dX10_contactAt_4 rfl rfl ?_
      refine h_aload_n C 0 dX10_contactAt_5 rfl rfl ?_
      refine gfX10_15 C (ty_0 hY) dX10_contactAt_6 ?_
      refine h_icmp_ge C 30 dX10_contactAt_9 (by decide) (fun c_9 => ?_) (fun c_9 => ?_)
      · refine h_null C dX10_contactAt_30 ?_
        refine J_1 none ?_
        unfold cAt
        rw [if_neg (fun q => absurd q.2 (Int32.not_lt.mpr c_9))]
      · refine h_iload_n C 1 dX10_contactAt_12 rfl rfl ?_
        refine h_aload_n C 0 dX10_contactAt_13 rfl rfl ?_
        refine gfX10_11 C (ty_0 hY) dX10_contactAt_14 ?_
        refine h_tref (b := 1) (rf_0_0 hY) ?_
        refine h_alen C (ty_1 hY) (by decide) dX10_contactAt_17 ?_
        refine h_icmp_ge C 30 dX10_contactAt_18 (by decide) (fun c_18 => ?_) (fun c_18 => ?_)
        · exact absurd (Int32.lt_of_lt_of_le (Int32.not_le.mp c_9) hP.2.1) (Int32.not_lt.mpr c_18)
        · refine h_aload_n C 0 dX10_contactAt_21 rfl rfl ?_
          refine gfX10_11 C (ty_0 hY) dX10_contactAt_22 ?_
          refine h_tref (b := 1) (rf_0_0 hY) ?_
          refine h_iload_n C 1 dX10_contactAt_25 rfl rfl ?_
          refine h_pald C (ty_1 hY) (vp32 (N := 10) (Int32.not_lt.mp c_1) (Int32.lt_of_lt_of_le (Int32.not_le.mp c_9) hP.2.1) (by decide)) dX10_contactAt_26 ?_
          refine h_topt (fun o_2 => ?_) (fun b_3 o_2 => ?_)
          · refine h_goto C 31 dX10_contactAt_27 (by decide) ?_
            refine J_1 none ?_
            unfold cAt
            rw [if_pos ⟨Int32.not_lt.mp c_1, Int32.not_le.mp c_9⟩]
            first | exact o_1.symm | exact o_2.symm
          · refine h_goto C 31 dX10_contactAt_27 (by decide) ?_
            refine J_1 (some b_3) ?_
            unfold cAt
            rw [if_pos ⟨Int32.not_lt.mp c_1, Int32.not_le.mp c_9⟩]
            first | exact o_1.symm | exact o_2.symm
set_option maxRecDepth 100000 in
set_option maxHeartbeats 4000000 in
theorem m_X10_placerAt {G : ha_G} {l : Launch} {σ : ha_St} {i : Int32} (hY : LY σ) (hP : PN σ) : hM G l yX10_placerAt cX10_placerAt 3 (some (.object "HeldPart$Pin")) { frames := 1, cells := 0, slots := 0, locals := 21 } [.ref (ad G 0), .int i] σ (fun v σ' => v = some (rf G (pAt σ i)) ∧ σ' = σ) := by
  refine hM_ofF [(0, .ref (ad G 0)), (1, .int i)] (by decide +kernel) (Nat.le_of_ble_eq_true rfl) rfl ?_
  intro p e s m args below meth c0 C hin
  refine h_aload_n C 0 dX10_placerAt_0 rfl rfl ?_
  refine h_iload_n C 1 dX10_placerAt_1 rfl rfl ?_
  refine h_callV C (m_X10_contactAt hY hP) caX10_90 kX10 (ty_0 hY) ⟨by decide, by decide, by decide, by decide⟩ rfl rfl (Nat.le_of_ble_eq_true rfl) dX10_placerAt_2 ?_
  rintro v σ' ⟨rfl, h2⟩; rw [h2]; clear h2
  show hW _ _ _ _ _ _ _ _ _ _ _ _ _ 5 [(0, .ref (ad G 0)), (1, .int i)] [rf G (cAt σ i)] σ 0 0
  refine h_topt (fun o_1 => ?_) (fun b_2 o_1 => ?_)
  · refine h_astore_nN C [(2, .null), (0, .ref (ad G 0)), (1, .int i)] dX10_placerAt_5 rfl (by decide) rfl ?_
    refine h_aload_nN C 0 dX10_placerAt_6 rfl rfl ?_
    refine h_ifnullN C 21 dX10_placerAt_7 (by decide) ?_
    refine h_null C dX10_placerAt_21 ?_
    refine h_aret C none rfl (by first | exact Or.inl ⟨_, rfl⟩ | exact Or.inr ⟨_, rfl⟩) (Nat.zero_le _) (Nat.zero_le _) dX10_placerAt_22 ?_
    refine ⟨?_, rfl⟩
    rw [pAt_none o_1]
  · obtain ⟨t_2, hT_2, ht_2, hb_2, hi_2, hj_2, hr_2⟩ := cAt_some hP o_1
    refine h_astore_n C [(2, .ref (ad G b_2)), (0, .ref (ad G 0)), (1, .int i)] dX10_placerAt_5 rfl (by decide) rfl ?_
    refine h_aload_n C 0 dX10_placerAt_6 rfl rfl ?_
    refine h_ifnull C dX10_placerAt_7 ?_
    refine h_aload_n C 0 dX10_placerAt_10 rfl rfl ?_
    refine cvX10_100 C hT_2 ht_2 (by decide) (by decide) (by decide) (by decide) (Nat.le_of_ble_eq_true rfl) dX10_placerAt_11 ?_
    refine h_if_eq C 21 dX10_placerAt_14 (by decide) (fun c_14 => ?_) (fun c_14 => ?_)
    · refine h_null C dX10_placerAt_21 ?_
      refine h_aret C none rfl (by first | exact Or.inl ⟨_, rfl⟩ | exact Or.inr ⟨_, rfl⟩) (Nat.zero_le _) (Nat.zero_le _) dX10_placerAt_22 ?_
      refine ⟨?_, rfl⟩
      rw [pAt_of o_1 hT_2, if_pos (by unfold placesOf at c_14; by_cases q : t_2 = 2; exact q; rw [if_neg q] at c_14; exact absurd c_14 (by decide))]
    · refine h_aload_n C 0 dX10_placerAt_17 rfl rfl ?_
      refine h_goto C 22 dX10_placerAt_18 (by decide) ?_
      refine h_aret C (some b_2) rfl (by first | exact Or.inl ⟨_, rfl⟩ | exact Or.inr ⟨_, rfl⟩) (Nat.zero_le _) (Nat.zero_le _) dX10_placerAt_22 ?_
      refine ⟨?_, rfl⟩
      rw [pAt_of o_1 hT_2, if_neg (by intro q; rw [q] at c_14; exact c_14 (by decide))]
def sAt (i : Int32) : Option Nat := if 0 ≤ i ∧ i < 8 then some (36 + i.toNatClampNeg) else none
theorem rf_35 {σ : ha_St} (h : LY σ) {i : Int32} (h0 : 0 ≤ i) (h1 : i < 8) : gR σ 35 i.toNatClampNeg = some (36 + i.toNatClampNeg) := by
  have h2 := tn_lt h0 h1
  rw [show (8 : Int32).toNatClampNeg = 8 by decide] at h2
  refine h.2.1 (35, i.toNatClampNeg, 36 + i.toNatClampNeg) ?_
  generalize i.toNatClampNeg = k at h2
  revert k
  decide
set_option maxRecDepth 100000 in
set_option maxHeartbeats 4000000 in
theorem m_X10_shelfAt {G : ha_G} {l : Launch} {σ : ha_St} {i : Int32} (hY : LY σ) : hM G l yX10_shelfAt cX10_shelfAt 2 (some (.object "HeldPart$Shelf")) { frames := 0, cells := 0, slots := 0, locals := 0 } [.ref (ad G 0), .int i] σ (fun v σ' => v = some (rf G (sAt i)) ∧ σ' = σ) := by
  refine hM_ofF [(0, .ref (ad G 0)), (1, .int i)] (by decide +kernel) (Nat.le_of_ble_eq_true rfl) rfl ?_
  intro p e s m args below meth c0 C hin
  refine h_join (α := Option Nat) 23 (fun r => r = sAt i) (fun r => [(0, .ref (ad G 0)), (1, .int i)]) (fun r => [rf G r]) (fun r => σ) (fun r => 0) (fun r => 0) ?_ (fun J_1 => ?_)
  · rintro r hJ
    show hW _ _ _ _ _ _ _ _ _ _ _ _ _ 23 [(0, .ref (ad G 0)), (1, .int i)] [rf G r] σ 0 0
    refine h_aret C r rfl (by first | exact Or.inl ⟨_, rfl⟩ | exact Or.inr ⟨_, rfl⟩) (Nat.zero_le _) (Nat.zero_le _) dX10_shelfAt_23 ?_
    refine ⟨?_, rfl⟩
    rw [hJ]
  · refine h_iload_n C 1 dX10_shelfAt_0 rfl rfl ?_
    refine h_if_lt C 22 dX10_shelfAt_1 (by decide) (fun c_1 => ?_) (fun c_1 => ?_)
    · refine h_null C dX10_shelfAt_22 ?_
      refine J_1 none ?_
      unfold sAt
      rw [if_neg (fun q => absurd c_1 (Int32.not_lt.mpr q.1))]
    · refine h_iload_n C 1 dX10_shelfAt_4 rfl rfl ?_
      refine h_aload_n C 0 dX10_shelfAt_5 rfl rfl ?_
      refine gfX10_67 C (ty_0 hY) dX10_shelfAt_6 ?_
      refine h_tref (b := 35) (rf_0_10 hY) ?_
      refine h_alen C (ty_35 hY) (by decide) dX10_shelfAt_9 ?_
      refine h_icmp_ge C 22 dX10_shelfAt_10 (by decide) (fun c_10 => ?_) (fun c_10 => ?_)
      · refine h_null C dX10_shelfAt_22 ?_
        refine J_1 none ?_
        unfold sAt
        rw [if_neg (fun q => absurd q.2 (Int32.not_lt.mpr c_10))]
      · refine h_aload_n C 0 dX10_shelfAt_13 rfl rfl ?_
        refine gfX10_67 C (ty_0 hY) dX10_shelfAt_14 ?_
        refine h_tref (b := 35) (rf_0_10 hY) ?_
        refine h_iload_n C 1 dX10_shelfAt_17 rfl rfl ?_
        refine h_sald C (ty_35 hY) (vp32 (N := 8) (Int32.not_lt.mp c_1) (Int32.not_le.mp c_10) (by decide)) dX10_shelfAt_18 ?_
        refine h_tref (b := (36 + i.toNatClampNeg)) (rf_35 hY (Int32.not_lt.mp c_1) (Int32.not_le.mp c_10)) ?_
        refine h_goto C 23 dX10_shelfAt_19 (by decide) ?_
        refine J_1 (some (36 + i.toNatClampNeg)) ?_
        unfold sAt
        rw [if_pos ⟨Int32.not_lt.mp c_1, Int32.not_le.mp c_10⟩]
def mkTag (kind : Int32) : Nat := if kind = 1 then 6 else if kind = 2 then 2 else if kind = 3 then 1 else 8
theorem mkTag_pT {kind : Int32} : pT (mkTag kind) := by unfold mkTag pT; split; · simp
                                                        split; · simp
                                                        split <;> simp
def mkPin (σ : ha_St) (kind d x y g b : Int32) : ha_St := if kind = 1 ∨ kind = 3 then sI (pinIni (sN σ (mkTag kind) 0) (gn σ) d x y b) (gn σ) 8 g else pinIni (sN σ (mkTag kind) 0) (gn σ) d x y b
theorem sN_T {σ : ha_St} {t n : Nat} : gT (sN σ t n) (gn σ) = (t, n) := by rw [gT_sN, if_pos rfl]
set_option maxRecDepth 100000 in
set_option maxHeartbeats 4000000 in
theorem m_X10_made {G : ha_G} {l : Launch} {σ : ha_St} {kind d x y g b : Int32} (hd : 0 ≤ d ∧ d < 8) : hM G l yX10_made cX10_made 6 (some (.object "HeldPart$Pin")) { frames := 4, cells := 1, slots := 9, locals := 95 } [.int kind, .int d, .int x, .int y, .int g, .int b] σ (fun v σ' => v = some (.ref (ad G (gn σ))) ∧ σ' = mkPin σ kind d x y g b) := by
  refine hM_ofF [(0, .int kind), (1, .int d), (2, .int x), (3, .int y), (4, .int g), (5, .int b)] (by decide +kernel) (Nat.le_of_ble_eq_true rfl) rfl ?_
  intro p e s m args below meth c0 C hin
  refine h_iload_n C 0 dX10_made_0 rfl rfl ?_
  by_cases q_1_1 : kind = 1
  · refine h_tableIn C 28 dX10_made_1 (by rw [q_1_1]; decide) (by rw [q_1_1]; decide) (by rw [q_1_1]; rfl) (by decide) ?_
    refine h_new C kX5 clX10_339 isX5 iniX5 dfX5 (by decide) (by decide) dX10_made_28 ?_
    refine h_dup C dX10_made_31 rfl ?_
    refine h_iload_n C 1 dX10_made_32 rfl rfl ?_
    refine h_iload_n C 2 dX10_made_33 rfl rfl ?_
    refine h_iload_n C 3 dX10_made_34 rfl rfl ?_
    refine h_iload C 4 dX10_made_35 rfl ?_
    refine h_iload C 5 dX10_made_37 rfl ?_
    refine h_callI C (m_X5_init_6 hd sN_T) caX10_341 ⟨by decide, by decide, by decide, by decide⟩ rfl rfl (Nat.le_of_ble_eq_true rfl) dX10_made_39 ?_
    rintro v σ' ⟨rfl, h2⟩; rw [h2]; clear h2
    show hW _ _ _ _ _ _ _ _ _ _ _ _ _ 42 [(0, .int kind), (1, .int d), (2, .int x), (3, .int y), (4, .int g), (5, .int b)] [.ref (ad G (gn σ))] (sI (pinIni (sN σ 6 0) (gn σ) d x y b) (gn σ) 8 g) 1 9
    refine h_aret C (some (gn σ)) rfl (by first | exact Or.inl ⟨_, rfl⟩ | exact Or.inr ⟨_, rfl⟩) (by decide) (by decide) dX10_made_42 ?_
    refine ⟨rfl, ?_⟩
    unfold mkPin mkTag
    rw [if_pos (Or.inl q_1_1), if_pos q_1_1]
  by_cases q_1_2 : kind = 2
  · refine h_tableIn C 43 dX10_made_1 (by rw [q_1_2]; decide) (by rw [q_1_2]; decide) (by rw [q_1_2]; rfl) (by decide) ?_
    refine h_new C kX1 clX10_344 isX1 iniX1 dfX1 (by decide) (by decide) dX10_made_43 ?_
    refine h_dup C dX10_made_46 rfl ?_
    refine h_iload_n C 1 dX10_made_47 rfl rfl ?_
    refine h_iload_n C 2 dX10_made_48 rfl rfl ?_
    refine h_iload_n C 3 dX10_made_49 rfl rfl ?_
    refine h_iload C 5 dX10_made_50 rfl ?_
    refine h_callI C (m_X1_init_2 hd sN_T) caX10_346 ⟨by decide, by decide, by decide, by decide⟩ rfl rfl (Nat.le_of_ble_eq_true rfl) dX10_made_52 ?_
    rintro v σ' ⟨rfl, h2⟩; rw [h2]; clear h2
    show hW _ _ _ _ _ _ _ _ _ _ _ _ _ 55 [(0, .int kind), (1, .int d), (2, .int x), (3, .int y), (4, .int g), (5, .int b)] [.ref (ad G (gn σ))] (pinIni (sN σ 2 0) (gn σ) d x y b) 1 8
    refine h_aret C (some (gn σ)) rfl (by first | exact Or.inl ⟨_, rfl⟩ | exact Or.inr ⟨_, rfl⟩) (by decide) (by decide) dX10_made_55 ?_
    refine ⟨rfl, ?_⟩
    unfold mkPin mkTag
    rw [if_neg (fun q => q.elim q_1_1 (fun z => absurd (q_1_2.symm.trans z) (by decide))), if_neg q_1_1, if_pos q_1_2]
  by_cases q_1_3 : kind = 3
  · refine h_tableIn C 56 dX10_made_1 (by rw [q_1_3]; decide) (by rw [q_1_3]; decide) (by rw [q_1_3]; rfl) (by decide) ?_
    refine h_new C kX0 clX10_349 isX0 iniX0 dfX0 (by decide) (by decide) dX10_made_56 ?_
    refine h_dup C dX10_made_59 rfl ?_
    refine h_iload_n C 1 dX10_made_60 rfl rfl ?_
    refine h_iload_n C 2 dX10_made_61 rfl rfl ?_
    refine h_iload_n C 3 dX10_made_62 rfl rfl ?_
    refine h_iload C 4 dX10_made_63 rfl ?_
    refine h_iload C 5 dX10_made_65 rfl ?_
    refine h_callI C (m_X0_init_1 hd sN_T) caX10_351 ⟨by decide, by decide, by decide, by decide⟩ rfl rfl (Nat.le_of_ble_eq_true rfl) dX10_made_67 ?_
    rintro v σ' ⟨rfl, h2⟩; rw [h2]; clear h2
    show hW _ _ _ _ _ _ _ _ _ _ _ _ _ 70 [(0, .int kind), (1, .int d), (2, .int x), (3, .int y), (4, .int g), (5, .int b)] [.ref (ad G (gn σ))] (sI (pinIni (sN σ 1 0) (gn σ) d x y b) (gn σ) 8 g) 1 9
    refine h_aret C (some (gn σ)) rfl (by first | exact Or.inl ⟨_, rfl⟩ | exact Or.inr ⟨_, rfl⟩) (by decide) (by decide) dX10_made_70 ?_
    refine ⟨rfl, ?_⟩
    unfold mkPin mkTag
    rw [if_pos (Or.inr q_1_3), if_neg q_1_1, if_neg q_1_2, if_pos q_1_3]
  refine h_tableOut C 71 dX10_made_1 (by have e_1 := lv_neT q_1_1 (a := 1) (by decide); have e_2 := lv_neT q_1_2 (a := 2) (by decide); have e_3 := lv_neT q_1_3 (a := 3) (by decide); omega) (by decide) ?_
  refine h_new C kX7 clX10_9 isX7 iniX7 dfX7 (by decide) (by decide) dX10_made_71 ?_
  refine h_dup C dX10_made_74 rfl ?_
  refine h_iload_n C 1 dX10_made_75 rfl rfl ?_
  refine h_iload_n C 2 dX10_made_76 rfl rfl ?_
  refine h_iload_n C 3 dX10_made_77 rfl rfl ?_
  refine h_iload C 5 dX10_made_78 rfl ?_
  refine h_callI C (m_X7_init_8 hd sN_T) caX10_352 ⟨by decide, by decide, by decide, by decide⟩ rfl rfl (Nat.le_of_ble_eq_true rfl) dX10_made_80 ?_
  rintro v σ' ⟨rfl, h2⟩; rw [h2]; clear h2
  show hW _ _ _ _ _ _ _ _ _ _ _ _ _ 83 [(0, .int kind), (1, .int d), (2, .int x), (3, .int y), (4, .int g), (5, .int b)] [.ref (ad G (gn σ))] (pinIni (sN σ 8 0) (gn σ) d x y b) 1 8
  refine h_aret C (some (gn σ)) rfl (by first | exact Or.inl ⟨_, rfl⟩ | exact Or.inr ⟨_, rfl⟩) (by decide) (by decide) dX10_made_83 ?_
  refine ⟨rfl, ?_⟩
  unfold mkPin mkTag
  rw [if_neg (fun q => q.elim q_1_1 q_1_3), if_neg q_1_1, if_neg q_1_2, if_neg q_1_3]
