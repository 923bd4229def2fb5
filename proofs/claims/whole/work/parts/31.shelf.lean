/-! ===== shelves ===== -/
section
variable {p : Program} {l : Launch} {e : Env} {R : Room} {s : State} {m : MethodId} {args : Array Value} {below : List Frame} {meth : Method} {c : Code} {Q : State → Prop} {G : ha_G} {cc : ByteArray} {own : String} {ret : Option FieldType} {nL pc : Nat} {lv lv' : List (Nat × Value)} {st : List Value} {σ : ha_St} {k n : Nat}
theorem sys_n : Cond.native arraycopyName ∈ gtbl := g_at 890 (by decide +kernel) (by decide +kernel)
theorem sys_s : Cond.static arraycopyName ∈ gtbl := g_at 889 (by decide +kernel) (by decide +kernel)
theorem sys_i : Cond.initialized "java/lang/System" ∈ gtbl := g_at 90 (by decide +kernel) (by decide +kernel)
theorem sys_l : Cond.methodLink RX9 28 arraycopyName ∈ gtbl := g_at 888 (by decide +kernel) (by decide +kernel)
theorem nn32 (z : Int32) (hz : ¬ z < 0) : z.toInt = (z.toNatClampNeg : Int) := (tn_int (Int32.not_lt.mp hz)).symm
/-- a stretch copied: from one array of whole numbers to another, or the same -/
theorem h_copyG (C : hX p s m args meth c G cc own nL ret) {index a b na nb tI : Nat} {cI : ClassId} {ty : FieldType} {sp dp x : Int32} (w1 : Cond.methodLink own index arraycopyName ∈ gtbl) (ht : (hTy G)[tI]? = some (cI, ty)) (hprim : refKind ty = false)
    (ha0 : (gT σ a).1 ≠ 0) (hb0 : (gT σ b).1 ≠ 0) (hEa : hE G σ a = .inl (cI, na, .inl (gI σ a))) (hEb : hE G σ b = .inl (cI, nb, .inl (gI σ b))) (hEc : hE G (sC σ a b sp.toNatClampNeg dp.toNatClampNeg x.toNatClampNeg) b = .inl (cI, nb, .inl (va_cpy (gI σ a) (gI σ b) sp.toNatClampNeg dp.toNatClampNeg x.toNatClampNeg)))
    (g : (¬ sp < 0) ∧ (¬ dp < 0) ∧ (¬ x < 0) ∧ sp.toNatClampNeg + x.toNatClampNeg ≤ na ∧ dp.toNatClampNeg + x.toNatClampNeg ≤ nb) (hfit : ∀ i, i < x.toNatClampNeg → fits ty (.int (gI σ a (sp.toNatClampNeg + i))) = true)
    (hf : 1 ≤ R.frames) (hl : (st.map fun v => v.category).sum + (nativeFrameWords "java/lang/System" "arraycopy" 5 + 11) ≤ R.locals) (hd : decode cc pc = .ok (.invokestatic index, 3))
    (kk : hW p l e R s m args below meth c Q G nL (pc + 3) lv st (sC σ a b sp.toNatClampNeg dp.toNatClampNeg x.toNatClampNeg) k n) : hW p l e R s m args below meth c Q G nL pc lv (.int x :: .int dp :: .ref (ad G b) :: .int sp :: .ref (ad G a) :: st) σ k n := by
  intro H locs ls h1 h2 h3 T hT X
  obtain ⟨g1, g2, g3, g4, g5⟩ := g
  have hts := C.2.2.2.2.1
  have hc0 : H[ad G a]? = some (vp_cell cI (na, .inl (gI σ a))) := h1.one ha0 hEa 0 _ rfl
  have hc1 : H[ad G b]? = some (vp_cell cI (nb, .inl (gI σ b))) := h1.one hb0 hEb 0 _ rfl
  obtain ⟨-, k0, hk0, cm0, hkk0⟩ := (C.2.2.2.2.2.1.1.2 tI _ ht).1 na (fun j => .int (gI σ a j))
  obtain ⟨-, k1, hk1, cm1, hkk1⟩ := (C.2.2.2.2.2.1.1.2 tI _ ht).1 nb (fun j => .int (gI σ b j))
  obtain ⟨vm', X', step⟩ := X.arraycopy C.1 C.2.2.2.1 (hts _ w1) (hts _ sys_n) (hts _ sys_s) (hts _ sys_i) (src := ad G a) (dst := ad G b) (cs := vp_cell cI (na, .inl (gI σ a))) (cd := vp_cell cI (nb, .inl (gI σ b))) (srcPos := sp) (destPos := dp) (n := x) (by rw [hT]; exact hc0) (by rw [hT]; exact hc1)
    (fun _ h => by cases h) (fun _ h => by cases h) (fun h => by cases h) (fun h => by cases h) hk0 hk1 hkk0 hkk1 (by simp [hprim]) g1 g2 g3
    (by rw [nn32 sp g1, nn32 x g3]; show ¬ _ > ((arrV cI na (fun j => .int (gI σ a j))).slots.size : Int); rw [arrV_size]; omega)
    (by rw [nn32 dp g2, nn32 x g3]; show ¬ _ > ((arrV cI nb (fun j => .int (gI σ b j))).slots.size : Int); rw [arrV_size]; omega)
    (fun vm₁ _ i hi => by
      have e : (vp_cell cI (na, .inl (gI σ a))).slots.getD (sp.toNatClampNeg + i) .null = .int (gI σ a (sp.toNatClampNeg + i)) := by
        show (arrV cI na (fun j => .int (gI σ a j))).slots.getD _ _ = _
        rw [Array.getD_eq_getD_getElem?, arrV_read _ _ (by omega)]
        rfl
      refine ⟨?_, ?_⟩
      · rw [e]
        exact hfit i hi
      · rw [e]
        exact trivial)
    (g := F0 m pc ls (.int x :: .int dp :: .ref (ad G b) :: .int sp :: .ref (ad G a) :: st)) rfl (by show ls.size = _; rw [h3.1, C.2.2.1]) (rest := st) rfl (by rw [C.2.1]; exact hd) hf (by show 2 * 0 + _ + _ ≤ _; omega)
  have e1 : copied (vp_cell cI (na, .inl (gI σ a))) (vp_cell cI (nb, .inl (gI σ b))) sp dp x = vp_cell cI (nb, .inl (va_cpy (gI σ a) (gI σ b) sp.toNatClampNeg dp.toNatClampNeg x.toNatClampNeg)) := va_copied (fun z => .int z) cI cI (gI σ a) (gI σ b) g4
  rw [e1] at X' step
  have hlb : ad G b < H.size := (Array.getElem?_eq_some_iff.mp hc1).1
  have oq : ∀ q : Nat, q ≠ ad G b → (H.setIfInBounds (ad G b) (vp_cell cI (nb, .inl (va_cpy (gI σ a) (gI σ b) sp.toNatClampNeg dp.toNatClampNeg x.toNatClampNeg))))[q]? = H[q]? := fun q hq => by simp [Array.getElem?_setIfInBounds, Ne.symm hq]
  have hheap : ((T.setVm vm').setCell (ad G b) (vp_cell cI (nb, .inl (va_cpy (gI σ a) (gI σ b) sp.toNatClampNeg dp.toNatClampNeg x.toNatClampNeg)))).heap = H.setIfInBounds (ad G b) (vp_cell cI (nb, .inl (va_cpy (gI σ a) (gI σ b) sp.toNatClampNeg dp.toNatClampNeg x.toNatClampNeg))) := by rw [← hT]; rfl
  have zq : (H.setIfInBounds (ad G b) (vp_cell cI (nb, .inl (va_cpy (gI σ a) (gI σ b) sp.toNatClampNeg dp.toNatClampNeg x.toNatClampNeg)))).size = H.size := by simp
  obtain ⟨t, a1, b1⟩ := kk _ _ ls (h1.set (a := b) (σ' := sC σ a b sp.toNatClampNeg dp.toNatClampNeg x.toNatClampNeg) rfl rfl zq oq (fun y hy => hE_congr (funext fun z => by rw [gI_sC, if_neg hy]) rfl rfl rfl) (by
      rw [hEc]
      show (H.setIfInBounds _ _)[ad G b]? = some (vp_cell _ _)
      simp [Array.getElem?_setIfInBounds, hlb])) ⟨by rw [zq]; exact h2.1, fun q q1 q2 => by
      rw [oq q (fun e => q2 (by rw [e]; show G.2.1 ≤ ad G b; unfold ad; omega))]
      exact h2.2.1 q q1 q2, fun q hq => by
      rcases List.mem_append.mp hq with h | h
      · exact h2.2.2 q h
      · obtain ⟨z, -, hz⟩ := List.mem_map.mp h
        rw [← hz]
        show G.2.1 ≤ ad G b
        unfold ad; omega⟩ h3 _ hheap X'
  exact ⟨t, step t a1, b1⟩
theorem h_copyI (C : hX p s m args meth c G cc own nL ret) {index a b na nb : Nat} {sp dp x : Int32} (w1 : Cond.methodLink own index arraycopyName ∈ gtbl) (hTa : gT σ a = (20, na)) (hTb : gT σ b = (20, nb))
    (g : ((¬ sp < 0) ∧ (¬ dp < 0) ∧ (¬ x < 0) ∧ sp.toNatClampNeg + x.toNatClampNeg ≤ na ∧ dp.toNatClampNeg + x.toNatClampNeg ≤ nb) ∧ True)
    (hf : 1 ≤ R.frames) (hl : (st.map fun v => v.category).sum + (nativeFrameWords "java/lang/System" "arraycopy" 5 + 11) ≤ R.locals) (hd : decode cc pc = .ok (.invokestatic index, 3))
    (kk : hW p l e R s m args below meth c Q G nL (pc + 3) lv st (sC σ a b sp.toNatClampNeg dp.toNatClampNeg x.toNatClampNeg) k n) : hW p l e R s m args below meth c Q G nL pc lv (.int x :: .int dp :: .ref (ad G b) :: .int sp :: .ref (ad G a) :: st) σ k n :=
  h_copyG C (tI := 0) w1 rfl rfl (by rw [hTa]; exact Nat.succ_ne_zero _) (by rw [hTb]; exact Nat.succ_ne_zero _) (hE_i hTa) (hE_i hTb) (by rw [hE_i (show gT (sC σ a b _ _ _) b = (20, nb) from hTb)]; rw [show gI (sC σ a b sp.toNatClampNeg dp.toNatClampNeg x.toNatClampNeg) b = va_cpy (gI σ a) (gI σ b) sp.toNatClampNeg dp.toNatClampNeg x.toNatClampNeg from funext fun y => by rw [gI_sC, if_pos rfl]]) g.1 (fun _ _ => rfl) hf hl hd kk
theorem h_copyB (C : hX p s m args meth c G cc own nL ret) {index a b na nb : Nat} {sp dp x : Int32} (w1 : Cond.methodLink own index arraycopyName ∈ gtbl) (hTa : gT σ a = (22, na)) (hTb : gT σ b = (22, nb))
    (g : ((¬ sp < 0) ∧ (¬ dp < 0) ∧ (¬ x < 0) ∧ sp.toNatClampNeg + x.toNatClampNeg ≤ na ∧ dp.toNatClampNeg + x.toNatClampNeg ≤ nb) ∧ ∀ i, fits .byte (.int (gI σ a i)) = true)
    (hf : 1 ≤ R.frames) (hl : (st.map fun v => v.category).sum + (nativeFrameWords "java/lang/System" "arraycopy" 5 + 11) ≤ R.locals) (hd : decode cc pc = .ok (.invokestatic index, 3))
    (kk : hW p l e R s m args below meth c Q G nL (pc + 3) lv st (sC σ a b sp.toNatClampNeg dp.toNatClampNeg x.toNatClampNeg) k n) : hW p l e R s m args below meth c Q G nL pc lv (.int x :: .int dp :: .ref (ad G b) :: .int sp :: .ref (ad G a) :: st) σ k n :=
  h_copyG C (tI := 2) w1 rfl rfl (by rw [hTa]; exact Nat.succ_ne_zero _) (by rw [hTb]; exact Nat.succ_ne_zero _) (hE_b hTa) (hE_b hTb) (by rw [hE_b (show gT (sC σ a b _ _ _) b = (22, nb) from hTb)]; rw [show gI (sC σ a b sp.toNatClampNeg dp.toNatClampNeg x.toNatClampNeg) b = va_cpy (gI σ a) (gI σ b) sp.toNatClampNeg dp.toNatClampNeg x.toNatClampNeg from funext fun y => by rw [gI_sC, if_pos rfl]]) g.1 (fun i _ => g.2 _) hf hl hd kk
end
def shX (σ : ha_St) (a : Nat) : ha_St := sR (sR (sR σ a 0 none) a 1 none) a 2 none
/-- what lies on a shelf: a contact, whole numbers, bytes -/
def SV (σ : ha_St) (a : Nat) : Prop := gT σ a = (10, 0) ∧ (∀ b, gR σ a 0 = some b → ∃ t, gT σ b = (t, 0) ∧ pT t) ∧ (∀ b, gR σ a 1 = some b → ∃ n, n ≤ 60 ∧ gT σ b = (20, n)) ∧ (∀ b, gR σ a 2 = some b → ∃ n, n ≤ 60 ∧ gT σ b = (22, n) ∧ ∀ i, fits .byte (.int (gI σ b i)) = true)
abbrev bareP (σ : ha_St) (a : Nat) : Prop := gR σ a 0 = none ∧ gR σ a 1 = none ∧ gR σ a 2 = none
abbrev likeP (σ : ha_St) (a b : Nat) : Prop := (gR σ a 1 ≠ none ∧ gR σ b 1 ≠ none) ∨ (gR σ a 2 ≠ none ∧ gR σ b 2 ≠ none)
def shLen (σ : ha_St) (a : Nat) : Nat := match gR σ a 1 with
  | some b => (gT σ b).2
  | none => match gR σ a 2 with
    | some b => (gT σ b).2
    | none => 0
theorem shLen_1 {σ : ha_St} {a b n : Nat} (h : gR σ a 1 = some b) (hT : gT σ b = (20, n)) : shLen σ a = n := by unfold shLen; rw [h]; simp only [hT]
theorem shLen_2 {σ : ha_St} {a b n : Nat} (h : gR σ a 1 = none) (h2 : gR σ a 2 = some b) (hT : gT σ b = (22, n)) : shLen σ a = n := by unfold shLen; rw [h]; simp only [h2, hT]
theorem shLen_0 {σ : ha_St} {a : Nat} (h : gR σ a 1 = none) (h2 : gR σ a 2 = none) : shLen σ a = 0 := by unfold shLen; rw [h]; simp only [h2]
abbrev plcP (σ : ha_St) (a : Nat) (i n : Int32) : Prop := 0 ≤ i ∧ 0 ≤ n ∧ n ≤ Int32.ofNat (shLen σ a) ∧ i ≤ Int32.ofNat (shLen σ a) - n
theorem isB1 {P : Prop} (h : P) : isB 1 P := Or.inl ⟨rfl, h⟩
theorem isB0 {P : Prop} (h : ¬ P) : isB 0 P := Or.inr ⟨rfl, h⟩
theorem isB_1 {P : Prop} {r : Int32} (h : isB r P) (hr : ¬ r = 0) : P := by
  rcases h with ⟨-, h⟩ | ⟨e, -⟩
  · exact h
  · exact absurd e hr
theorem isB_0 {P : Prop} {r : Int32} (h : isB r P) (hr : r = 0) : ¬ P := by
  rcases h with ⟨e, -⟩ | ⟨-, h⟩
  · rw [hr] at e
    exact absurd e (by decide)
  · exact h
set_option maxRecDepth 100000 in
set_option maxHeartbeats 4000000 in
theorem m_X9_clear {G : ha_G} {l : Launch} {σ : ha_St} {a : Nat} (hT : gT σ a = (10, 0)) : hM G l yX9_clear cX9_clear 1 none { frames := 0, cells := 0, slots := 0, locals := 0 } [.ref (ad G a)] σ (fun v σ' => v = none ∧ σ' = shX σ a) := by
  refine hM_ofF [(0, .ref (ad G a))] (by decide +kernel) (Nat.le_of_ble_eq_true rfl) rfl ?_
  intro p e s m args below meth c0 C hin
  refine h_aload_n C 0 dX9_clear_0 rfl rfl ?_
  refine h_null C dX9_clear_1 ?_
  refine pfX9_7N C hT dX9_clear_2 ?_
  refine h_aload_n C 0 dX9_clear_5 rfl rfl ?_
  refine h_null C dX9_clear_6 ?_
  refine pfX9_13N C hT dX9_clear_7 ?_
  refine h_aload_n C 0 dX9_clear_10 rfl rfl ?_
  refine h_null C dX9_clear_11 ?_
  refine pfX9_17N C hT dX9_clear_12 ?_
  refine h_vret C rfl (Nat.zero_le _) (Nat.zero_le _) dX9_clear_15 ?_
  exact ⟨rfl, rfl⟩
set_option maxRecDepth 100000 in
set_option maxHeartbeats 4000000 in
theorem m_X9_take {G : ha_G} {l : Launch} {σ : ha_St} {a b : Nat} (hT : gT σ a = (10, 0)) : hM G l yX9_take cX9_take 2 none { frames := 1, cells := 0, slots := 0, locals := 20 } [.ref (ad G a), .ref (ad G b)] σ (fun v σ' => v = none ∧ σ' = sR (shX σ a) a 0 (some b)) := by
  refine hM_ofF [(0, .ref (ad G a)), (1, .ref (ad G b))] (by decide +kernel) (Nat.le_of_ble_eq_true rfl) rfl ?_
  intro p e s m args below meth c0 C hin
  refine h_aload_n C 0 dX9_take_0 rfl rfl ?_
  refine h_callV C (m_X9_clear hT) caX9_21 kX9 hT ⟨by decide, by decide, by decide, by decide⟩ rfl rfl (Nat.le_of_ble_eq_true rfl) dX9_take_1 ?_
  rintro v σ' ⟨rfl, h2⟩; rw [h2]; clear h2
  show hW _ _ _ _ _ _ _ _ _ _ _ _ _ 4 [(0, .ref (ad G a)), (1, .ref (ad G b))] [] (shX σ a) 0 0
  have hT : gT (shX σ a) a = (10, 0) := hT
  refine h_aload_n C 0 dX9_take_4 rfl rfl ?_
  refine h_aload_n C 1 dX9_take_5 rfl rfl ?_
  refine pfX9_7 C hT dX9_take_6 ?_
  refine h_vret C rfl (Nat.zero_le _) (Nat.zero_le _) dX9_take_9 ?_
  exact ⟨rfl, rfl⟩
set_option maxRecDepth 100000 in
set_option maxHeartbeats 4000000 in
theorem m_X9_takeInts {G : ha_G} {l : Launch} {σ : ha_St} {a b : Nat} (hT : gT σ a = (10, 0)) : hM G l yX9_takeInts cX9_takeInts 2 none { frames := 1, cells := 0, slots := 0, locals := 20 } [.ref (ad G a), .ref (ad G b)] σ (fun v σ' => v = none ∧ σ' = sR (shX σ a) a 1 (some b)) := by
  refine hM_ofF [(0, .ref (ad G a)), (1, .ref (ad G b))] (by decide +kernel) (Nat.le_of_ble_eq_true rfl) rfl ?_
  intro p e s m args below meth c0 C hin
  refine h_aload_n C 0 dX9_takeInts_0 rfl rfl ?_
  refine h_callV C (m_X9_clear hT) caX9_21 kX9 hT ⟨by decide, by decide, by decide, by decide⟩ rfl rfl (Nat.le_of_ble_eq_true rfl) dX9_takeInts_1 ?_
  rintro v σ' ⟨rfl, h2⟩; rw [h2]; clear h2
  show hW _ _ _ _ _ _ _ _ _ _ _ _ _ 4 [(0, .ref (ad G a)), (1, .ref (ad G b))] [] (shX σ a) 0 0
  have hT : gT (shX σ a) a = (10, 0) := hT
  refine h_aload_n C 0 dX9_takeInts_4 rfl rfl ?_
  refine h_aload_n C 1 dX9_takeInts_5 rfl rfl ?_
  refine pfX9_13 C hT dX9_takeInts_6 ?_
  refine h_vret C rfl (Nat.zero_le _) (Nat.zero_le _) dX9_takeInts_9 ?_
  exact ⟨rfl, rfl⟩
set_option maxRecDepth 100000 in
set_option maxHeartbeats 4000000 in
theorem m_X9_takeBytes {G : ha_G} {l : Launch} {σ : ha_St} {a b : Nat} (hT : gT σ a = (10, 0)) : hM G l yX9_takeBytes cX9_takeBytes 2 none { frames := 1, cells := 0, slots := 0, locals := 20 } [.ref (ad G a), .ref (ad G b)] σ (fun v σ' => v = none ∧ σ' = sR (shX σ a) a 2 (some b)) := by
  refine hM_ofF [(0, .ref (ad G a)), (1, .ref (ad G b))] (by decide +kernel) (Nat.le_of_ble_eq_true rfl) rfl ?_
  intro p e s m args below meth c0 C hin
  refine h_aload_n C 0 dX9_takeBytes_0 rfl rfl ?_
  refine h_callV C (m_X9_clear hT) caX9_21 kX9 hT ⟨by decide, by decide, by decide, by decide⟩ rfl rfl (Nat.le_of_ble_eq_true rfl) dX9_takeBytes_1 ?_
  rintro v σ' ⟨rfl, h2⟩; rw [h2]; clear h2
  show hW _ _ _ _ _ _ _ _ _ _ _ _ _ 4 [(0, .ref (ad G a)), (1, .ref (ad G b))] [] (shX σ a) 0 0
  have hT : gT (shX σ a) a = (10, 0) := hT
  refine h_aload_n C 0 dX9_takeBytes_4 rfl rfl ?_
  refine h_aload_n C 1 dX9_takeBytes_5 rfl rfl ?_
  refine pfX9_17 C hT dX9_takeBytes_6 ?_
  refine h_vret C rfl (Nat.zero_le _) (Nat.zero_le _) dX9_takeBytes_9 ?_
  exact ⟨rfl, rfl⟩
set_option maxRecDepth 100000 in
set_option maxHeartbeats 4000000 in
theorem m_X9_isBare {G : ha_G} {l : Launch} {σ : ha_St} {a : Nat} (hS : SV σ a) : hM G l yX9_isBare cX9_isBare 1 (some .boolean) { frames := 0, cells := 0, slots := 0, locals := 0 } [.ref (ad G a)] σ (fun v σ' => (∃ r, v = some (.int r) ∧ isB r (bareP σ a)) ∧ σ' = σ) := by
  refine hM_ofF [(0, .ref (ad G a))] (by decide +kernel) (Nat.le_of_ble_eq_true rfl) rfl ?_
  intro p e s m args below meth c0 C hin
  refine h_aload_n C 0 dX9_isBare_0 rfl rfl ?_
  refine gfX9_7 C hS.1 dX9_isBare_1 ?_
  refine h_topt (fun o_1 => ?_) (fun b_2 o_1 => ?_)
  · refine h_ifnonnullN C dX9_isBare_4 ?_
    refine h_aload_n C 0 dX9_isBare_7 rfl rfl ?_
    refine gfX9_13 C hS.1 dX9_isBare_8 ?_
    refine h_topt (fun o_3 => ?_) (fun b_4 o_3 => ?_)
    · refine h_ifnonnullN C dX9_isBare_11 ?_
      refine h_aload_n C 0 dX9_isBare_14 rfl rfl ?_
      refine gfX9_17 C hS.1 dX9_isBare_15 ?_
      refine h_topt (fun o_5 => ?_) (fun b_6 o_5 => ?_)
      · refine h_ifnonnullN C dX9_isBare_18 ?_
        refine h_iconst C 1 dX9_isBare_21 (by decide) ?_
        refine h_goto C 26 dX9_isBare_22 (by decide) ?_
        refine h_zret C rfl (by decide) (Nat.zero_le _) (Nat.zero_le _) dX9_isBare_26 ?_
        exact ⟨⟨_, rfl, isB1 ⟨o_1, o_3, o_5⟩⟩, rfl⟩
      · obtain ⟨n_6, hn_6, hT_6, hf_6⟩ := hS.2.2.2 _ o_5
        refine h_ifnonnull C 25 dX9_isBare_18 (by decide) ?_
        refine h_iconst C 0 dX9_isBare_25 (by decide) ?_
        refine h_zret C rfl (by decide) (Nat.zero_le _) (Nat.zero_le _) dX9_isBare_26 ?_
        refine ⟨⟨_, rfl, isB0 (fun q => ?_)⟩, rfl⟩
        have q1 := q.2.2
        rw [o_5] at q1
        cases q1
    · obtain ⟨n_4, hn_4, hT_4⟩ := hS.2.2.1 _ o_3
      refine h_ifnonnull C 25 dX9_isBare_11 (by decide) ?_
      refine h_iconst C 0 dX9_isBare_25 (by decide) ?_
      refine h_zret C rfl (by decide) (Nat.zero_le _) (Nat.zero_le _) dX9_isBare_26 ?_
      refine ⟨⟨_, rfl, isB0 (fun q => ?_)⟩, rfl⟩
      have q1 := q.2.1
      rw [o_3] at q1
      cases q1
  · obtain ⟨t_2, hT_2, ht_2⟩ := hS.2.1 _ o_1
    refine h_ifnonnull C 25 dX9_isBare_4 (by decide) ?_
    refine h_iconst C 0 dX9_isBare_25 (by decide) ?_
    refine h_zret C rfl (by decide) (Nat.zero_le _) (Nat.zero_le _) dX9_isBare_26 ?_
    refine ⟨⟨_, rfl, isB0 (fun q => ?_)⟩, rfl⟩
    have q1 := q.1
    rw [o_1] at q1
    cases q1
set_option maxRecDepth 100000 in
set_option maxHeartbeats 4000000 in
theorem m_X9_isRowLike {G : ha_G} {l : Launch} {σ : ha_St} {a b : Nat} (hS : SV σ a) (hS2 : SV σ b) : hM G l yX9_isRowLike cX9_isRowLike 2 (some .boolean) { frames := 0, cells := 0, slots := 0, locals := 0 } [.ref (ad G a), .ref (ad G b)] σ (fun v σ' => (∃ r, v = some (.int r) ∧ isB r (likeP σ a b)) ∧ σ' = σ) := by
  refine hM_ofF [(0, .ref (ad G a)), (1, .ref (ad G b))] (by decide +kernel) (Nat.le_of_ble_eq_true rfl) rfl ?_
  intro p e s m args below meth c0 C hin
  refine h_aload_n C 0 dX9_isRowLike_0 rfl rfl ?_
  refine gfX9_13 C hS.1 dX9_isRowLike_1 ?_
  refine h_topt (fun o_1 => ?_) (fun b_2 o_1 => ?_)
  · refine h_ifnullN C 14 dX9_isRowLike_4 (by decide) ?_
    refine h_aload_n C 0 dX9_isRowLike_14 rfl rfl ?_
    refine gfX9_17 C hS.1 dX9_isRowLike_15 ?_
    refine h_topt (fun o_3 => ?_) (fun b_4 o_3 => ?_)
    · refine h_ifnullN C 32 dX9_isRowLike_18 (by decide) ?_
      refine h_iconst C 0 dX9_isRowLike_32 (by decide) ?_
      refine h_zret C rfl (by decide) (Nat.zero_le _) (Nat.zero_le _) dX9_isRowLike_33 ?_
      refine ⟨⟨_, rfl, isB0 (fun q => ?_)⟩, rfl⟩
      rcases q with q | q
      · exact q.1 o_1
      · exact q.1 o_3
    · obtain ⟨n_4, hn_4, hT_4, hf_4⟩ := hS.2.2.2 _ o_3
      refine h_ifnull C dX9_isRowLike_18 ?_
      refine h_aload_n C 1 dX9_isRowLike_21 rfl rfl ?_
      refine gfX9_17 C hS2.1 dX9_isRowLike_22 ?_
      refine h_topt (fun o_5 => ?_) (fun b_6 o_5 => ?_)
      · refine h_ifnullN C 32 dX9_isRowLike_25 (by decide) ?_
        refine h_iconst C 0 dX9_isRowLike_32 (by decide) ?_
        refine h_zret C rfl (by decide) (Nat.zero_le _) (Nat.zero_le _) dX9_isRowLike_33 ?_
        refine ⟨⟨_, rfl, isB0 (fun q => ?_)⟩, rfl⟩
        rcases q with q | q
        · exact q.1 o_1
        · exact q.2 o_5
      · obtain ⟨n_6, hn_6, hT_6, hf_6⟩ := hS2.2.2.2 _ o_5
        refine h_ifnull C dX9_isRowLike_25 ?_
        refine h_iconst C 1 dX9_isRowLike_28 (by decide) ?_
        refine h_goto C 33 dX9_isRowLike_29 (by decide) ?_
        refine h_zret C rfl (by decide) (Nat.zero_le _) (Nat.zero_le _) dX9_isRowLike_33 ?_
        exact ⟨⟨_, rfl, isB1 (Or.inr ⟨(by rw [o_3]; intro q; cases q), (by rw [o_5]; intro q; cases q)⟩)⟩, rfl⟩
  · obtain ⟨n_2, hn_2, hT_2⟩ := hS.2.2.1 _ o_1
    refine h_ifnull C dX9_isRowLike_4 ?_
    refine h_aload_n C 1 dX9_isRowLike_7 rfl rfl ?_
    refine gfX9_13 C hS2.1 dX9_isRowLike_8 ?_
    refine h_topt (fun o_7 => ?_) (fun b_8 o_7 => ?_)
    · refine h_ifnonnullN C dX9_isRowLike_11 ?_
      refine h_aload_n C 0 dX9_isRowLike_14 rfl rfl ?_
      refine gfX9_17 C hS.1 dX9_isRowLike_15 ?_
      refine h_topt (fun o_9 => ?_) (fun b_10 o_9 => ?_)
      · refine h_ifnullN C 32 dX9_isRowLike_18 (by decide) ?_
        refine h_iconst C 0 dX9_isRowLike_32 (by decide) ?_
        refine h_zret C rfl (by decide) (Nat.zero_le _) (Nat.zero_le _) dX9_isRowLike_33 ?_
        refine ⟨⟨_, rfl, isB0 (fun q => ?_)⟩, rfl⟩
        rcases q with q | q
        · exact q.2 o_7
        · exact q.1 o_9
      · obtain ⟨n_10, hn_10, hT_10, hf_10⟩ := hS.2.2.2 _ o_9
        refine h_ifnull C dX9_isRowLike_18 ?_
        refine h_aload_n C 1 dX9_isRowLike_21 rfl rfl ?_
        refine gfX9_17 C hS2.1 dX9_isRowLike_22 ?_
        refine h_topt (fun o_11 => ?_) (fun b_12 o_11 => ?_)
        · refine h_ifnullN C 32 dX9_isRowLike_25 (by decide) ?_
          refine h_iconst C 0 dX9_isRowLike_32 (by decide) ?_
          refine h_zret C rfl (by decide) (Nat.zero_le _) (Nat.zero_le _) dX9_isRowLike_33 ?_
          refine ⟨⟨_, rfl, isB0 (fun q => ?_)⟩, rfl⟩
          rcases q with q | q
          · exact q.2 o_7
          · exact q.2 o_11
        · obtain ⟨n_12, hn_12, hT_12, hf_12⟩ := hS2.2.2.2 _ o_11
          refine h_ifnull C dX9_isRowLike_25 ?_
          refine h_iconst C 1 dX9_isRowLike_28 (by decide) ?_
          refine h_goto C 33 dX9_isRowLike_29 (by decide) ?_
          refine h_zret C rfl (by decide) (Nat.zero_le _) (Nat.zero_le _) dX9_isRowLike_33 ?_
          exact ⟨⟨_, rfl, isB1 (Or.inr ⟨(by rw [o_9]; intro q; cases q), (by rw [o_11]; intro q; cases q)⟩)⟩, rfl⟩
    · obtain ⟨n_8, hn_8, hT_8⟩ := hS2.2.2.1 _ o_7
      refine h_ifnonnull C 28 dX9_isRowLike_11 (by decide) ?_
      refine h_iconst C 1 dX9_isRowLike_28 (by decide) ?_
      refine h_goto C 33 dX9_isRowLike_29 (by decide) ?_
      refine h_zret C rfl (by decide) (Nat.zero_le _) (Nat.zero_le _) dX9_isRowLike_33 ?_
      exact ⟨⟨_, rfl, isB1 (Or.inl ⟨(by rw [o_1]; intro q; cases q), (by rw [o_7]; intro q; cases q)⟩)⟩, rfl⟩
set_option maxRecDepth 100000 in
set_option maxHeartbeats 4000000 in
theorem m_X9_hasPlaces {G : ha_G} {l : Launch} {σ : ha_St} {a : Nat} {i x : Int32} (hS : SV σ a) : hM G l yX9_hasPlaces cX9_hasPlaces 4 (some .boolean) { frames := 0, cells := 0, slots := 0, locals := 0 } [.ref (ad G a), .int i, .int x] σ (fun v σ' => (∃ r, v = some (.int r) ∧ isB r (plcP σ a i x)) ∧ σ' = σ) := by
  refine hM_ofF [(0, .ref (ad G a)), (1, .int i), (2, .int x)] (by decide +kernel) (Nat.le_of_ble_eq_true rfl) rfl ?_
  intro p e s m args below meth c0 C hin
  refine h_join (α := Int32) 31 (fun len => len = Int32.ofNat (shLen σ a)) (fun len => [(0, .ref (ad G a)), (1, .int i), (2, .int x)]) (fun len => [.int len]) (fun len => σ) (fun len => 0) (fun len => 0) ?_ (fun J_1 => ?_)
  · rintro len hJ
    show hW _ _ _ _ _ _ _ _ _ _ _ _ _ 31 [(0, .ref (ad G a)), (1, .int i), (2, .int x)] [.int len] σ 0 0
    refine h_istore_n C [(3, .int len), (0, .ref (ad G a)), (1, .int i), (2, .int x)] dX9_hasPlaces_31 rfl (by decide) rfl ?_
    refine h_iload_n C 2 dX9_hasPlaces_32 rfl rfl ?_
    refine h_if_lt C 56 dX9_hasPlaces_33 (by decide) (fun c_33 => ?_) (fun c_33 => ?_)
    · refine h_iconst C 0 dX9_hasPlaces_56 (by decide) ?_
      refine h_zret C rfl (by decide) (Nat.zero_le _) (Nat.zero_le _) dX9_hasPlaces_57 ?_
      refine ⟨⟨_, rfl, isB0 (fun q => ?_)⟩, rfl⟩
      unfold plcP at q
      rw [← hJ] at q
      exact absurd c_33 (Int32.not_lt.mpr q.1)
    · refine h_iload_n C 3 dX9_hasPlaces_36 rfl rfl ?_
      refine h_if_lt C 56 dX9_hasPlaces_37 (by decide) (fun c_37 => ?_) (fun c_37 => ?_)
      · refine h_iconst C 0 dX9_hasPlaces_56 (by decide) ?_
        refine h_zret C rfl (by decide) (Nat.zero_le _) (Nat.zero_le _) dX9_hasPlaces_57 ?_
        refine ⟨⟨_, rfl, isB0 (fun q => ?_)⟩, rfl⟩
        unfold plcP at q
        rw [← hJ] at q
        exact absurd c_37 (Int32.not_lt.mpr q.2.1)
      · refine h_iload_n C 3 dX9_hasPlaces_40 rfl rfl ?_
        refine h_iload_n C 0 dX9_hasPlaces_41 rfl rfl ?_
        refine h_icmp_gt C 56 dX9_hasPlaces_42 (by decide) (fun c_42 => ?_) (fun c_42 => ?_)
        · refine h_iconst C 0 dX9_hasPlaces_56 (by decide) ?_
          refine h_zret C rfl (by decide) (Nat.zero_le _) (Nat.zero_le _) dX9_hasPlaces_57 ?_
          refine ⟨⟨_, rfl, isB0 (fun q => ?_)⟩, rfl⟩
          unfold plcP at q
          rw [← hJ] at q
          exact absurd c_42 (Int32.not_lt.mpr q.2.2.1)
        · refine h_iload_n C 2 dX9_hasPlaces_45 rfl rfl ?_
          refine h_iload_n C 0 dX9_hasPlaces_46 rfl rfl ?_
          refine h_iload_n C 3 dX9_hasPlaces_47 rfl rfl ?_
          refine h_isub C dX9_hasPlaces_48 ?_
          refine h_icmp_gt C 56 dX9_hasPlaces_49 (by decide) (fun c_49 => ?_) (fun c_49 => ?_)
          · refine h_iconst C 0 dX9_hasPlaces_56 (by decide) ?_
            refine h_zret C rfl (by decide) (Nat.zero_le _) (Nat.zero_le _) dX9_hasPlaces_57 ?_
            refine ⟨⟨_, rfl, isB0 (fun q => ?_)⟩, rfl⟩
            unfold plcP at q
            rw [← hJ] at q
            exact absurd c_49 (Int32.not_lt.mpr q.2.2.2)
          · refine h_iconst C 1 dX9_hasPlaces_52 (by decide) ?_
            refine h_goto C 57 dX9_hasPlaces_53 (by decide) ?_
            refine h_zret C rfl (by decide) (Nat.zero_le _) (Nat.zero_le _) dX9_hasPlaces_57 ?_
            refine ⟨⟨_, rfl, isB1 ?_⟩, rfl⟩
            unfold plcP
            rw [← hJ]
            exact ⟨Int32.not_lt.mp c_33, Int32.not_lt.mp c_37, Int32.not_lt.mp c_42, Int32.not_lt.mp c_49⟩
  · refine h_aload_n C 0 dX9_hasPlaces_0 rfl rfl ?_
    refine gfX9_13 C hS.1 dX9_hasPlaces_1 ?_
    refine h_topt (fun o_2 => ?_) (fun b_3 o_2 => ?_)
    · refine h_ifnullN C 15 dX9_hasPlaces_4 (by decide) ?_
      refine h_aload_n C 0 dX9_hasPlaces_15 rfl rfl ?_
      refine gfX9_17 C hS.1 dX9_hasPlaces_16 ?_
      refine h_topt (fun o_4 => ?_) (fun b_5 o_4 => ?_)
      · refine h_ifnullN C 30 dX9_hasPlaces_19 (by decide) ?_
        refine h_iconst C 0 dX9_hasPlaces_30 (by decide) ?_
        refine J_1 0 ?_
        rw [shLen_0 o_2 o_4]
        rfl
      · obtain ⟨n_5, hn_5, hT_5, hf_5⟩ := hS.2.2.2 _ o_4
        refine h_ifnull C dX9_hasPlaces_19 ?_
        refine h_aload_n C 0 dX9_hasPlaces_22 rfl rfl ?_
        refine gfX9_17 C hS.1 dX9_hasPlaces_23 ?_
        refine h_tref (b := b_5) o_4 ?_
        refine h_alen C hT_5 (by decide) dX9_hasPlaces_26 ?_
        refine h_goto C 31 dX9_hasPlaces_27 (by decide) ?_
        refine J_1 (Int32.ofNat n_5) ?_
        rw [shLen_2 o_2 o_4 hT_5]
    · obtain ⟨n_3, hn_3, hT_3⟩ := hS.2.2.1 _ o_2
      refine h_ifnull C dX9_hasPlaces_4 ?_
      refine h_aload_n C 0 dX9_hasPlaces_7 rfl rfl ?_
      refine gfX9_13 C hS.1 dX9_hasPlaces_8 ?_
      refine h_tref (b := b_3) o_2 ?_
      refine h_alen C hT_3 (by decide) dX9_hasPlaces_11 ?_
      refine h_goto C 31 dX9_hasPlaces_12 (by decide) ?_
      refine J_1 (Int32.ofNat n_3) ?_
      rw [shLen_1 o_2 hT_3]
def valOf (σ : ha_St) (a : Nat) (i : Int32) : Int64 := match gR σ a 1 with
  | some b => (gI σ b i.toNatClampNeg).toInt64
  | none => match gR σ a 2 with
    | some b => (gI σ b i.toNatClampNeg).toInt64
    | none => 0
theorem plc_in {i n : Int32} {N : Nat} (h : 0 ≤ i ∧ 0 ≤ n ∧ n ≤ Int32.ofNat N ∧ i ≤ Int32.ofNat N - n) (hN : N ≤ 60) : i.toNatClampNeg + n.toNatClampNeg ≤ N := by
  obtain ⟨h0, h1, h2, h3⟩ := h
  have e : (Int32.ofNat N).toInt = (N : Int) := nI_toInt (n := N) (by omega)
  have t0 := tn_int h0
  have t1 := tn_int h1
  rw [Int32.le_iff_toInt_le] at h0 h1 h2 h3
  rw [Int32.toInt_sub] at h3
  rw [show (0 : Int32).toInt = 0 by decide] at h0 h1
  rw [e] at h2 h3
  rw [Int.bmod_eq_of_le (by omega) (by omega)] at h3
  omega
theorem plc_vp {i : Int32} {N : Nat} (h : 0 ≤ i ∧ (0 : Int32) ≤ 1 ∧ 1 ≤ Int32.ofNat N ∧ i ≤ Int32.ofNat N - 1) (hN : N ≤ 60) : vp_in i N := by
  have h1 := plc_in h hN
  rw [show (1 : Int32).toNatClampNeg = 1 by decide] at h1
  rw [vp_in_iff]
  have := tn_int h.1
  have h2 := Int32.le_iff_toInt_le.mp h.1
  rw [show (0 : Int32).toInt = 0 by decide] at h2
  omega
set_option maxRecDepth 100000 in
set_option maxHeartbeats 4000000 in
theorem m_X9_valueAt {G : ha_G} {l : Launch} {σ : ha_St} {a : Nat} {i : Int32} (hS : SV σ a) : hM G l yX9_valueAt cX9_valueAt 2 (some .long) { frames := 1, cells := 0, slots := 0, locals := 23 } [.ref (ad G a), .int i] σ (fun v σ' => v = some (.long (if plcP σ a i 1 then valOf σ a i else 0)) ∧ σ' = σ) := by
  refine hM_ofF [(0, .ref (ad G a)), (1, .int i)] (by decide +kernel) (Nat.le_of_ble_eq_true rfl) rfl ?_
  intro p e s m args below meth c0 C hin
  refine h_aload_n C 0 dX9_valueAt_0 rfl rfl ?_
  refine h_iload_n C 1 dX9_valueAt_1 rfl rfl ?_
  refine h_iconst C 1 dX9_valueAt_2 (by decide) ?_
  refine h_callV C (m_X9_hasPlaces hS) caX9_24 kX9 hS.1 ⟨by decide, by decide, by decide, by decide⟩ rfl rfl (Nat.le_of_ble_eq_true rfl) dX9_valueAt_3 ?_
  rintro v σ' ⟨⟨r_3, rfl, hb_3⟩, h2⟩; rw [h2]; clear h2
  show hW _ _ _ _ _ _ _ _ _ _ _ _ _ 6 [(0, .ref (ad G a)), (1, .int i)] [.int r_3] σ 0 0
  refine h_if_ne C 11 dX9_valueAt_6 (by decide) (fun c_6 => ?_) (fun c_6 => ?_)
  · refine h_aload_n C 0 dX9_valueAt_11 rfl rfl ?_
    refine gfX9_13 C hS.1 dX9_valueAt_12 ?_
    refine h_topt (fun o_1 => ?_) (fun b_2 o_1 => ?_)
    · refine h_ifnullN C 28 dX9_valueAt_15 (by decide) ?_
      refine h_aload_n C 0 dX9_valueAt_28 rfl rfl ?_
      refine gfX9_17 C hS.1 dX9_valueAt_29 ?_
      refine h_topt (fun o_3 => ?_) (fun b_4 o_3 => ?_)
      · refine h_ifnullN C 45 dX9_valueAt_32 (by decide) ?_
        refine h_lconst C 0 dX9_valueAt_45 rfl ?_
        refine h_lret C rfl (Nat.zero_le _) (Nat.zero_le _) dX9_valueAt_46 ?_
        refine ⟨?_, rfl⟩
        rw [if_pos (isB_1 hb_3 c_6)]
        unfold valOf
        rw [o_1]
        simp only [o_3]
      · obtain ⟨n_4, hn_4, hT_4, hf_4⟩ := hS.2.2.2 _ o_3
        refine h_ifnull C dX9_valueAt_32 ?_
        refine h_aload_n C 0 dX9_valueAt_35 rfl rfl ?_
        refine gfX9_17 C hS.1 dX9_valueAt_36 ?_
        refine h_tref (b := b_4) o_3 ?_
        have hq := isB_1 hb_3 c_6
        unfold plcP at hq
        rw [shLen_2 o_1 o_3 hT_4] at hq
        have hv := plc_vp hq hn_4
        refine h_iload_n C 1 dX9_valueAt_39 rfl rfl ?_
        refine h_bald C hT_4 hv dX9_valueAt_40 ?_
        refine h_i2l C dX9_valueAt_41 ?_
        refine h_goto C 46 dX9_valueAt_42 (by decide) ?_
        refine h_lret C rfl (Nat.zero_le _) (Nat.zero_le _) dX9_valueAt_46 ?_
        refine ⟨?_, rfl⟩
        rw [if_pos (isB_1 hb_3 c_6)]
        unfold valOf
        rw [o_1]
        simp only [o_3]
    · obtain ⟨n_2, hn_2, hT_2⟩ := hS.2.2.1 _ o_1
      refine h_ifnull C dX9_valueAt_15 ?_
      refine h_aload_n C 0 dX9_valueAt_18 rfl rfl ?_
      refine gfX9_13 C hS.1 dX9_valueAt_19 ?_
      refine h_tref (b := b_2) o_1 ?_
      have hq := isB_1 hb_3 c_6
      unfold plcP at hq
      rw [shLen_1 o_1 hT_2] at hq
      have hv := plc_vp hq hn_2
      refine h_iload_n C 1 dX9_valueAt_22 rfl rfl ?_
      refine h_iald C hT_2 hv dX9_valueAt_23 ?_
      refine h_i2l C dX9_valueAt_24 ?_
      refine h_goto C 46 dX9_valueAt_25 (by decide) ?_
      refine h_lret C rfl (Nat.zero_le _) (Nat.zero_le _) dX9_valueAt_46 ?_
      refine ⟨?_, rfl⟩
      rw [if_pos (isB_1 hb_3 c_6)]
      unfold valOf
      rw [o_1]
  · refine h_lconst C 0 dX9_valueAt_9 rfl ?_
    refine h_lret C rfl (Nat.zero_le _) (Nat.zero_le _) dX9_valueAt_10 ?_
    refine ⟨?_, rfl⟩
    rw [if_neg (isB_0 hb_3 c_6)]
/-- rows passed on -/
def passF (σ : ha_St) (a b : Nat) (i j x : Int32) : ha_St := match gR σ a 1, gR σ b 1 with
  | some q, some r => sC σ q r i.toNatClampNeg j.toNatClampNeg x.toNatClampNeg
  | _, _ => match gR σ a 2, gR σ b 2 with
    | some q, some r => sC σ q r i.toNatClampNeg j.toNatClampNeg x.toNatClampNeg
    | _, _ => σ
set_option maxRecDepth 100000 in
set_option maxHeartbeats 4000000 in
theorem m_X9_passOn {G : ha_G} {l : Launch} {σ : ha_St} {a b : Nat} {i j x : Int32} (hS : SV σ a) (hS2 : SV σ b) (hO_a : ∀ q, gR σ a 2 = some q → gR σ a 1 = none) (hO_b : ∀ q, gR σ b 2 = some q → gR σ b 1 = none) : hM G l yX9_passOn cX9_passOn 5 none { frames := 1, cells := 0, slots := 0, locals := 38 } [.ref (ad G a), .int i, .ref (ad G b), .int j, .int x] σ (fun v σ' => v = none ∧ σ' = if plcP σ a i x ∧ plcP σ b j x then passF σ a b i j x else σ) := by
  refine hM_ofF [(0, .ref (ad G a)), (1, .int i), (2, .ref (ad G b)), (3, .int j), (4, .int x)] (by decide +kernel) (Nat.le_of_ble_eq_true rfl) rfl ?_
  intro p e s m args below meth c0 C hin
  refine h_aload_n C 0 dX9_passOn_0 rfl rfl ?_
  refine h_iload_n C 1 dX9_passOn_1 rfl rfl ?_
  refine h_iload C 4 dX9_passOn_2 rfl ?_
  refine h_callV C (m_X9_hasPlaces hS) caX9_24 kX9 hS.1 ⟨by decide, by decide, by decide, by decide⟩ rfl rfl (Nat.le_of_ble_eq_true rfl) dX9_passOn_4 ?_
  rintro v σ' ⟨⟨r_4, rfl, hb_4⟩, h2⟩; rw [h2]; clear h2
  show hW _ _ _ _ _ _ _ _ _ _ _ _ _ 7 [(0, .ref (ad G a)), (1, .int i), (2, .ref (ad G b)), (3, .int j), (4, .int x)] [.int r_4] σ 0 0
  refine h_if_eq C 20 dX9_passOn_7 (by decide) (fun c_7 => ?_) (fun c_7 => ?_)
  · refine h_vret C rfl (Nat.zero_le _) (Nat.zero_le _) dX9_passOn_20 ?_
    refine ⟨rfl, ?_⟩
    rw [if_neg (fun q => isB_0 hb_4 c_7 q.1)]
  · refine h_aload_n C 2 dX9_passOn_10 rfl rfl ?_
    refine h_iload_n C 3 dX9_passOn_11 rfl rfl ?_
    refine h_iload C 4 dX9_passOn_12 rfl ?_
    refine h_callV C (m_X9_hasPlaces hS2) caX9_24 kX9 hS2.1 ⟨by decide, by decide, by decide, by decide⟩ rfl rfl (Nat.le_of_ble_eq_true rfl) dX9_passOn_14 ?_
    rintro v σ' ⟨⟨r_14, rfl, hb_14⟩, h2⟩; rw [h2]; clear h2
    show hW _ _ _ _ _ _ _ _ _ _ _ _ _ 17 [(0, .ref (ad G a)), (1, .int i), (2, .ref (ad G b)), (3, .int j), (4, .int x)] [.int r_14] σ 0 0
    refine h_if_ne C 21 dX9_passOn_17 (by decide) (fun c_17 => ?_) (fun c_17 => ?_)
    · refine h_aload_n C 0 dX9_passOn_21 rfl rfl ?_
      refine gfX9_13 C hS.1 dX9_passOn_22 ?_
      refine h_topt (fun o_1 => ?_) (fun b_2 o_1 => ?_)
      · refine h_ifnullN C 53 dX9_passOn_25 (by decide) ?_
        refine h_aload_n C 0 dX9_passOn_53 rfl rfl ?_
        refine gfX9_17 C hS.1 dX9_passOn_54 ?_
        refine h_topt (fun o_3 => ?_) (fun b_4 o_3 => ?_)
        · refine h_ifnullN C 82 dX9_passOn_57 (by decide) ?_
          refine h_vret C rfl (Nat.zero_le _) (Nat.zero_le _) dX9_passOn_82 ?_
          refine ⟨rfl, ?_⟩
          rw [if_pos ⟨isB_1 hb_4 c_7, isB_1 hb_14 c_17⟩]
          unfold passF
          simp only [o_1, o_3]
        · obtain ⟨n_4, hn_4, hT_4, hf_4⟩ := hS.2.2.2 _ o_3
          refine h_ifnull C dX9_passOn_57 ?_
          refine h_aload_n C 2 dX9_passOn_60 rfl rfl ?_
          refine gfX9_17 C hS2.1 dX9_passOn_61 ?_
          refine h_topt (fun o_5 => ?_) (fun b_6 o_5 => ?_)
          · refine h_ifnullN C 82 dX9_passOn_64 (by decide) ?_
            refine h_vret C rfl (Nat.zero_le _) (Nat.zero_le _) dX9_passOn_82 ?_
            refine ⟨rfl, ?_⟩
            rw [if_pos ⟨isB_1 hb_4 c_7, isB_1 hb_14 c_17⟩]
            unfold passF
            simp only [o_1, o_3, o_5]
          · obtain ⟨n_6, hn_6, hT_6, hf_6⟩ := hS2.2.2.2 _ o_5
            refine h_ifnull C dX9_passOn_64 ?_
            refine h_aload_n C 0 dX9_passOn_67 rfl rfl ?_
            refine gfX9_17 C hS.1 dX9_passOn_68 ?_
            refine h_tref (b := b_4) o_3 ?_
            refine h_iload_n C 1 dX9_passOn_71 rfl rfl ?_
            refine h_aload_n C 2 dX9_passOn_72 rfl rfl ?_
            refine gfX9_17 C hS2.1 dX9_passOn_73 ?_
            refine h_tref (b := b_6) o_5 ?_
            refine h_iload_n C 3 dX9_passOn_76 rfl rfl ?_
            refine h_iload C 4 dX9_passOn_77 rfl ?_
            have hq1 := isB_1 hb_4 c_7
            have hq2 := isB_1 hb_14 c_17
            unfold plcP at hq1 hq2
            rw [shLen_2 o_1 o_3 hT_4] at hq1
            have hz_6 : gR σ b 1 = none := hO_b _ o_5
            rw [shLen_2 hz_6 o_5 hT_6] at hq2
            have hv := And.intro (And.intro (Int32.not_lt.mpr hq1.1) (And.intro (Int32.not_lt.mpr hq2.1) (And.intro (Int32.not_lt.mpr hq1.2.1) (And.intro (plc_in hq1 hn_4) (plc_in hq2 hn_6))))) hf_4
            refine h_copyB C (sys_l) hT_4 hT_6 hv (by decide) (by decide) dX9_passOn_79 ?_
            refine h_vret C rfl (Nat.zero_le _) (Nat.zero_le _) dX9_passOn_82 ?_
            refine ⟨rfl, ?_⟩
            rw [if_pos ⟨isB_1 hb_4 c_7, isB_1 hb_14 c_17⟩]
            unfold passF
            simp only [o_1, o_3, o_5]
      · obtain ⟨n_2, hn_2, hT_2⟩ := hS.2.2.1 _ o_1
        refine h_ifnull C dX9_passOn_25 ?_
        refine h_aload_n C 2 dX9_passOn_28 rfl rfl ?_
        refine gfX9_13 C hS2.1 dX9_passOn_29 ?_
        refine h_topt (fun o_7 => ?_) (fun b_8 o_7 => ?_)
        · refine h_ifnullN C 53 dX9_passOn_32 (by decide) ?_
          refine h_aload_n C 0 dX9_passOn_53 rfl rfl ?_
          refine gfX9_17 C hS.1 dX9_passOn_54 ?_
          refine h_topt (fun o_9 => ?_) (fun b_10 o_9 => ?_)
          · refine h_ifnullN C 82 dX9_passOn_57 (by decide) ?_
            refine h_vret C rfl (Nat.zero_le _) (Nat.zero_le _) dX9_passOn_82 ?_
            refine ⟨rfl, ?_⟩
            rw [if_pos ⟨isB_1 hb_4 c_7, isB_1 hb_14 c_17⟩]
            unfold passF
            simp only [o_1, o_7, o_9]
          · obtain ⟨n_10, hn_10, hT_10, hf_10⟩ := hS.2.2.2 _ o_9
            refine h_ifnull C dX9_passOn_57 ?_
            refine h_aload_n C 2 dX9_passOn_60 rfl rfl ?_
            refine gfX9_17 C hS2.1 dX9_passOn_61 ?_
            refine h_topt (fun o_11 => ?_) (fun b_12 o_11 => ?_)
            · refine h_ifnullN C 82 dX9_passOn_64 (by decide) ?_
              refine h_vret C rfl (Nat.zero_le _) (Nat.zero_le _) dX9_passOn_82 ?_
              refine ⟨rfl, ?_⟩
              rw [if_pos ⟨isB_1 hb_4 c_7, isB_1 hb_14 c_17⟩]
              unfold passF
              simp only [o_1, o_7, o_9, o_11]
            · obtain ⟨n_12, hn_12, hT_12, hf_12⟩ := hS2.2.2.2 _ o_11
              refine h_ifnull C dX9_passOn_64 ?_
              refine h_aload_n C 0 dX9_passOn_67 rfl rfl ?_
              refine gfX9_17 C hS.1 dX9_passOn_68 ?_
              refine h_tref (b := b_10) o_9 ?_
              refine h_iload_n C 1 dX9_passOn_71 rfl rfl ?_
              refine h_aload_n C 2 dX9_passOn_72 rfl rfl ?_
              refine gfX9_17 C hS2.1 dX9_passOn_73 ?_
              refine h_tref (b := b_12) o_11 ?_
              refine h_iload_n C 3 dX9_passOn_76 rfl rfl ?_
              refine h_iload C 4 dX9_passOn_77 rfl ?_
              have hq1 := isB_1 hb_4 c_7
              have hq2 := isB_1 hb_14 c_17
              unfold plcP at hq1 hq2
              exact absurd (o_1.symm.trans (hO_a _ o_9)) (by intro q; cases q)
        · obtain ⟨n_8, hn_8, hT_8⟩ := hS2.2.2.1 _ o_7
          refine h_ifnull C dX9_passOn_32 ?_
          refine h_aload_n C 0 dX9_passOn_35 rfl rfl ?_
          refine gfX9_13 C hS.1 dX9_passOn_36 ?_
          refine h_tref (b := b_2) o_1 ?_
          refine h_iload_n C 1 dX9_passOn_39 rfl rfl ?_
          refine h_aload_n C 2 dX9_passOn_40 rfl rfl ?_
          refine gfX9_13 C hS2.1 dX9_passOn_41 ?_
          refine h_tref (b := b_8) o_7 ?_
          refine h_iload_n C 3 dX9_passOn_44 rfl rfl ?_
          refine h_iload C 4 dX9_passOn_45 rfl ?_
          have hq1 := isB_1 hb_4 c_7
          have hq2 := isB_1 hb_14 c_17
          unfold plcP at hq1 hq2
          rw [shLen_1 o_1 hT_2] at hq1
          rw [shLen_1 o_7 hT_8] at hq2
          have hv := And.intro (And.intro (Int32.not_lt.mpr hq1.1) (And.intro (Int32.not_lt.mpr hq2.1) (And.intro (Int32.not_lt.mpr hq1.2.1) (And.intro (plc_in hq1 hn_2) (plc_in hq2 hn_8))))) trivial
          refine h_copyI C (sys_l) hT_2 hT_8 hv (by decide) (by decide) dX9_passOn_47 ?_
          refine h_goto C 82 dX9_passOn_50 (by decide) ?_
          refine h_vret C rfl (Nat.zero_le _) (Nat.zero_le _) dX9_passOn_82 ?_
          refine ⟨rfl, ?_⟩
          rw [if_pos ⟨isB_1 hb_4 c_7, isB_1 hb_14 c_17⟩]
          unfold passF
          simp only [o_1, o_7]
    · refine h_vret C rfl (Nat.zero_le _) (Nat.zero_le _) dX9_passOn_20 ?_
      refine ⟨rfl, ?_⟩
      rw [if_neg (fun q => isB_0 hb_14 c_17 q.2)]
