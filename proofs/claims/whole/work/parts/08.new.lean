section
variable {p : Program} {l : Launch} {e : Env} {R : Room} {s : State} {m : MethodId} {args : Array Value} {below : List Frame} {meth : Method} {c : Code} {Q : State → Prop} {G : ha_G} {cc : ByteArray} {own : String} {ret : Option FieldType} {nL pc : Nat} {lv lv' : List (Nat × Value)} {st : List Value} {σ : ha_St} {k n : Nat}
theorem fv_new {a : Nat} {t0 ln : Nat} (ha : a = gn σ) (q : Nat × Nat) : fv G (sN σ t0 ln) a q = if q.1 = 1 then .long 0 else if q.1 = 2 then .null else .int 0 := by
  subst ha
  unfold fv
  simp only [gL_sN, gR_sN, gI_sN, if_true]
  rfl
/-- a cell more -/
theorem hH.new {H H1 : Heap} {t0 ln : Nat} (h : hH G σ H) (hz : H1.size = H.size + 1) (ho : ∀ q : Nat, q < H.size → H1[q]? = H[q]?) (hat : va_at G.1 vwCl (ad G (gn σ), hE G (sN σ t0 ln) (gn σ)) H1) : hH G (sN σ t0 ln) H1 := by
  have hg : H.size = ad G (gn σ) := h.1
  refine ⟨by rw [hz, h.1, gn_sN]; omega, fun x hx => ?_⟩
  by_cases hxn : x = gn σ
  · subst hxn
    exact ⟨by rw [gn_sN]; omega, hat⟩
  · rw [gT_sN, if_neg hxn] at hx
    obtain ⟨q1, q2⟩ := h.2 x hx
    refine ⟨by rw [gn_sN]; omega, ?_⟩
    rw [hE_congr (σ := σ) (funext fun y => by rw [gI_sN, if_neg hxn]) (funext fun y => by rw [gL_sN, if_neg hxn]) (funext fun y => by rw [gR_sN, if_neg hxn]) (by rw [gT_sN, if_neg hxn])]
    exact q2.kept (ho _ q2.lt)
theorem hS_new {H0 H H1 : Heap} {locs : List Loc} (h2 : va_S (gA G) H0 H locs) (hz : H1.size = H.size + 1) (ho : ∀ q : Nat, q < H.size → H1[q]? = H[q]?) : va_S (gA G) H0 H1 locs :=
  ⟨Nat.le_trans h2.1 (by omega), fun x g1 g2 => (ho x (Nat.lt_of_lt_of_le g1 h2.1)).trans (h2.2.1 x g1 g2), h2.2.2⟩
theorem h_new (C : hX p s m args meth c G cc own nL ret) {ci index : Nat} {Cn : String} {T : u_T} {N : Nat} {ty : Nat → FieldType} (hC0 : hC ci Cn T N ty) (w1 : Cond.classLink own index Cn ∈ gtbl) (w2 : Cond.instantiable Cn N ∈ gtbl) (w3 : Cond.initialized Cn ∈ gtbl)
    (hdf : ∀ j, j < N → defaultValue (ty j) = if (fk ci j).1 = 1 then .long 0 else if (fk ci j).1 = 2 then .null else .int 0) (hk : k + 1 ≤ R.cells) (hn : n + N ≤ R.slots) (hd : decode cc pc = .ok (.new index, 3))
    (kk : hW p l e R s m args below meth c Q G nL (pc + 3) lv (.ref (ad G (gn σ)) :: st) (sN σ (ci + 1) 0) (k + 1) (n + N)) : hW p l e R s m args below meth c Q G nL pc lv st σ k n := by
  intro H locs ls h1 h2 h3
  obtain ⟨c1, c2, c3, c4, c5, c6⟩ := hC0
  have hts := C.2.2.2.2.1
  have hKn := C.2.2.2.2.2.1.1.1 ci _ c3
  have hg : H.size = ad G (gn σ) := h1.1
  refine W.newcK C.1 C.2.1 C.2.2.2.1 (hts _ w1) (hts _ w2) (hts _ w3) rfl hd hk hn hKn.2.1 hg fun H1 kC hkC e1 z1 o1 => ?_
  have z2 : H1.size = H.size + 1 := by rw [z1, hg]
  have o2 : ∀ q : Nat, q < H.size → H1[q]? = H[q]? := fun q hq => o1 q (by rw [← hg]; exact hq)
  refine kk H1 locs ls (h1.new z2 o2 ?_) (hS_new h2 z2 o2) h3
  rw [hE_o (ci := ci) (n := 0) (by rw [gT_sN, if_pos rfl]) c1]
  refine ⟨_, c3, (u_born ty hts c4 hKn hkC e1 c5).to (fun j hj => ?_)⟩
  rw [hdf j hj]
  show _ = vp_V _ j
  unfold vp_V
  have hj2 := fs_get (G := G) (σ := sN σ (ci + 1) 0) (a := gn σ) (ci := ci) (k := j) (by rw [c2]; exact hj)
  rw [fv_new rfl] at hj2
  simp [hj2]
/-- the array classes are those of the launch -/
theorem h_newaI (C : hX p s m args meth c G cc own nL ret) {sz : Int32} {N : Nat} (w : Cond.arrayClass .int ∈ gtbl) (hs : ¬ sz < 0) (hN : sz.toNatClampNeg = N) (hb : N * 4 ≤ 536870912) (hk : k + 1 ≤ R.cells) (hn : n + N ≤ R.slots) (hd : decode cc pc = .ok (.newarray .int, 2))
    (kk : hW p l e R s m args below meth c Q G nL (pc + 2) lv (.ref (ad G (gn σ)) :: st) (sN σ 20 N) (k + 1) (n + N)) : hW p l e R s m args below meth c Q G nL pc lv (.int sz :: st) σ k n := by
  intro H locs ls h1 h2 h3
  have hg : H.size = ad G (gn σ) := h1.1
  refine va_newaK C.1 C.2.1 (atype := .int) (C.2.2.2.2.1 _ w) rfl hd rfl hs hN hb hk hn hg fun H1 cA e1 z1 o1 hAr hNm => ?_
  have z2 : H1.size = H.size + 1 := by rw [z1, hg]
  have o2 : ∀ q : Nat, q < H.size → H1[q]? = H[q]? := fun q hq => o1 q (by rw [← hg]; exact hq)
  refine kk H1 locs ls (h1.new z2 o2 ?_) (hS_new h2 z2 o2) h3
  rw [hE_i (n := N) (by rw [gT_sN, if_pos rfl])]
  have hc : cA = G.2.2.1 0 := Option.some.inj (hNm.symm.trans (C.2.2.2.2.2.1.1.2 0 _ rfl).2)
  subst hc
  show H1[ad G (gn σ)]? = some (vp_cell _ _)
  rw [e1, vp_cell_i]
  congr 2
  funext j
  rw [gI_sN, if_pos rfl]
  rfl
theorem h_newaL (C : hX p s m args meth c G cc own nL ret) {sz : Int32} {N : Nat} (w : Cond.arrayClass .long ∈ gtbl) (hs : ¬ sz < 0) (hN : sz.toNatClampNeg = N) (hb : N * 8 ≤ 536870912) (hk : k + 1 ≤ R.cells) (hn : n + N ≤ R.slots) (hd : decode cc pc = .ok (.newarray .long, 2))
    (kk : hW p l e R s m args below meth c Q G nL (pc + 2) lv (.ref (ad G (gn σ)) :: st) (sN σ 21 N) (k + 1) (n + N)) : hW p l e R s m args below meth c Q G nL pc lv (.int sz :: st) σ k n := by
  intro H locs ls h1 h2 h3
  have hg : H.size = ad G (gn σ) := h1.1
  refine va_newaK C.1 C.2.1 (atype := .long) (C.2.2.2.2.1 _ w) rfl hd rfl hs hN hb hk hn hg fun H1 cA e1 z1 o1 hAr hNm => ?_
  have z2 : H1.size = H.size + 1 := by rw [z1, hg]
  have o2 : ∀ q : Nat, q < H.size → H1[q]? = H[q]? := fun q hq => o1 q (by rw [← hg]; exact hq)
  refine kk H1 locs ls (h1.new z2 o2 ?_) (hS_new h2 z2 o2) h3
  rw [hE_l (n := N) (by rw [gT_sN, if_pos rfl])]
  have hc : cA = G.2.2.1 1 := Option.some.inj (hNm.symm.trans (C.2.2.2.2.2.1.1.2 1 _ rfl).2)
  subst hc
  show H1[ad G (gn σ)]? = some (vp_cell _ _)
  rw [e1, vp_cell_l]
  congr 2
  funext j
  rw [gL_sN, if_pos rfl]
  rfl
theorem h_newaB (C : hX p s m args meth c G cc own nL ret) {sz : Int32} {N : Nat} (w : Cond.arrayClass .byte ∈ gtbl) (hs : ¬ sz < 0) (hN : sz.toNatClampNeg = N) (hb : N * 1 ≤ 536870912) (hk : k + 1 ≤ R.cells) (hn : n + N ≤ R.slots) (hd : decode cc pc = .ok (.newarray .byte, 2))
    (kk : hW p l e R s m args below meth c Q G nL (pc + 2) lv (.ref (ad G (gn σ)) :: st) (sN σ 22 N) (k + 1) (n + N)) : hW p l e R s m args below meth c Q G nL pc lv (.int sz :: st) σ k n := by
  intro H locs ls h1 h2 h3
  have hg : H.size = ad G (gn σ) := h1.1
  refine va_newaK C.1 C.2.1 (atype := .byte) (C.2.2.2.2.1 _ w) rfl hd rfl hs hN hb hk hn hg fun H1 cA e1 z1 o1 hAr hNm => ?_
  have z2 : H1.size = H.size + 1 := by rw [z1, hg]
  have o2 : ∀ q : Nat, q < H.size → H1[q]? = H[q]? := fun q hq => o1 q (by rw [← hg]; exact hq)
  refine kk H1 locs ls (h1.new z2 o2 ?_) (hS_new h2 z2 o2) h3
  rw [hE_b (n := N) (by rw [gT_sN, if_pos rfl])]
  have hc : cA = G.2.2.1 2 := Option.some.inj (hNm.symm.trans (C.2.2.2.2.2.1.1.2 2 _ rfl).2)
  subst hc
  show H1[ad G (gn σ)]? = some (vp_cell _ _)
  rw [e1, vp_cell_i]
  congr 2
  funext j
  rw [gI_sN, if_pos rfl]
  rfl
theorem h_anew {cA0 : ClassId} (C : hX p s m args meth c G cc own nL ret) {index : Nat} {Cn : String} {sz : Int32} {N t0 : Nat} (w : Cond.classLink own index Cn ∈ gtbl) (hover : va_AO Cn s) (hcA : s.vm.findClass ("[" ++ (FieldType.object Cn).toString) = some cA0) (hEe : ∀ σ' : ha_St, ∀ a, gT σ' a = (t0, N) → hE G σ' a = .inl (cA0, N, .inr (.inr (.inr (.inr (fun j => (gR σ' a j).map (ad G))))))) (hs : ¬ sz < 0) (hN : sz.toNatClampNeg = N) (hb : N * 4 ≤ 536870912) (hk : k + 1 ≤ R.cells) (hn : n + N ≤ R.slots) (hd : decode cc pc = .ok (.anewarray index, 3))
    (kk : hW p l e R s m args below meth c Q G nL (pc + 3) lv (.ref (ad G (gn σ)) :: st) (sN σ t0 N) (k + 1) (n + N)) : hW p l e R s m args below meth c Q G nL pc lv (.int sz :: st) σ k n := by
  intro H locs ls h1 h2 h3
  have hg : H.size = ad G (gn σ) := h1.1
  subst hN
  refine W.anew C.1 C.2.1 C.2.2.2.1 (C.2.2.2.2.1 _ w) (va_AO.use hover) rfl hd rfl hs hb hk hn fun cA kA comp f1 f2 f3 f4 => ?_
  generalize hH1 : H.push ({ cls := cA, slots := Array.replicate sz.toNatClampNeg .null, vm := .none } : Cell) = H1
  have z1 : H1.size = H.size + 1 := by rw [← hH1, Array.size_push]
  have e1 : H1[H.size]? = some (arrV cA sz.toNatClampNeg (fun _ => .null)) := by rw [← hH1, Array.getElem?_push_size, ← arrV_new]
  have o1 : ∀ q : Nat, q < H.size → H1[q]? = H[q]? := fun q hq => by rw [← hH1, Array.getElem?_push, if_neg (Nat.ne_of_lt hq)]
  show W p l e R s m args below meth c H1 locs (k + 1) _ Q (F0 m (pc + 3) ls (.ref H.size :: st))
  rw [hg]
  refine kk H1 locs ls (h1.new z1 o1 ?_) (hS_new h2 z1 o1) h3
  have hc : cA = cA0 := Option.some.inj (f1.symm.trans hcA)
  subst hc
  rw [hEe (sN σ t0 sz.toNatClampNeg) (gn σ) (by rw [gT_sN, if_pos rfl])]
  show H1[ad G (gn σ)]? = some (vp_cell _ _)
  rw [← hg, e1, vp_cell_q]
  congr 2
  funext j
  rw [gR_sN, if_pos rfl]
  rfl
theorem h_newaP (C : hX p s m args meth c G cc own nL ret) {index : Nat} {sz : Int32} {N : Nat} (w : Cond.classLink own index "HeldPart$Pin" ∈ gtbl) (hs : ¬ sz < 0) (hN : sz.toNatClampNeg = N) (hb : N * 4 ≤ 536870912) (hk : k + 1 ≤ R.cells) (hn : n + N ≤ R.slots) (hd : decode cc pc = .ok (.anewarray index, 3))
    (kk : hW p l e R s m args below meth c Q G nL (pc + 3) lv (.ref (ad G (gn σ)) :: st) (sN σ 23 N) (k + 1) (n + N)) : hW p l e R s m args below meth c Q G nL pc lv (.int sz :: st) σ k n := by
  obtain ⟨kA, comp, q1, q2, q3, q4⟩ := (C.2.2.2.2.2.1.1.2 3 _ rfl).2
  exact h_anew C w C.2.2.2.2.2.1.2.2.1 q4 (fun _ _ h => hE_p h) hs hN hb hk hn hd kk
theorem h_newaS (C : hX p s m args meth c G cc own nL ret) {index : Nat} {sz : Int32} {N : Nat} (w : Cond.classLink own index "HeldPart$Shelf" ∈ gtbl) (hs : ¬ sz < 0) (hN : sz.toNatClampNeg = N) (hb : N * 4 ≤ 536870912) (hk : k + 1 ≤ R.cells) (hn : n + N ≤ R.slots) (hd : decode cc pc = .ok (.anewarray index, 3))
    (kk : hW p l e R s m args below meth c Q G nL (pc + 3) lv (.ref (ad G (gn σ)) :: st) (sN σ 24 N) (k + 1) (n + N)) : hW p l e R s m args below meth c Q G nL pc lv (.int sz :: st) σ k n := by
  obtain ⟨kA, comp, q1, q2, q3, q4⟩ := (C.2.2.2.2.2.1.1.2 4 _ rfl).2
  exact h_anew C w C.2.2.2.2.2.1.2.2.2.1 q4 (fun _ _ h => hE_s h) hs hN hb hk hn hd kk
/-- a reference into an array of contacts -/
theorem h_past (C : hX p s m args meth c G cc own nL ret) {a ln b ci lb : Nat} {i : Int32} {Cn : String} {T : u_T} {N : Nat} {ty : Nat → FieldType} (hT : gT σ a = (23, ln)) (hC0 : hC ci Cn T N ty) (hTb : gT σ b = (ci + 1, lb)) (hca : Cn = "HeldPart$Pin" ∨ Cond.castable Cn "HeldPart$Pin" ∈ ntbl) (hi : vp_in i ln) (hd : decode cc pc = .ok (.aastore, 1))
    (kk : hW p l e R s m args below meth c Q G nL (pc + 1) lv st (sR σ a i.toNatClampNeg (some b)) k n) : hW p l e R s m args below meth c Q G nL pc lv (.ref (ad G b) :: .int i :: .ref (ad G a) :: st) σ k n := by
  intro H locs ls h1 h2 h3
  have hK := C.2.2.2.2.2.1.1
  have hlt : i.toNatClampNeg < ln := Nat.not_le.mp fun q => hi (Or.inr q)
  have h0 : ¬ i < 0 := fun q => hi (Or.inl q)
  have hP := h1.one (by rw [hT]; exact Nat.succ_ne_zero _) (hE_p hT)
  obtain ⟨r', hr', cellV, g1, g2, g3, -⟩ := (h1.one (by rw [hTb]; exact Nat.succ_ne_zero _) (hE_o hTb hC0.1)) 0 _ rfl
  have hcls := (hK.1 ci _ hC0.2.2.1).2
  obtain ⟨kA, comp, k1, k2, k3, -⟩ := (hK.2 3 _ rfl).2
  obtain ⟨kE, hkE, -⟩ := Vm.findClass_spec k3
  obtain ⟨kC, hkC, -⟩ := hcls.2
  have has : s.vm.assignable (G.1.1 ci) comp = true := by
    rcases hca with q | q
    · have e : comp = G.1.1 ci := by
        have e1 := hcls.1
        rw [show ((Cn, T, N) : vw_C).1 = "HeldPart$Pin" from q] at e1
        exact Option.some.inj (k3.symm.trans e1)
      rw [e]
      exact va_assign hcls
    · obtain ⟨c0, t1, f1, f2, f3⟩ := Cond.castable_spec (va_Nw.use (A := args) rfl (C.2.2.2.2.2.1.2.1 _ q))
      cases hcls.1.symm.trans f1
      cases k3.symm.trans f2
      exact f3
  refine W.aast C.1 C.2.1 (hP 0 _ rfl) (fun q h => by cases h) (fun h => by cases h) k1 k2 rfl hkE ⟨h0, by show _ < (arrV _ _ _).slots.size; rw [arrV_size]; exact hlt⟩ g1 (fun q h => by rw [g3] at h; cases h) (by rw [g2]; exact hkC) (by rw [g2]; exact has) rfl rfl hd fun H1 e z oq => ?_
  refine kk H1 _ ls (h1.set (a := a) rfl rfl z oq (fun x hx => hE_congr rfl rfl (funext fun y => ?_) rfl) ?_) (hS_put h2 z oq) h3
  · rw [gR_sR, if_neg (fun q => hx q.1)]
  · rw [hE_p (show gT (sR σ a _ _) a = (23, ln) from hT)]
    show H1[ad G a]? = some (vp_cell _ _)
    rw [e, vp_cell_q, vp_cell_q, arrV_store]
    congr 2
    funext q
    by_cases hq : q = i.toNatClampNeg
    · subst hq; simp [updV, gR_sR, va_rf]
    · simp [updV, gR_sR, hq]
theorem h_sast (C : hX p s m args meth c G cc own nL ret) {a ln b lb : Nat} {i : Int32} {T : u_T} {N : Nat} {ty : Nat → FieldType} (hT : gT σ a = (24, ln)) (hC0 : hC 9 "HeldPart$Shelf" T N ty) (hTb : gT σ b = (10, lb)) (hi : vp_in i ln) (hd : decode cc pc = .ok (.aastore, 1))
    (kk : hW p l e R s m args below meth c Q G nL (pc + 1) lv st (sR σ a i.toNatClampNeg (some b)) k n) : hW p l e R s m args below meth c Q G nL pc lv (.ref (ad G b) :: .int i :: .ref (ad G a) :: st) σ k n := by
  intro H locs ls h1 h2 h3
  have hK := C.2.2.2.2.2.1.1
  have hlt : i.toNatClampNeg < ln := Nat.not_le.mp fun q => hi (Or.inr q)
  have h0 : ¬ i < 0 := fun q => hi (Or.inl q)
  have hP := h1.one (by rw [hT]; exact Nat.succ_ne_zero _) (hE_s hT)
  obtain ⟨r', hr', cellV, g1, g2, g3, -⟩ := (h1.one (by rw [hTb]; exact Nat.succ_ne_zero _) (hE_o (ci := 9) hTb hC0.1)) 0 _ rfl
  have hcls := (hK.1 9 _ hC0.2.2.1).2
  obtain ⟨kA, comp, k1, k2, k3, -⟩ := (hK.2 4 _ rfl).2
  obtain ⟨kE, hkE, -⟩ := Vm.findClass_spec k3
  obtain ⟨kC, hkC, -⟩ := hcls.2
  have e0 : comp = G.1.1 9 := Option.some.inj (k3.symm.trans hcls.1)
  refine W.aast C.1 C.2.1 (hP 0 _ rfl) (fun q h => by cases h) (fun h => by cases h) k1 k2 rfl hkE ⟨h0, by show _ < (arrV _ _ _).slots.size; rw [arrV_size]; exact hlt⟩ g1 (fun q h => by rw [g3] at h; cases h) (by rw [g2]; exact hkC) (by rw [g2, e0]; exact va_assign hcls) rfl rfl hd fun H1 e z oq => ?_
  refine kk H1 _ ls (h1.set (a := a) rfl rfl z oq (fun x hx => hE_congr rfl rfl (funext fun y => ?_) rfl) ?_) (hS_put h2 z oq) h3
  · rw [gR_sR, if_neg (fun q => hx q.1)]
  · rw [hE_s (show gT (sR σ a _ _) a = (24, ln) from hT)]
    show H1[ad G a]? = some (vp_cell _ _)
    rw [e, vp_cell_q, vp_cell_q, arrV_store]
    congr 2
    funext q
    by_cases hq : q = i.toNatClampNeg
    · subst hq; simp [updV, gR_sR, va_rf]
    · simp [updV, gR_sR, hq]
theorem h_pastN (C : hX p s m args meth c G cc own nL ret) {a ln : Nat} {i : Int32} (hT : gT σ a = (23, ln)) (hi : vp_in i ln) (hd : decode cc pc = .ok (.aastore, 1))
    (kk : hW p l e R s m args below meth c Q G nL (pc + 1) lv st (sR σ a i.toNatClampNeg none) k n) : hW p l e R s m args below meth c Q G nL pc lv (.null :: .int i :: .ref (ad G a) :: st) σ k n := by
  intro H locs ls h1 h2 h3
  have hK := C.2.2.2.2.2.1.1
  have hP := h1.one (by rw [hT]; exact Nat.succ_ne_zero _) (hE_p hT)
  refine va_WaastN (C := "HeldPart$Pin") C.1 C.2.1 (hP 0 _ rfl) ((hK.2 3 _ rfl).1 ln (fun j => va_rf ((gR σ a j).map (ad G)))) (fun h => by cases h) (by show ¬ (i < 0 ∨ (arrV _ _ _).slots.size ≤ _); rw [arrV_size]; exact hi) rfl rfl hd fun H1 e z oq => ?_
  refine kk H1 _ ls (h1.set (a := a) rfl rfl z oq (fun x hx => hE_congr rfl rfl (funext fun y => ?_) rfl) ?_) (hS_put h2 z oq) h3
  · rw [gR_sR, if_neg (fun q => hx q.1)]
  · rw [hE_p (show gT (sR σ a _ _) a = (23, ln) from hT)]
    show H1[ad G a]? = some (vp_cell _ _)
    rw [e, vp_cell_q, vp_cell_q, arrV_store]
    congr 2
    funext q
    by_cases hq : q = i.toNatClampNeg
    · subst hq; simp [updV, gR_sR, va_rf]
    · simp [updV, gR_sR, hq]
end
