section
variable {p : Program} {l : Launch} {e : Env} {R : Room} {s : State} {m : MethodId} {args : Array Value} {below : List Frame} {meth : Method} {c : Code} {Q : State → Prop} {G : ha_G} {cc : ByteArray} {own : String} {ret : Option FieldType} {nL pc : Nat} {lv lv' : List (Nat × Value)} {st : List Value} {σ : ha_St} {k n : Nat}
/-- a class of the store: its row in vwCl, its fields' words -/
def hC (ci : Nat) (Cn : String) (T : u_T) (N : Nat) (ty : Nat → FieldType) : Prop :=
  ci < 12 ∧ fN ci = N ∧ vwCl[ci]? = some (Cn, T, N) ∧ (∀ w ∈ u_ws Cn T N, w ∈ gtbl) ∧ (∀ k, k < N → parseFieldDescriptor (T k).2.2.1 = some (ty k)) ∧ (∀ a, a < N → ∀ b, b < N → a ≠ b → (T a).2.1 ≠ (T b).2.1)
theorem h_getf (C : hX p s m args meth c G cc own nL ret) {ci index i ln : Nat} {ref Cn : String} {T : u_T} {N : Nat} {ty : Nat → FieldType} {a : Nat} (hC0 : hC ci Cn T N ty) (hT : gT σ a = (ci + 1, ln)) (hi : i < N)
    (hlink : Cond.fieldLink own index ref (T i).2.1 (T i).2.2.1 ∈ gtbl) (hsame : ref = (T i).1 ∨ Cond.sameField ref (T i).1 (T i).2.1 (T i).2.2.1 ∈ gtbl)
    (hd : decode cc pc = .ok (.getfield index, 3)) (kk : hW p l e R s m args below meth c Q G nL (pc + 3) lv (fv G σ a (fk ci i) :: st) σ k n) : hW p l e R s m args below meth c Q G nL pc lv (.ref (ad G a) :: st) σ k n := by
  intro H locs ls h1 h2 h3
  obtain ⟨c1, c2, c3, c4, c5, c6⟩ := hC0
  refine va_get C.1 C.2.1 (own := own) (ref := ref) (index := index) C.2.2.2.2.1 c4 C.2.2.2.1 C.2.2.2.2.2.1.1 (h1.one (by rw [hT]; exact Nat.succ_ne_zero _) (hE_o hT c1)) 0 rfl c3 i hi (C.2.2.2.2.1 _ hlink) ?_ (fs_get (by rw [c2]; exact hi)) hd (kk H locs ls h1 h2 h3)
  intro x hx
  rcases hsame with h | h
  · rw [h]; exact hx
  · exact u_same (C.2.2.2.2.1 _ h) x hx
theorem h_getfN (C : hX p s m args meth c G cc own nL ret) {ci index i ln : Nat} {ref Cn host : String} {T : u_T} {N : Nat} {ty : Nat → FieldType} {a : Nat} (hC0 : hC ci Cn T N ty) (hT : gT σ a = (ci + 1, ln)) (hi : i < N)
    (hlink : Cond.fieldLinkNest own index ref (T i).2.1 (T i).2.2.1 host ∈ ntbl) (hsame : ref = (T i).1)
    (hd : decode cc pc = .ok (.getfield index, 3)) (kk : hW p l e R s m args below meth c Q G nL (pc + 3) lv (fv G σ a (fk ci i) :: st) σ k n) : hW p l e R s m args below meth c Q G nL pc lv (.ref (ad G a) :: st) σ k n := by
  intro H locs ls h1 h2 h3
  obtain ⟨c1, c2, c3, c4, c5, c6⟩ := hC0
  refine va_getN C.1 C.2.1 (own := own) (ref := ref) (index := index) C.2.2.2.2.1 c4 C.2.2.2.1 C.2.2.2.2.2.1.1 (h1.one (by rw [hT]; exact Nat.succ_ne_zero _) (hE_o hT c1)) 0 rfl c3 i hi (va_Nw.use rfl (C.2.2.2.2.2.1.2.1 _ hlink)) ?_ (fs_get (by rw [c2]; exact hi)) hd (kk H locs ls h1 h2 h3)
  intro x hx
  rw [hsame]; exact hx
/-- a store whose cell a alone has other fields, and there the i-th alone -/
def hPut (G : ha_G) (σ σ' : ha_St) (a ci i : Nat) (v : Value) : Prop := gn σ' = gn σ ∧ gT σ' = gT σ ∧ (∀ x, x ≠ a → hE G σ' x = hE G σ x) ∧ fs G σ' a ci = (fs G σ a ci).set i v
theorem hE_congr {σ' : ha_St} {x : Nat} (hI : gI σ' x = gI σ x) (hL : gL σ' x = gL σ x) (hR : gR σ' x = gR σ x) (hT : gT σ' x = gT σ x) : hE G σ' x = hE G σ x := by
  have hv : ∀ q, fv G σ' x q = fv G σ x q := fun q => by unfold fv; rw [hI, hL, hR]
  have hf : ∀ ci, fs G σ' x ci = fs G σ x ci := fun ci => by unfold fs; exact List.map_congr_left (fun k _ => hv _)
  unfold hE
  rw [hT, hI, hL, hR, hf]
theorem fs_set {σ' : ha_St} {a ci i : Nat} {v : Value} (hi : i < fN ci) (hv : fv G σ' a (fk ci i) = v) (ho : ∀ j, j < fN ci → j ≠ i → fv G σ' a (fk ci j) = fv G σ a (fk ci j)) : fs G σ' a ci = (fs G σ a ci).set i v := by
  apply List.ext_getElem?
  intro j
  by_cases hj : j < fN ci
  · rw [fs_get hj]
    by_cases hji : j = i
    · subst hji
      rw [List.getElem?_set_self (by rw [fs_len]; exact hi), hv]
    · rw [List.getElem?_set_ne (Ne.symm hji), fs_get hj, ho j hj hji]
  · rw [List.getElem?_eq_none (by rw [fs_len]; omega), List.getElem?_eq_none (by rw [List.length_set, fs_len]; omega)]
theorem hPut_I {a ci i j : Nat} {v : Int32} (hi : i < fN ci) (hk : fk ci i = (0, j) ∨ fk ci i = (3, j)) (ho : ∀ x, x < fN ci → x ≠ i → (fk ci x).1 = 1 ∨ (fk ci x).1 = 2 ∨ (fk ci x).2 ≠ j) : hPut G σ (sI σ a j v) a ci i (.int v) := by
  refine ⟨rfl, rfl, fun x hx => hE_congr (funext fun y => ?_) rfl rfl rfl, fs_set hi ?_ fun x hx hxi => ?_⟩
  · rw [gI_sI, if_neg (fun q => hx q.1)]
  · rcases hk with h | h <;> (unfold fv; rw [h]; simp [gI_sI])
  · unfold fv
    rcases ho x hx hxi with h | h | h
    · rw [if_pos h, if_pos h]; rfl
    · rw [h]; simp only [if_neg (show ¬ (2 = 1) by decide), if_pos]; rfl
    · simp [gL_sI, gR_sI, gI_sI, h]
theorem hPut_L {a ci i j : Nat} {v : Int64} (hi : i < fN ci) (hk : fk ci i = (1, j)) (ho : ∀ x, x < fN ci → x ≠ i → (fk ci x).1 ≠ 1 ∨ (fk ci x).2 ≠ j) : hPut G σ (sL σ a j v) a ci i (.long v) := by
  refine ⟨rfl, rfl, fun x hx => hE_congr rfl (funext fun y => ?_) rfl rfl, fs_set hi ?_ fun x hx hxi => ?_⟩
  · rw [gL_sL, if_neg (fun q => hx q.1)]
  · unfold fv; rw [hk]; simp [gL_sL]
  · unfold fv
    rcases ho x hx hxi with h | h
    · rw [if_neg h, if_neg h]; rfl
    · simp [gL_sL, gR_sL, gI_sL, h]
theorem hPut_R {a ci i j : Nat} {v : Option Nat} (hi : i < fN ci) (hk : fk ci i = (2, j)) (ho : ∀ x, x < fN ci → x ≠ i → (fk ci x).1 ≠ 2 ∨ (fk ci x).2 ≠ j) : hPut G σ (sR σ a j v) a ci i (rf G v) := by
  refine ⟨rfl, rfl, fun x hx => hE_congr rfl rfl (funext fun y => ?_) rfl, fs_set hi ?_ fun x hx hxi => ?_⟩
  · rw [gR_sR, if_neg (fun q => hx q.1)]
  · unfold fv; rw [hk]; simp [gR_sR]
  · unfold fv
    rcases ho x hx hxi with h | h
    · rw [if_neg h, if_neg h]; rfl
    · simp [gR_sR, gL_sR, gI_sR, h]
theorem h_putf (C : hX p s m args meth c G cc own nL ret) {ci index i ln : Nat} {ref Cn : String} {T : u_T} {N : Nat} {ty : Nat → FieldType} {a : Nat} {v : Value} (σ' : ha_St) (hC0 : hC ci Cn T N ty) (hT : gT σ a = (ci + 1, ln)) (hi : i < N)
    (hlink : Cond.fieldLink own index ref (T i).2.1 (T i).2.2.1 ∈ gtbl) (hsame : ref = (T i).1) (hfin : (T i).2.2.2 = false ∨ ((T i).2.2.2 = true ∧ meth.name = "<init>" ∧ (T i).1 = own)) (hn : narrow (ty i) v = v) (hfit : fits (ty i) v = true)
    (hd : decode cc pc = .ok (.putfield index, 3)) (hp : hPut G σ σ' a ci i v) (kk : hW p l e R s m args below meth c Q G nL (pc + 3) lv st σ' k n) : hW p l e R s m args below meth c Q G nL pc lv (v :: .ref (ad G a) :: st) σ k n := by
  intro H locs ls h1 h2 h3
  obtain ⟨c1, c2, c3, c4, c5, c6⟩ := hC0
  have hts := C.2.2.2.2.1
  have hK := C.2.2.2.2.2.1.1
  have hap := va_apart (own := own) hts c4 ty c5 c6 hK c3
  obtain ⟨r, g1, cell, q1, q2, q3, q4⟩ := (h1.one (by rw [hT]; exact Nat.succ_ne_zero _) (hE_o hT c1)) 0 _ rfl
  have hr : r = (Cn, T, N) := Option.some.inj (g1.symm.trans c3)
  subst hr
  obtain ⟨hS, hfc, kC, hkC, hkind⟩ := hK.1 ci _ c3
  obtain ⟨cf, kf, fi, f, hif, hsl⟩ := hS i hi
  have hlay := hts _ (c4 _ (u_in_lay hi))
  have hst := (u_facts hfc hkC (u_lays hts c4 hi) hif).1
  have fin : ∀ H' : Heap, H'[ad G a]? = some (cell.setSlot f.slot v) → H'.size = H.size → (∀ q, q ≠ ad G a → H'[q]? = H[q]?) → W p l e R s m args below meth c H' (locs ++ [⟨ad G a, f.slot⟩]) k n Q (F0 m (pc + 3) ls st) := by
    intro H' e1 e2 e3
    rw [hsl] at e1
    refine kk H' _ ls (h1.set (a := a) hp.1 hp.2.1 e2 e3 hp.2.2.1 ?_) (hS_put h2 e2 e3) h3
    have hT' : gT σ' a = (ci + 1, ln) := by rw [hp.2.1]; exact hT
    rw [hE_o hT' c1, hp.2.2.2]
    exact ⟨_, c3, t_OB.to (V := updV (vp_V (fs G σ a ci)) i v) ⟨_, e1, q2, q3, t_set q4 hap hi v⟩ (fun j _ => vp_updV_set (by rw [fs_len, c2]; exact hi) v j)⟩
  rcases hfin with hfin | ⟨hfin, hin2, hdecl⟩
  · unfold u_lay at hlay
    rw [if_neg (by rw [hfin]; decide)] at hlay
    have h6 := u_store hfc hkC hkind hlay hif (c5 i hi) hn hfit
    exact W.putK C.1 C.2.1 (f := f) ⟨C.2.2.2.1, hts _ hlink, ⟨_, _, _, by rw [hsame]; exact hif⟩, hst⟩ (by rw [q2]; exact h6) q1 q3 (by rw [hsl]; exact k2_hasslot (q4 i hi)) rfl rfl hd fin
  · unfold u_lay at hlay
    rw [if_pos hfin] at hlay
    have hcf : m.cls = cf := by
      obtain ⟨_, _, c', _, _, _, -, -, hf', -, -, -, hown2, -⟩ := Cond.laysFinal_spec hlay
      have e1 : c' = cf := by have := hif.symm.trans hf'; simp at this; exact this.1.symm
      rw [hdecl] at hown2
      rw [← e1]; exact Option.some.inj (C.2.2.2.1.symm.trans hown2)
    have h6 := u_fits hfc hkC hkind (Or.inr hlay) hif (c5 i hi) hn hfit
    exact W.putFinK C.1 C.2.1 C.2.2.2.1 (hts _ hlink) (by rw [hsame]; exact hif) hst hcf hin2 (by rw [q2]; exact h6) q1 q3 (by rw [hsl]; exact k2_hasslot (q4 i hi)) rfl rfl hd fin
theorem h_putfN (C : hX p s m args meth c G cc own nL ret) {ci index i ln : Nat} {ref Cn host : String} {T : u_T} {N : Nat} {ty : Nat → FieldType} {a : Nat} {v : Value} (σ' : ha_St) (hC0 : hC ci Cn T N ty) (hT : gT σ a = (ci + 1, ln)) (hi : i < N)
    (hlink : Cond.fieldLinkNest own index ref (T i).2.1 (T i).2.2.1 host ∈ ntbl) (hsame : ref = (T i).1) (hfin : (T i).2.2.2 = false) (hn : narrow (ty i) v = v) (hfit : fits (ty i) v = true)
    (hd : decode cc pc = .ok (.putfield index, 3)) (hp : hPut G σ σ' a ci i v) (kk : hW p l e R s m args below meth c Q G nL (pc + 3) lv st σ' k n) : hW p l e R s m args below meth c Q G nL pc lv (v :: .ref (ad G a) :: st) σ k n := by
  intro H locs ls h1 h2 h3
  obtain ⟨c1, c2, c3, c4, c5, c6⟩ := hC0
  have hts := C.2.2.2.2.1
  have hK := C.2.2.2.2.2.1.1
  have hap := va_apart (own := own) hts c4 ty c5 c6 hK c3
  obtain ⟨r, g1, cell, q1, q2, q3, q4⟩ := (h1.one (by rw [hT]; exact Nat.succ_ne_zero _) (hE_o hT c1)) 0 _ rfl
  have hr : r = (Cn, T, N) := Option.some.inj (g1.symm.trans c3)
  subst hr
  obtain ⟨hS, hfc, kC, hkC, hkind⟩ := hK.1 ci _ c3
  obtain ⟨cf, kf, fi, f, hif, hsl⟩ := hS i hi
  have hlay := hts _ (c4 _ (u_in_lay hi))
  have hst := (u_facts hfc hkC (u_lays hts c4 hi) hif).1
  unfold u_lay at hlay
  rw [if_neg (by rw [hfin]; decide)] at hlay
  have h6 := u_store hfc hkC hkind hlay hif (c5 i hi) hn hfit
  refine va_WputK C.1 C.2.1 (f := f) C.2.2.2.1 (va_Nw.use rfl (C.2.2.2.2.2.1.2.1 _ hlink)) (by rw [hsame]; exact hif) hst (by rw [q2]; exact h6) q1 q3 (by rw [hsl]; exact k2_hasslot (q4 i hi)) rfl rfl hd ?_
  intro H' e1 e2 e3
  rw [hsl] at e1
  refine kk H' _ ls (h1.set (a := a) hp.1 hp.2.1 e2 e3 hp.2.2.1 ?_) (hS_put h2 e2 e3) h3
  have hT' : gT σ' a = (ci + 1, ln) := by rw [hp.2.1]; exact hT
  rw [hE_o hT' c1, hp.2.2.2]
  exact ⟨_, c3, t_OB.to (V := updV (vp_V (fs G σ a ci)) i v) ⟨_, e1, q2, q3, t_set q4 hap hi v⟩ (fun j _ => vp_updV_set (by rw [fs_len, c2]; exact hi) v j)⟩
/-! arrays -/
theorem h_iald (C : hX p s m args meth c G cc own nL ret) {a ln : Nat} {i : Int32} (hT : gT σ a = (20, ln)) (hi : vp_in i ln) (hd : decode cc pc = .ok (.iaload, 1)) (kk : hW p l e R s m args below meth c Q G nL (pc + 1) lv (.int (gI σ a i.toNatClampNeg) :: st) σ k n) : hW p l e R s m args below meth c Q G nL pc lv (.int i :: .ref (ad G a) :: st) σ k n :=
  fun H locs ls h1 h2 h3 => va_iald C.1 C.2.1 C.2.2.2.2.2.1.1 (h1.one (by rw [hT]; exact Nat.succ_ne_zero _) (hE_i hT)) 0 0 rfl rfl hi hd (kk H locs ls h1 h2 h3)
theorem h_lald (C : hX p s m args meth c G cc own nL ret) {a ln : Nat} {i : Int32} (hT : gT σ a = (21, ln)) (hi : vp_in i ln) (hd : decode cc pc = .ok (.laload, 1)) (kk : hW p l e R s m args below meth c Q G nL (pc + 1) lv (.long (gL σ a i.toNatClampNeg) :: st) σ k n) : hW p l e R s m args below meth c Q G nL pc lv (.int i :: .ref (ad G a) :: st) σ k n :=
  fun H locs ls h1 h2 h3 => va_lald C.1 C.2.1 C.2.2.2.2.2.1.1 (h1.one (by rw [hT]; exact Nat.succ_ne_zero _) (hE_l hT)) 0 1 rfl rfl hi hd (kk H locs ls h1 h2 h3)
theorem h_bald (C : hX p s m args meth c G cc own nL ret) {a ln : Nat} {i : Int32} (hT : gT σ a = (22, ln)) (hi : vp_in i ln) (hd : decode cc pc = .ok (.baload, 1)) (kk : hW p l e R s m args below meth c Q G nL (pc + 1) lv (.int (gI σ a i.toNatClampNeg) :: st) σ k n) : hW p l e R s m args below meth c Q G nL pc lv (.int i :: .ref (ad G a) :: st) σ k n :=
  fun H locs ls h1 h2 h3 => va_bald C.1 C.2.1 C.2.2.2.2.2.1.1 (h1.one (by rw [hT]; exact Nat.succ_ne_zero _) (hE_b hT)) 0 2 rfl rfl hi hd (kk H locs ls h1 h2 h3)
theorem h_pald (C : hX p s m args meth c G cc own nL ret) {a ln : Nat} {i : Int32} (hT : gT σ a = (23, ln)) (hi : vp_in i ln) (hd : decode cc pc = .ok (.aaload, 1)) (kk : hW p l e R s m args below meth c Q G nL (pc + 1) lv (rf G (gR σ a i.toNatClampNeg) :: st) σ k n) : hW p l e R s m args below meth c Q G nL pc lv (.int i :: .ref (ad G a) :: st) σ k n :=
  fun H locs ls h1 h2 h3 => va_aldq C.1 C.2.1 C.2.2.2.2.2.1.1 (h1.one (by rw [hT]; exact Nat.succ_ne_zero _) (hE_p hT)) 0 3 rfl rfl hi hd (kk H locs ls h1 h2 h3)
theorem h_sald (C : hX p s m args meth c G cc own nL ret) {a ln : Nat} {i : Int32} (hT : gT σ a = (24, ln)) (hi : vp_in i ln) (hd : decode cc pc = .ok (.aaload, 1)) (kk : hW p l e R s m args below meth c Q G nL (pc + 1) lv (rf G (gR σ a i.toNatClampNeg) :: st) σ k n) : hW p l e R s m args below meth c Q G nL pc lv (.int i :: .ref (ad G a) :: st) σ k n :=
  fun H locs ls h1 h2 h3 => va_aldq C.1 C.2.1 C.2.2.2.2.2.1.1 (h1.one (by rw [hT]; exact Nat.succ_ne_zero _) (hE_s hT)) 0 4 rfl rfl hi hd (kk H locs ls h1 h2 h3)
theorem h_alen (C : hX p s m args meth c G cc own nL ret) {a t ln : Nat} (hT : gT σ a = (t, ln)) (ht : 20 ≤ t ∧ t ≤ 24) (hd : decode cc pc = .ok (.arraylength, 1)) (kk : hW p l e R s m args below meth c Q G nL (pc + 1) lv (.int (Int32.ofNat ln) :: st) σ k n) : hW p l e R s m args below meth c Q G nL pc lv (.ref (ad G a) :: st) σ k n := by
  intro H locs ls h1 h2 h3
  have h0 : (gT σ a).1 ≠ 0 := by rw [hT]; show t ≠ 0; omega
  rcases (show t = 20 ∨ t = 21 ∨ t = 22 ∨ t = 23 ∨ t = 24 by omega) with rfl | rfl | rfl | rfl | rfl
  · exact va_alen C.1 C.2.1 C.2.2.2.2.2.1.1 (h1.one h0 (hE_i hT)) 0 0 rfl rfl rfl hd (kk H locs ls h1 h2 h3)
  · exact va_alen C.1 C.2.1 C.2.2.2.2.2.1.1 (h1.one h0 (hE_l hT)) 0 1 rfl rfl rfl hd (kk H locs ls h1 h2 h3)
  · exact va_alen C.1 C.2.1 C.2.2.2.2.2.1.1 (h1.one h0 (hE_b hT)) 0 2 rfl rfl rfl hd (kk H locs ls h1 h2 h3)
  · exact va_alen C.1 C.2.1 C.2.2.2.2.2.1.1 (h1.one h0 (hE_p hT)) 0 3 rfl rfl rfl hd (kk H locs ls h1 h2 h3)
  · exact va_alen C.1 C.2.1 C.2.2.2.2.2.1.1 (h1.one h0 (hE_s hT)) 0 4 rfl rfl rfl hd (kk H locs ls h1 h2 h3)
theorem h_iast (C : hX p s m args meth c G cc own nL ret) {a ln : Nat} {i x : Int32} (σ' : ha_St) (hT : gT σ a = (20, ln)) (hi : vp_in i ln) (hd : decode cc pc = .ok (.iastore, 1)) (hσ : sI σ a i.toNatClampNeg x = σ') (kk : hW p l e R s m args below meth c Q G nL (pc + 1) lv st σ' k n) : hW p l e R s m args below meth c Q G nL pc lv (.int x :: .int i :: .ref (ad G a) :: st) σ k n := by
  intro H locs ls h1 h2 h3
  subst hσ
  have hP := h1.one (by rw [hT]; exact Nat.succ_ne_zero _) (hE_i hT)
  refine W.iast C.1 C.2.1 (hP 0 _ rfl) ((C.2.2.2.2.2.1.1.2 0 _ rfl).1 ln (fun j => .int (gI σ a j))) (fun q => by cases q) (by show ¬ (i < 0 ∨ (arrV _ _ _).slots.size ≤ _); rw [arrV_size]; exact hi) rfl rfl hd fun H1 e z oq => ?_
  refine kk H1 _ ls (h1.set (a := a) rfl rfl z oq (fun x hx => hE_congr (funext fun y => ?_) rfl rfl rfl) ?_) (hS_put h2 z oq) h3
  · rw [gI_sI, if_neg (fun q => hx q.1)]
  · rw [hE_i (show gT (sI σ a _ x) a = (20, ln) from hT)]
    show H1[ad G a]? = some (vp_cell _ _)
    rw [e, vp_cell_i, vp_cell_i, arrV_store]
    congr 2
    funext q
    by_cases hq : q = i.toNatClampNeg
    · subst hq; simp [updV, gI_sI]
    · simp [updV, gI_sI, hq]
theorem h_bast (C : hX p s m args meth c G cc own nL ret) {a ln : Nat} {i x : Int32} (σ' : ha_St) (hT : gT σ a = (22, ln)) (hi : vp_in i ln) (hd : decode cc pc = .ok (.bastore, 1)) (hσ : sI σ a i.toNatClampNeg x.toInt8.toInt32 = σ') (kk : hW p l e R s m args below meth c Q G nL (pc + 1) lv st σ' k n) : hW p l e R s m args below meth c Q G nL pc lv (.int x :: .int i :: .ref (ad G a) :: st) σ k n := by
  intro H locs ls h1 h2 h3
  subst hσ
  have hP := h1.one (by rw [hT]; exact Nat.succ_ne_zero _) (hE_b hT)
  refine W.bast C.1 C.2.1 (hP 0 _ rfl) ((C.2.2.2.2.2.1.1.2 2 _ rfl).1 ln (fun j => .int (gI σ a j))) (fun q => by cases q) (by show ¬ (i < 0 ∨ (arrV _ _ _).slots.size ≤ _); rw [arrV_size]; exact hi) rfl rfl hd fun H1 e z oq => ?_
  refine kk H1 _ ls (h1.set (a := a) rfl rfl z oq (fun x hx => hE_congr (funext fun y => ?_) rfl rfl rfl) ?_) (hS_put h2 z oq) h3
  · rw [gI_sI, if_neg (fun q => hx q.1)]
  · rw [hE_b (show gT (sI σ a _ _) a = (22, ln) from hT)]
    show H1[ad G a]? = some (vp_cell _ _)
    rw [e, vp_cell_i, vp_cell_i, arrV_store]
    congr 2
    funext q
    by_cases hq : q = i.toNatClampNeg
    · subst hq; simp [updV, gI_sI]; try rfl
    · simp [updV, gI_sI, hq]
theorem h_last (C : hX p s m args meth c G cc own nL ret) {a ln : Nat} {i : Int32} {x : Int64} (σ' : ha_St) (hT : gT σ a = (21, ln)) (hi : vp_in i ln) (hd : decode cc pc = .ok (.lastore, 1)) (hσ : sL σ a i.toNatClampNeg x = σ') (kk : hW p l e R s m args below meth c Q G nL (pc + 1) lv st σ' k n) : hW p l e R s m args below meth c Q G nL pc lv (.long x :: .int i :: .ref (ad G a) :: st) σ k n := by
  intro H locs ls h1 h2 h3
  subst hσ
  have hP := h1.one (by rw [hT]; exact Nat.succ_ne_zero _) (hE_l hT)
  refine W.last C.1 C.2.1 (hP 0 _ rfl) ((C.2.2.2.2.2.1.1.2 1 _ rfl).1 ln (fun j => .long (gL σ a j))) (fun q => by cases q) (by show ¬ (i < 0 ∨ (arrV _ _ _).slots.size ≤ _); rw [arrV_size]; exact hi) rfl rfl hd fun H1 e z oq => ?_
  refine kk H1 _ ls (h1.set (a := a) rfl rfl z oq (fun x hx => hE_congr rfl (funext fun y => ?_) rfl rfl) ?_) (hS_put h2 z oq) h3
  · rw [gL_sL, if_neg (fun q => hx q.1)]
  · rw [hE_l (show gT (sL σ a _ x) a = (21, ln) from hT)]
    show H1[ad G a]? = some (vp_cell _ _)
    rw [e, vp_cell_l, vp_cell_l, arrV_store]
    congr 2
    funext q
    by_cases hq : q = i.toNatClampNeg
    · subst hq; simp [updV, gL_sL]
    · simp [updV, gL_sL, hq]
end
