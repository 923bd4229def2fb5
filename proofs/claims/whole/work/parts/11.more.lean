section
variable {p : Program} {l : Launch} {e : Env} {R : Room} {s : State} {m : MethodId} {args : Array Value} {below : List Frame} {meth : Method} {c : Code} {Q : State → Prop} {G : ha_G} {cc : ByteArray} {own : String} {ret : Option FieldType} {nL pc : Nat} {lv lv' : List (Nat × Value)} {st : List Value} {σ : ha_St} {k n : Nat}
theorem h_tref {r : Option Nat} {b : Nat} (h : r = some b) (kk : hW p l e R s m args below meth c Q G nL pc lv (.ref (ad G b) :: st) σ k n) : hW p l e R s m args below meth c Q G nL pc lv (rf G r :: st) σ k n := by subst h; exact kk
theorem h_tnull {r : Option Nat} (h : r = none) (kk : hW p l e R s m args below meth c Q G nL pc lv (.null :: st) σ k n) : hW p l e R s m args below meth c Q G nL pc lv (rf G r :: st) σ k n := by subst h; exact kk
theorem h_topt {r : Option Nat} (kn : r = none → hW p l e R s m args below meth c Q G nL pc lv (.null :: st) σ k n) (ks : ∀ b, r = some b → hW p l e R s m args below meth c Q G nL pc lv (.ref (ad G b) :: st) σ k n) : hW p l e R s m args below meth c Q G nL pc lv (rf G r :: st) σ k n := by
  cases r with
  | none => exact kn rfl
  | some b => exact ks b rfl
theorem h_dirXN (C : hX p s m args meth c G cc own nL ret) {index : Nat} {ref host : String} (w : Cond.fieldLinkNest own index ref "DIRECTION_X" "[I" host ∈ ntbl) (hs : ref = "HeldPart") (hd : decode cc pc = .ok (.getstatic index, 3)) (kk : hW p l e R s m args below meth c Q G nL (pc + 3) lv (.ref G.2.2.2.1 :: st) σ k n) : hW p l e R s m args below meth c Q G nL pc lv st σ k n :=
  fun H locs ls h1 h2 h3 => va_getsN C.1 C.2.1 C.2.2.2.2.2.1.2.2.2.2.1 h2 C.2.2.2.1 (va_Nw.use rfl (C.2.2.2.2.2.1.2.1 _ w)) (fun x hx => by rw [hs]; exact hx) hd (kk H locs ls h1 h2 h3)
theorem h_dirYN (C : hX p s m args meth c G cc own nL ret) {index : Nat} {ref host : String} (w : Cond.fieldLinkNest own index ref "DIRECTION_Y" "[I" host ∈ ntbl) (hs : ref = "HeldPart") (hd : decode cc pc = .ok (.getstatic index, 3)) (kk : hW p l e R s m args below meth c Q G nL (pc + 3) lv (.ref G.2.2.2.2 :: st) σ k n) : hW p l e R s m args below meth c Q G nL pc lv st σ k n :=
  fun H locs ls h1 h2 h3 => va_getsN C.1 C.2.1 C.2.2.2.2.2.1.2.2.2.2.2.2.1 h2 C.2.2.2.1 (va_Nw.use rfl (C.2.2.2.2.2.1.2.1 _ w)) (fun x hx => by rw [hs]; exact hx) hd (kk H locs ls h1 h2 h3)
end
section
variable {p : Program} {l : Launch} {e : Env} {R : Room} {s : State} {m : MethodId} {args : Array Value} {below : List Frame} {meth : Method} {c : Code} {Q : State → Prop} {G : ha_G} {nL pc : Nat} {lv : List (Nat × Value)} {st : List Value} {σ : ha_St} {k n : Nat}
/-- a loop: by a measure that falls -/
theorem h_loop {α : Type} (I : α → Prop) (μ : α → Nat) (lvf : α → List (Nat × Value)) (stf : α → List Value) (σf : α → ha_St) (kf nf : α → Nat)
    (hs : ∀ x, I x → (∀ y, I y → μ y < μ x → hW p l e R s m args below meth c Q G nL pc (lvf y) (stf y) (σf y) (kf y) (nf y)) → hW p l e R s m args below meth c Q G nL pc (lvf x) (stf x) (σf x) (kf x) (nf x)) (x : α) (hx : I x) : hW p l e R s m args below meth c Q G nL pc (lvf x) (stf x) (σf x) (kf x) (nf x) := by
  have key : ∀ (f : Nat) (x : α), μ x < f → I x → hW p l e R s m args below meth c Q G nL pc (lvf x) (stf x) (σf x) (kf x) (nf x) := by
    intro f
    induction f with
    | zero => intro x h; omega
    | succ f ih => intro x h hx; exact hs x hx (fun y hy hm => ih y (by omega) hy)
  exact key (μ x + 1) x (by omega) hx
/-- roads that meet again -/
theorem h_join {α : Type} (pc' : Nat) (I : α → Prop) (lvf : α → List (Nat × Value)) (stf : α → List Value) (σf : α → ha_St) (kf nf : α → Nat)
    (hj : ∀ x, I x → hW p l e R s m args below meth c Q G nL pc' (lvf x) (stf x) (σf x) (kf x) (nf x)) (kk : (∀ x, I x → hW p l e R s m args below meth c Q G nL pc' (lvf x) (stf x) (σf x) (kf x) (nf x)) → hW p l e R s m args below meth c Q G nL pc lv st σ k n) : hW p l e R s m args below meth c Q G nL pc lv st σ k n := kk hj
end
theorem vp32 {i N : Int32} {n : Nat} (h0 : 0 ≤ i) (h1 : i < N) (hN : N.toInt = n) : vp_in i n := by
  rw [vp_in_iff]
  rw [Int32.le_iff_toInt_le] at h0
  rw [Int32.lt_iff_toInt_lt] at h1
  rw [Int32.toInt_zero] at h0
  omega
theorem lg_lt0 (x : Int64) : lg_cmp x 0 < 0 ↔ x < 0 := by unfold lg_cmp; grind
theorem lg_cases (x y : Int64) : (y < x ∧ lg_cmp x y = 1) ∨ (x = y ∧ lg_cmp x y = 0) ∨ (x < y ∧ lg_cmp x y = -1) := by unfold lg_cmp; grind
/-- a contract out of a walk, whatever the class's name -/
theorem hM_ofF {G : ha_G} {l : Launch} {y : MethodName} {cc : ByteArray} {nL : Nat} {ret : Option FieldType} {rm : Room} {av : List Value} {σ : ha_St} {Qr : Option Value → ha_St → Prop} (lv : List (Nat × Value)) (hy : plainFor y = true) (hn : (lg_sl av).length ≤ nL) (hlv : lv_args 0 av = lv)
    (body : ∀ (p : Program) (e : Env) (s : State) (m : MethodId) (args : Array Value) (below : List Frame) (meth : Method) (c : Code), hX p s m args meth c G cc y.cls nL ret → meth.name = y.name → hW p l e rm s m args below meth c (MQ below (hQ G Qr) args s rm.cells rm.slots (gA G)) G nL 0 lv [] σ 0 0) : hM G l y cc nL ret rm av σ Qr := by
  show MetFree l y (headSpec (Cond.code y cc nL ret :: gtbl) rm) (hPre G av σ) (fun _ _ _ _ _ => True) (fun a st o t => hQ G Qr a st o t ∧ ∃ L, FrameEnd st o t L rm.cells rm.slots ∧ ∀ q ∈ L, (gA G) q.base)
  refine MetFree.of_bodySF (code := cc) (maxLocals := nL) (ret := ret) hy ?_ ?_
  · intro args s m h hn
    obtain ⟨meth, c, h1, h2, h3, h4, h5, h6, -, -⟩ := Cond.code_spec hn (atoms_spec (ws := Cond.code y cc nL ret :: gtbl) h _ List.mem_cons_self)
    exact ⟨meth, c, h1, h2, h3, h4, h5, h6⟩
  · intro p e s m args below meth c s₁ B hml hv _
    obtain ⟨rfl, h1, h2⟩ := hv
    have hh0 : s₁.heap = s.heap := by rw [B.state]; rfl
    have hl := lv_entry av (n := nL) hn
    have hts := atoms_spec (ws := Cond.code y cc nL ret :: gtbl) B.pre
    rw [hlv] at hl
    have K : W p l e rm s m av.toArray below meth c s.heap [] 0 0 (MQ below (hQ G Qr) av.toArray s rm.cells rm.slots (gA G)) (entryFrame m av.toArray nL) := by
      rw [lg_entry_eq]
      exact body p e s m _ below meth c ⟨B.exec, B.bytes, hml, findClass_of_methodNamed B.named, fun w hw => hts w (List.mem_cons_of_mem _ hw), h2, by rw [h1.1]; exact Nat.le_add_right _ _, B.notSynchronized, B.returns⟩ (name_of_methodNamed B.named B.method).1 s.heap [] _ h1 va_S.rf hl
    obtain ⟨t, a1, o, b1, b2, b3⟩ := K s₁ hh0 (Stand.of_body B)
    exact ⟨t, o, a1, b1, b2, ⟨b3.1, b3.2⟩⟩
