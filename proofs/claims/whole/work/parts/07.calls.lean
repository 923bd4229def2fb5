/-! ===== contracts over the store ===== -/
def hQ (G : ha_G) (Qr : Option Value → ha_St → Prop) : Array Value → State → Outcome → State → Prop := fun _ s0 oc t => (∃ (v : Option Value) (σ' : ha_St), oc = .returned v ∧ Qr v σ' ∧ hH G σ' t.heap) ∧ va_F (gA G) s0 t
def hPre (G : ha_G) (av : List Value) (σ : ha_St) : Array Value → State → Prop := va_Pc av (fun U => hH G σ U.heap ∧ hK G U U.heap)
/-- y, called with av in the store σ, comes back with Qr -/
def hM (G : ha_G) (l : Launch) (y : MethodName) (cc : ByteArray) (nL : Nat) (ret : Option FieldType) (rm : Room) (av : List Value) (σ : ha_St) (Qr : Option Value → ha_St → Prop) : Prop :=
  Met l y (Cond.code y cc nL ret :: gtbl) rm (hPre G av σ) (hQ G Qr) rm.cells rm.slots (gA G)
theorem hPre_blind {G : ha_G} {av : List Value} {σ : ha_St} : FrameBlind (hPre G av σ) := by
  intro a U g mk h
  obtain ⟨h1, h2, h3⟩ := h
  exact ⟨h1, h2, hK.same (s := U) (U := U.calling g mk a) rfl h3⟩
theorem hM_of {G : ha_G} {l : Launch} {y : MethodName} {cc : ByteArray} {nL : Nat} {ret : Option FieldType} {rm : Room} {av : List Value} {σ : ha_St} {Qr : Option Value → ha_St → Prop} (lv : List (Nat × Value)) (hy : plainName y.cls = true) (hn : (lg_sl av).length ≤ nL) (hlv : lv_args 0 av = lv)
    (body : ∀ (p : Program) (e : Env) (s : State) (m : MethodId) (args : Array Value) (below : List Frame) (meth : Method) (c : Code), hX p s m args meth c G cc y.cls nL ret → meth.name = y.name → hW p l e rm s m args below meth c (MQ below (hQ G Qr) args s rm.cells rm.slots (gA G)) G nL 0 lv [] σ 0 0) : hM G l y cc nL ret rm av σ Qr := by
  refine Met.ofW (cc := cc) (maxL := nL) (ret := ret) hy rfl ?_
  intro p e s m args below meth c s₁ B hml hv
  obtain ⟨rfl, h1, h2⟩ := hv
  have hl := lv_entry av (n := nL) hn
  have hts := atoms_spec (ws := Cond.code y cc nL ret :: gtbl) B.pre
  rw [lg_entry_eq]
  rw [hlv] at hl
  exact body p e s m _ below meth c ⟨B.exec, B.bytes, hml, findClass_of_methodNamed B.named, fun w hw => hts w (List.mem_cons_of_mem _ hw), h2, by rw [h1.1]; exact Nat.le_add_right _ _, B.notSynchronized, B.returns⟩ (name_of_methodNamed B.named B.method).1 s.heap [] _ h1 va_S.rf hl
theorem hM_post {G : ha_G} {l : Launch} {y : MethodName} {cc : ByteArray} {nL : Nat} {ret : Option FieldType} {rm : Room} {av : List Value} {σ : ha_St} {Qr Qr' : Option Value → ha_St → Prop} (hq : ∀ v σ', Qr v σ' → Qr' v σ') (h : hM G l y cc nL ret rm av σ Qr) : hM G l y cc nL ret rm av σ Qr' := by
  have key : ∀ a s0 o t, hQ G Qr a s0 o t → hQ G Qr' a s0 o t := by
    intro a s0 o t ⟨⟨v, σ', e1, e2, e3⟩, e4⟩
    exact ⟨⟨v, σ', e1, hq _ _ e2, e3⟩, e4⟩
  intro p e ha hc hk s m args below hf happ hp hK
  obtain ⟨n, o, h1, h2, h3, hq', hr⟩ := h p e ha hc hk s m args below hf happ hp hK
  exact ⟨n, o, h1, h2, h3, key _ _ _ _ hq', hr⟩
section
variable {p : Program} {l : Launch} {e : Env} {R : Room} {s : State} {m : MethodId} {args : Array Value} {below : List Frame} {meth : Method} {c : Code} {Q : State → Prop} {G : ha_G} {cc : ByteArray} {own : String} {ret : Option FieldType} {nL pc : Nat} {lv lv' : List (Nat × Value)} {st : List Value} {σ : ha_St} {k n : Nat} {Qr : Option Value → ha_St → Prop} {mc ms : Nat}
/-! ends -/
theorem h_iret (C : hX p s m args meth c G cc own nL ret) {v : Int32} (hr : ret = some .int) (hk : k ≤ mc) (hn : n ≤ ms) (hd : decode cc pc = .ok (.ireturn, 1)) (hq : Qr (some (.int v)) σ) : hW p l e R s m args below meth c (MQ below (hQ G Qr) args s mc ms (gA G)) G nL pc lv [.int v] σ k n :=
  fun H locs ls h1 h2 h3 => W.widen hk hn (W.iret C.1 C.2.1 (C.2.2.2.2.2.2.2.2.trans hr) (fun t ht _ => ⟨⟨_, σ, rfl, hq, by rw [ht]; exact h1⟩, h2.F ht⟩) (fun q hq => h2.2.2 q hq) hd C.2.2.2.2.2.2.2.1)
theorem h_zret (C : hX p s m args meth c G cc own nL ret) {v : Int32} (hr : ret = some .boolean) (hv : v = 0 ∨ v = 1) (hk : k ≤ mc) (hn : n ≤ ms) (hd : decode cc pc = .ok (.ireturn, 1)) (hq : Qr (some (.int v)) σ) : hW p l e R s m args below meth c (MQ below (hQ G Qr) args s mc ms (gA G)) G nL pc lv [.int v] σ k n :=
  fun H locs ls h1 h2 h3 => W.widen hk hn (W.zret C.1 C.2.1 (C.2.2.2.2.2.2.2.2.trans hr) (by rcases hv with rfl | rfl <;> rfl) (fun t ht _ => ⟨⟨_, σ, rfl, hq, by rw [ht]; exact h1⟩, h2.F ht⟩) (fun q hq => h2.2.2 q hq) hd C.2.2.2.2.2.2.2.1)
theorem h_lret (C : hX p s m args meth c G cc own nL ret) {v : Int64} (hr : ret = some .long) (hk : k ≤ mc) (hn : n ≤ ms) (hd : decode cc pc = .ok (.lreturn, 1)) (hq : Qr (some (.long v)) σ) : hW p l e R s m args below meth c (MQ below (hQ G Qr) args s mc ms (gA G)) G nL pc lv [.long v] σ k n :=
  fun H locs ls h1 h2 h3 => W.widen hk hn (W.lret C.1 C.2.1 (C.2.2.2.2.2.2.2.2.trans hr) (fun t ht _ => ⟨⟨_, σ, rfl, hq, by rw [ht]; exact h1⟩, h2.F ht⟩) (fun q hq => h2.2.2 q hq) hd C.2.2.2.2.2.2.2.1)
theorem h_vret (C : hX p s m args meth c G cc own nL ret) (hr : ret = none) (hk : k ≤ mc) (hn : n ≤ ms) (hd : decode cc pc = .ok (.return_, 1)) (hq : Qr none σ) : hW p l e R s m args below meth c (MQ below (hQ G Qr) args s mc ms (gA G)) G nL pc lv [] σ k n :=
  fun H locs ls h1 h2 h3 => W.widen hk hn (W.vret C.1 C.2.1 (C.2.2.2.2.2.2.2.2.trans hr) (fun t ht _ => ⟨⟨_, σ, rfl, hq, by rw [ht]; exact h1⟩, h2.F ht⟩) (fun q hq => h2.2.2 q hq) hd C.2.2.2.2.2.2.2.1)
theorem h_aret (C : hX p s m args meth c G cc own nL ret) {rt : FieldType} (r : Option Nat) (hr : ret = some rt) (hrt : (∃ x, rt = .object x) ∨ ∃ x, rt = .array x) (hk : k ≤ mc) (hn : n ≤ ms) (hd : decode cc pc = .ok (.areturn, 1)) (hq : Qr (some (rf G r)) σ) : hW p l e R s m args below meth c (MQ below (hQ G Qr) args s mc ms (gA G)) G nL pc lv [rf G r] σ k n :=
  fun H locs ls h1 h2 h3 => W.widen hk hn (W.aret C.1 C.2.1 (C.2.2.2.2.2.2.2.2.trans hr) hrt (by cases r with | none => exact Or.inl rfl | some x => exact Or.inr ⟨_, rfl⟩) (fun t ht _ => ⟨⟨_, σ, rfl, hq, by rw [ht]; exact h1⟩, h2.F ht⟩) (fun q hq => h2.2.2 q hq) hd C.2.2.2.2.2.2.2.1)
/-! calls -/
theorem h_run {rm : Room} {st0 rest : List Value} {a : Array Value} (hr : ∀ (H : Heap) (locs : List Loc) (ls : Array Slot), hH G σ H → va_S (gA G) s.heap H locs → lv_has ls nL lv → va_Run p l e R s m args below meth c H locs k n rm.cells rm.slots (F0 m pc ls st0) rest (hQ G Qr a) (gA G))
    (kk : ∀ (v : Option Value) (σ' : ha_St), Qr v σ' → hW p l e R s m args below meth c Q G nL (pc + 3) lv (v.toList ++ rest) σ' (k + rm.cells) (n + rm.slots)) : hW p l e R s m args below meth c Q G nL pc lv st0 σ k n := by
  intro H locs ls h1 h2 h3 T hT X
  obtain ⟨v, st₀, t, T', L, h0, X', hL, e1, e2, ⟨⟨v', σ', hv, hp, hb⟩, hz, hk⟩, st⟩ := hr H locs ls h1 h2 h3 T hT X
  cases hv
  rw [h0] at hz hk
  obtain ⟨t2, a1, b1⟩ := kk v σ' hp T'.heap (locs ++ L) ls (by rw [e1]; exact hb)
    ⟨Nat.le_trans h2.1 (by rw [e1]; exact hz), fun q q1 q2 => by rw [e1, hk q (Nat.lt_of_lt_of_le q1 h2.1) q2]; exact h2.2.1 q q1 q2, fun q hq => by
      rcases List.mem_append.mp hq with h | h
      · exact h2.2.2 q h
      · exact hL q h⟩ h3 T' rfl X'
  exact ⟨t2, st t2 a1, b1⟩
theorem hPre_at (C : hX p s m args meth c G cc own nL ret) {av : List Value} {H : Heap} {locs : List Loc} (h1 : hH G σ H) (h2 : va_S (gA G) s.heap H locs) : ∀ U : State, U.heap = H → s.WarmedH U.vm → hPre G av σ av.toArray U := by
  intro U hU hW
  refine ⟨rfl, by rw [hU]; exact h1, ?_⟩
  rw [hU]
  exact (C.2.2.2.2.2.1.kept h2.2.1).warm hW
def hD (y : MethodName) (na : Nat) : Prop := y.cls ≠ "java/lang/invoke/MethodHandle" ∧ y.cls ≠ "java/lang/invoke/VarHandle" ∧ (parseMethodDescriptor y.desc).map (fun d => d.parameters.length) = some na
def hCS (own : String) (index : Nat) (y : MethodName) (cy : ByteArray) (ny : Nat) (ry : Option FieldType) (na : Nat) : Prop :=
  Cond.methodLink own index y ∈ gtbl ∧ Cond.static y ∈ gtbl ∧ Cond.initialized y.cls ∈ gtbl ∧ Cond.code y cy ny ry ∈ gtbl ∧ hD y na
def hCV (own : String) (index : Nat) (y : MethodName) (cy : ByteArray) (ny : Nat) (ry : Option FieldType) (na : Nat) : Prop :=
  Cond.methodLink own index y ∈ gtbl ∧ Cond.instanceMethod y ∈ gtbl ∧ Cond.selects y.cls y y ∈ gtbl ∧ Cond.initialized y.cls ∈ gtbl ∧ Cond.code y cy ny ry ∈ gtbl ∧ hD y na
def hCI (own : String) (index : Nat) (y : MethodName) (cy : ByteArray) (ny : Nat) (na : Nat) : Prop :=
  Cond.methodLink own index y ∈ gtbl ∧ Cond.instanceMethod y ∈ gtbl ∧ Cond.initialized y.cls ∈ gtbl ∧ Cond.code y cy ny none ∈ gtbl ∧ y.name = "<init>" ∧ hD y na
def hCU (own : String) (index : Nat) (Cr owner : String) (x y : MethodName) (cy : ByteArray) (ny : Nat) (ry : Option FieldType) (na : Nat) : Prop :=
  (Cond.methodLink own index x ∈ gtbl ∧ Cond.sameMethod x.cls owner x.name x.desc ∈ gtbl ∧ Cond.selects Cr x y ∈ gtbl ∧ Cond.instanceMethod y ∈ gtbl ∧ Cond.initialized y.cls ∈ gtbl ∧ Cond.code y cy ny ry ∈ gtbl) ∧
  (owner ≠ "java/lang/invoke/MethodHandle" ∧ owner ≠ "java/lang/invoke/VarHandle" ∧ (parseMethodDescriptor x.desc).map (fun d => d.parameters.length) = some na) ∧
  (Cond.instanceMethod ⟨owner, x.name, x.desc⟩ ∈ gtbl ∧ ∃ (b0 : ByteArray) (m0 : Nat) (r0 : Option FieldType), Cond.code ⟨owner, x.name, x.desc⟩ b0 m0 r0 ∈ gtbl)
def hCSN (own : String) (index : Nat) (y : MethodName) (host : String) (cy : ByteArray) (ny : Nat) (ry : Option FieldType) (na : Nat) : Prop :=
  Cond.methodLinkNest own index y host ∈ ntbl ∧ Cond.static y ∈ gtbl ∧ Cond.initialized y.cls ∈ gtbl ∧ Cond.code y cy ny ry ∈ gtbl ∧ hD y na
def hCIN (own : String) (index : Nat) (y : MethodName) (host : String) (cy : ByteArray) (ny : Nat) (na : Nat) : Prop :=
  Cond.methodLinkNest own index y host ∈ ntbl ∧ Cond.instanceMethod y ∈ gtbl ∧ Cond.initialized y.cls ∈ gtbl ∧ Cond.code y cy ny none ∈ gtbl ∧ y.name = "<init>" ∧ hD y na
/-- the room of a call -/
def hRm (R rm : Room) (ny k n : Nat) : Prop := rm.frames + 1 ≤ R.frames ∧ 8 + (ny + 11) + rm.locals ≤ R.locals ∧ k + rm.cells ≤ R.cells ∧ n + rm.slots ≤ R.slots
theorem g_code {y : MethodName} {cy : ByteArray} {ny : Nat} {ry : Option FieldType} (h : Cond.code y cy ny ry ∈ gtbl) : GoodIn gtbl (Cond.code y cy ny ry :: gtbl) := g_goodIn (fun w hw => (List.mem_cons.mp hw).elim (fun e => by rw [e]; exact h) id)
theorem hX_fix (C : hX p s m args meth c G cc own nL ret) : CallFix p m c cc nL s args gtbl own := ⟨C.1, C.2.1, C.2.2.1, C.2.2.2.1, C.2.2.2.2.1⟩
theorem h_callS (C : hX p s m args meth c G cc own nL ret) {index : Nat} {y : MethodName} {cy : ByteArray} {ny na : Nat} {ry : Option FieldType} {rm : Room} {av st0 rest : List Value} (hm : hM G l y cy ny ry rm av σ Qr) (hc : hCS own index y cy ny ry na) (hr : hRm R rm ny k n) (hna : av.length = na) (hst : st0 = av.reverse ++ rest) (hw : (rest.map fun v => v.category).sum ≤ 8) (hd : decode cc pc = .ok (.invokestatic index, 3))
    (kk : ∀ (v : Option Value) (σ' : ha_St), Qr v σ' → hW p l e R s m args below meth c Q G nL (pc + 3) lv (v.toList ++ rest) σ' (k + rm.cells) (n + rm.slots)) : hW p l e R s m args below meth c Q G nL pc lv st0 σ k n := by
  obtain ⟨w1, w2, w3, w4, w5⟩ := hc
  have hts := C.2.2.2.2.1
  refine h_run (a := av.toArray) (fun H locs ls h1 h2 h3 => ?_) kk
  exact va_runS (As := av) (rest := rest) (hX_fix C) hm ⟨callB_of na hts (g_code w4) rfl rfl rfl (hts _ w3) (hts _ w1) w5 ⟨hr.1, hr.2.1⟩, hts _ w2⟩ ⟨hPre_blind, hPre_at C h1 h2⟩ rfl hna h3.1 hst (lv_room hw) hd hr.2.2
theorem h_callSN (C : hX p s m args meth c G cc own nL ret) {index : Nat} {y : MethodName} {host : String} {cy : ByteArray} {ny na : Nat} {ry : Option FieldType} {rm : Room} {av st0 rest : List Value} (hm : hM G l y cy ny ry rm av σ Qr) (hc : hCSN own index y host cy ny ry na) (hr : hRm R rm ny k n) (hna : av.length = na) (hst : st0 = av.reverse ++ rest) (hw : (rest.map fun v => v.category).sum ≤ 8) (hd : decode cc pc = .ok (.invokestatic index, 3))
    (kk : ∀ (v : Option Value) (σ' : ha_St), Qr v σ' → hW p l e R s m args below meth c Q G nL (pc + 3) lv (v.toList ++ rest) σ' (k + rm.cells) (n + rm.slots)) : hW p l e R s m args below meth c Q G nL pc lv st0 σ k n := by
  obtain ⟨w1, w2, w3, w4, w5⟩ := hc
  have hts := C.2.2.2.2.1
  refine h_run (a := av.toArray) (fun H locs ls h1 h2 h3 => ?_) kk
  exact va_runSN (As := av) (rest := rest) (hX_fix C) hm ⟨va_cnB na hts (g_code w4) rfl rfl rfl (C.2.2.2.2.2.1.2.1 _ w1) (hts _ w3) w5 ⟨hr.1, hr.2.1⟩, hts _ w2, trivial⟩ ⟨hPre_blind, hPre_at C h1 h2⟩ rfl hna h3.1 hst (lv_room hw) hd hr.2.2
theorem h_recv (C : hX p s m args meth c G cc own nL ret) {H : Heap} {a ci ln : Nat} {Cn : String} {T : u_T} {N : Nat} {ty : Nat → FieldType} (h1 : hH G σ H) (hC0 : hC ci Cn T N ty) (hT : gT σ a = (ci + 1, ln)) : ∃ cell : Cell, H[ad G a]? = some cell ∧ cell.vm.isStatics = false ∧ s.vm.findClass Cn = some cell.cls :=
  va_recv (q := (Cn, T, N)) C.2.2.2.2.2.1.1 (h1.one (by rw [hT]; exact Nat.succ_ne_zero _) (hE_o hT hC0.1)) hC0.2.2.1 (q0 := 0) rfl
theorem h_callV (C : hX p s m args meth c G cc own nL ret) {index : Nat} {y : MethodName} {cy : ByteArray} {ny na : Nat} {ry : Option FieldType} {rm : Room} {a ci ln : Nat} {T : u_T} {N : Nat} {ty : Nat → FieldType} {av st0 rest : List Value} (hm : hM G l y cy ny ry rm (.ref (ad G a) :: av) σ Qr) (hc : hCV own index y cy ny ry na) (hC0 : hC ci y.cls T N ty) (hT : gT σ a = (ci + 1, ln)) (hr : hRm R rm ny k n) (hna : av.length = na) (hst : st0 = av.reverse ++ .ref (ad G a) :: rest) (hw : (rest.map fun v => v.category).sum ≤ 8) (hd : decode cc pc = .ok (.invokevirtual index, 3))
    (kk : ∀ (v : Option Value) (σ' : ha_St), Qr v σ' → hW p l e R s m args below meth c Q G nL (pc + 3) lv (v.toList ++ rest) σ' (k + rm.cells) (n + rm.slots)) : hW p l e R s m args below meth c Q G nL pc lv st0 σ k n := by
  obtain ⟨w1, w2, w3, w4, w5, w6⟩ := hc
  have hts := C.2.2.2.2.1
  refine h_run (a := (Value.ref (ad G a) :: av).toArray) (fun H locs ls h1 h2 h3 => ?_) kk
  exact va_runV (As := av) (rest := rest) (hX_fix C) hm ⟨callB_of na hts (g_code w5) rfl rfl rfl (hts _ w4) (hts _ w1) w6 ⟨hr.1, hr.2.1⟩, hts _ w2, hts _ w3⟩ ⟨hPre_blind, h_recv C h1 hC0 hT, hPre_at C h1 h2⟩ rfl hna h3.1 hst (lv_room hw) hd hr.2.2
theorem h_callU (C : hX p s m args meth c G cc own nL ret) {index : Nat} {Cr owner : String} {x y : MethodName} {cy : ByteArray} {ny na : Nat} {ry : Option FieldType} {rm : Room} {a ci ln : Nat} {T : u_T} {N : Nat} {ty : Nat → FieldType} {av st0 rest : List Value} (hm : hM G l y cy ny ry rm (.ref (ad G a) :: av) σ Qr) (hc : hCU own index Cr owner x y cy ny ry na) (hC0 : hC ci Cr T N ty) (hT : gT σ a = (ci + 1, ln)) (hr : hRm R rm ny k n) (hna : av.length = na) (hst : st0 = av.reverse ++ .ref (ad G a) :: rest) (hw : (rest.map fun v => v.category).sum ≤ 8) (hd : decode cc pc = .ok (.invokevirtual index, 3))
    (kk : ∀ (v : Option Value) (σ' : ha_St), Qr v σ' → hW p l e R s m args below meth c Q G nL (pc + 3) lv (v.toList ++ rest) σ' (k + rm.cells) (n + rm.slots)) : hW p l e R s m args below meth c Q G nL pc lv st0 σ k n := by
  obtain ⟨⟨w1, w2, w3, w4, w5, w6⟩, w7, w8, b0, m0, r0, w9⟩ := hc
  have hts := C.2.2.2.2.1
  have hg := g_code w6
  have hcw : va_CU R s args own Cr owner index x y cy ny ry (Cond.code y cy ny ry :: gtbl) rm rm.cells rm.slots na := by
    refine ⟨⟨rfl, rfl, hr.1, hr.2.1, pay_in hts hg, List.mem_cons_self⟩, hts _ w6, hts _ w5, ⟨w7.1, w7.2.1⟩, fun sig h => ?_, hts _ w1, hts _ w2, va_Decl.of (hts _ w8) (hts _ w9), hts _ w3, hts _ w4⟩
    have h2 := w7.2.2
    rw [h] at h2
    exact (Option.some.inj h2).symm
  refine h_run (a := (Value.ref (ad G a) :: av).toArray) (fun H locs ls h1 h2 h3 => ?_) kk
  exact va_runU (As := av) (rest := rest) (hX_fix C) hm hcw ⟨hPre_blind, h_recv C h1 hC0 hT, hPre_at C h1 h2⟩ rfl hna h3.1 hst (lv_room hw) hd hr.2.2
theorem h_callI (C : hX p s m args meth c G cc own nL ret) {index : Nat} {y : MethodName} {cy : ByteArray} {ny na : Nat} {rm : Room} {a : Nat} {av st0 rest : List Value} (hm : hM G l y cy ny none rm (.ref (ad G a) :: av) σ Qr) (hc : hCI own index y cy ny na) (hr : hRm R rm ny k n) (hna : av.length = na) (hst : st0 = av.reverse ++ .ref (ad G a) :: rest) (hw : (rest.map fun v => v.category).sum ≤ 8) (hd : decode cc pc = .ok (.invokespecial index, 3))
    (kk : ∀ (v : Option Value) (σ' : ha_St), Qr v σ' → hW p l e R s m args below meth c Q G nL (pc + 3) lv (v.toList ++ rest) σ' (k + rm.cells) (n + rm.slots)) : hW p l e R s m args below meth c Q G nL pc lv st0 σ k n := by
  obtain ⟨w1, w2, w3, w4, w5, w6⟩ := hc
  have hts := C.2.2.2.2.1
  refine h_run (a := (Value.ref (ad G a) :: av).toArray) (fun H locs ls h1 h2 h3 => ?_) kk
  exact va_runI (As := av) (rest := rest) (hX_fix C) hm ⟨callB_of na hts (g_code w4) rfl rfl rfl (hts _ w3) (hts _ w1) w6 ⟨hr.1, hr.2.1⟩, w5, hts _ w2⟩ ⟨hPre_blind, hPre_at C h1 h2⟩ rfl hna h3.1 hst (lv_room hw) hd hr.2.2
theorem h_callIN (C : hX p s m args meth c G cc own nL ret) {index : Nat} {y : MethodName} {host : String} {cy : ByteArray} {ny na : Nat} {rm : Room} {a : Nat} {av st0 rest : List Value} (hm : hM G l y cy ny none rm (.ref (ad G a) :: av) σ Qr) (hc : hCIN own index y host cy ny na) (hr : hRm R rm ny k n) (hna : av.length = na) (hst : st0 = av.reverse ++ .ref (ad G a) :: rest) (hw : (rest.map fun v => v.category).sum ≤ 8) (hd : decode cc pc = .ok (.invokespecial index, 3))
    (kk : ∀ (v : Option Value) (σ' : ha_St), Qr v σ' → hW p l e R s m args below meth c Q G nL (pc + 3) lv (v.toList ++ rest) σ' (k + rm.cells) (n + rm.slots)) : hW p l e R s m args below meth c Q G nL pc lv st0 σ k n := by
  obtain ⟨w1, w2, w3, w4, w5, w6⟩ := hc
  have hts := C.2.2.2.2.1
  refine h_run (a := (Value.ref (ad G a) :: av).toArray) (fun H locs ls h1 h2 h3 => ?_) kk
  exact va_runIN (As := av) (rest := rest) (hX_fix C) hm ⟨va_cnB na hts (g_code w4) rfl rfl rfl (C.2.2.2.2.2.1.2.1 _ w1) (hts _ w3) w6 ⟨hr.1, hr.2.1⟩, w5, hts _ w2⟩ ⟨hPre_blind, hPre_at C h1 h2⟩ rfl hna h3.1 hst (lv_room hw) hd hr.2.2
theorem h_objInit (C : hX p s m args meth c G cc own nL ret) {idx a : Nat} (w1 : Cond.methodLink own idx Lib.objectInit ∈ gtbl) (w2 : Cond.instanceMethod Lib.objectInit ∈ gtbl) (w3 : Cond.code Lib.objectInit ⟨#[0xb1]⟩ 1 none ∈ gtbl) (hf : 1 ≤ R.frames) (hl : (st.map fun v => v.category).sum + 12 ≤ R.locals) (hd : decode cc pc = .ok (.invokespecial idx, 3)) (kk : hW p l e R s m args below meth c Q G nL (pc + 3) lv st σ k n) : hW p l e R s m args below meth c Q G nL pc lv (.ref a :: st) σ k n :=
  fun H locs ls h1 h2 h3 => W.objInit C.1 C.2.1 C.2.2.2.1 (C.2.2.2.2.1 _ w1) (C.2.2.2.2.1 _ w2) (C.2.2.2.2.1 _ w3) rfl (h3.1.trans C.2.2.1.symm) rfl hd hf (by show 2 * 0 + _ + _ ≤ _; omega) (kk H locs ls h1 h2 h3)
/-! statics -/
theorem h_dirX (C : hX p s m args meth c G cc own nL ret) {index : Nat} {ref : String} (w : Cond.fieldLink own index ref "DIRECTION_X" "[I" ∈ gtbl) (hs : ref = "HeldPart") (hd : decode cc pc = .ok (.getstatic index, 3)) (kk : hW p l e R s m args below meth c Q G nL (pc + 3) lv (.ref G.2.2.2.1 :: st) σ k n) : hW p l e R s m args below meth c Q G nL pc lv st σ k n :=
  fun H locs ls h1 h2 h3 => va_gets C.1 C.2.1 C.2.2.2.2.2.1.2.2.2.2.1 h2 C.2.2.2.1 (C.2.2.2.2.1 _ w) (fun x hx => by rw [hs]; exact hx) hd (kk H locs ls h1 h2 h3)
theorem h_dirY (C : hX p s m args meth c G cc own nL ret) {index : Nat} {ref : String} (w : Cond.fieldLink own index ref "DIRECTION_Y" "[I" ∈ gtbl) (hs : ref = "HeldPart") (hd : decode cc pc = .ok (.getstatic index, 3)) (kk : hW p l e R s m args below meth c Q G nL (pc + 3) lv (.ref G.2.2.2.2 :: st) σ k n) : hW p l e R s m args below meth c Q G nL pc lv st σ k n :=
  fun H locs ls h1 h2 h3 => va_gets C.1 C.2.1 C.2.2.2.2.2.1.2.2.2.2.2.2.1 h2 C.2.2.2.1 (C.2.2.2.2.1 _ w) (fun x hx => by rw [hs]; exact hx) hd (kk H locs ls h1 h2 h3)
theorem h_dirXld (C : hX p s m args meth c G cc own nL ret) {i : Int32} (hi : vp_in i 8) (hd : decode cc pc = .ok (.iaload, 1)) (kk : hW p l e R s m args below meth c Q G nL (pc + 1) lv (.int (dirX i.toNatClampNeg) :: st) σ k n) : hW p l e R s m args below meth c Q G nL pc lv (.int i :: .ref G.2.2.2.1 :: st) σ k n :=
  fun H locs ls h1 h2 h3 => va_ti C.1 C.2.1 C.2.2.2.2.2.1.2.2.2.2.2.1 h2 hi rfl hd (kk H locs ls h1 h2 h3)
theorem h_dirYld (C : hX p s m args meth c G cc own nL ret) {i : Int32} (hi : vp_in i 8) (hd : decode cc pc = .ok (.iaload, 1)) (kk : hW p l e R s m args below meth c Q G nL (pc + 1) lv (.int (dirY i.toNatClampNeg) :: st) σ k n) : hW p l e R s m args below meth c Q G nL pc lv (.int i :: .ref G.2.2.2.2 :: st) σ k n :=
  fun H locs ls h1 h2 h3 => va_ti C.1 C.2.1 C.2.2.2.2.2.1.2.2.2.2.2.2.2 h2 hi rfl hd (kk H locs ls h1 h2 h3)
theorem h_dirXlen (C : hX p s m args meth c G cc own nL ret) (hd : decode cc pc = .ok (.arraylength, 1)) (kk : hW p l e R s m args below meth c Q G nL (pc + 1) lv (.int 8 :: st) σ k n) : hW p l e R s m args below meth c Q G nL pc lv (.ref G.2.2.2.1 :: st) σ k n :=
  fun H locs ls h1 h2 h3 => va_tlen C.1 C.2.1 C.2.2.2.2.2.1.2.2.2.2.2.1 h2 rfl hd (kk H locs ls h1 h2 h3)
theorem h_dirYlen (C : hX p s m args meth c G cc own nL ret) (hd : decode cc pc = .ok (.arraylength, 1)) (kk : hW p l e R s m args below meth c Q G nL (pc + 1) lv (.int 8 :: st) σ k n) : hW p l e R s m args below meth c Q G nL pc lv (.ref G.2.2.2.2 :: st) σ k n :=
  fun H locs ls h1 h2 h3 => va_tlen C.1 C.2.1 C.2.2.2.2.2.1.2.2.2.2.2.2.2 h2 rfl hd (kk H locs ls h1 h2 h3)
end
