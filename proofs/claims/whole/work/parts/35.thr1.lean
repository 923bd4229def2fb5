/-! ===== methods that throw, over the store ===== -/
def isD : Cond → Bool
  | .declares _ => true
  | _ => false
def dtbl : List Cond := lw_tbl.filter isD
theorem d_at {w : Cond} (i : Nat) (h : lw_tbl[i]? = some w) (hg : isD w = true) : w ∈ dtbl := List.mem_filter.mpr ⟨List.mem_of_getElem? h, hg⟩
def IAE : String := "java/lang/IllegalArgumentException"
def ISE : String := "java/lang/IllegalStateException"
def supN : List String := ["java/lang/RuntimeException", "java/lang/Exception"]
def strT : List (String × Nat × String) := [("HeldPart$Pad", 20, "its grip fails"), ("HeldPart", 125, "no such wrench"), ("HeldPart", 146, "a motion has parts 0, 1, 2"), ("HeldPart", 150, "the rank isn't 2"), ("HeldPart", 203, "no such feature or contacts"), ("HeldPart", 208, "not three contacts that place"), ("HeldPart", 218, "the rank isn't 3"), ("HeldPart", 301, "no such shelf"), ("HeldPart", 306, "no such place there")]
/-- what stays of the launch for those who throw -/
def hTh (G : ha_G) (U : State) (H : Heap) : Prop :=
  vx_Zq Bundle.tN "UNASSIGNED_STACK" Bundle.steD (gA G) U H ∧ vx_Zq Bundle.tN "SUPPRESSED_SENTINEL" Bundle.listD (gA G) U H ∧ (∀ q ∈ strT, ∃ sa, vk_R q.1 q.2.1 q.2.2 sa U) ∧ (∀ w ∈ dtbl, va_Nw w U) ∧ va_Nc ISE IAE U
theorem dt_warm {s U : State} (hW : s.WarmedH U.vm) (h : ∀ w ∈ dtbl, va_Nw w s) : ∀ w ∈ dtbl, va_Nw w U := by
  intro w hw
  have h1 := h w hw
  have h2 := (List.mem_filter.mp hw).2
  cases w <;> first | exact va_Nw.warmD hW h1 | (simp [isD] at h2; done)
theorem dt_same {s U : State} (hv : s.vm = U.vm) (h : ∀ w ∈ dtbl, va_Nw w s) : ∀ w ∈ dtbl, va_Nw w U := by
  intro w hw
  have h1 := h w hw
  have h2 := (List.mem_filter.mp hw).2
  cases w <;> first | exact va_Nw.same rfl hv h1 | (simp [isD] at h2; done)
theorem hTh.warm {G : ha_G} {s U : State} {H : Heap} (hW : s.WarmedH U.vm) (h : hTh G s H) : hTh G U H :=
  ⟨h.1.moved hW.alike, h.2.1.moved hW.alike, fun q hq => (h.2.2.1 q hq).imp fun _ z => vk_R.warm hW z, dt_warm hW h.2.2.2.1, h.2.2.2.2.moved hW.alike⟩
theorem hTh.same {G : ha_G} {s U : State} {H : Heap} (hv : s.vm = U.vm) (h : hTh G s H) : hTh G U H := by
  have ha : s.vm.Alike U.vm := by rw [hv]; exact Vm.Alike.refl _
  exact ⟨h.1.moved ha, h.2.1.moved ha, fun q hq => (h.2.2.1 q hq).imp fun _ z => vk_R.same hv.symm z, dt_same hv h.2.2.2.1, h.2.2.2.2.moved ha⟩
theorem hTh.kept {G : ha_G} {U : State} {H H1 : Heap} (hq : ∀ a : Nat, a < H.size → ¬ gA G a → H1[a]? = H[a]?) (h : hTh G U H) : hTh G U H1 := ⟨h.1.kept hq, h.2.1.kept hq, h.2.2⟩
/-- the same store; more cells -/
def sG (σ : ha_St) (g : Nat) : ha_St := (σ.1, σ.2.1, σ.2.2.1, σ.2.2.2.1, g)
theorem sG_self (σ : ha_St) : sG σ (gn σ) = σ := rfl
theorem hH.grow {G : ha_G} {σ : ha_St} {H H1 : Heap} (h : hH G σ H) (hz : H.size ≤ H1.size) (ho : ∀ q : Nat, q < H.size → H1[q]? = H[q]?) : hH G (sG σ (H1.size - G.2.1)) H1 ∧ gn σ ≤ H1.size - G.2.1 := by
  have hs := h.1
  refine ⟨⟨?_, fun a ha => ?_⟩, by omega⟩
  · show H1.size = G.2.1 + (H1.size - G.2.1)
    omega
  · obtain ⟨q1, q2⟩ := h.2 a ha
    refine ⟨?_, ?_⟩
    · show a < H1.size - G.2.1
      omega
    · rw [hE_congr (σ := σ) (σ' := sG σ (H1.size - G.2.1)) rfl rfl rfl rfl]
      exact q2.kept (ho _ q2.lt)
def hXC (G : ha_G) (Xr : String → ha_St → Prop) : String → State → State → Prop := fun E st t => (∃ σ', Xr E σ' ∧ hH G σ' t.heap) ∧ va_F (gA G) st t
def hPreT (G : ha_G) (av : List Value) (σ : ha_St) : Array Value → State → Prop := va_Pc av (fun U => hH G σ U.heap ∧ hK G U U.heap ∧ hTh G U U.heap)
theorem hPreT_blind {G : ha_G} {av : List Value} {σ : ha_St} : FrameBlind (hPreT G av σ) := by
  intro a U g mk h
  obtain ⟨h1, h2, h3, h4⟩ := h
  exact ⟨h1, h2, hK.same (s := U) (U := U.calling g mk a) rfl h3, hTh.same (s := U) (U := U.calling g mk a) rfl h4⟩
/-- y returns with Qr, or throws, with Xr -/
def hMX (G : ha_G) (l : Launch) (y : MethodName) (cc : ByteArray) (nL : Nat) (ret : Option FieldType) (rm : Room) (av : List Value) (σ : ha_St) (Qr : Option Value → ha_St → Prop) (Xr : String → ha_St → Prop) : Prop :=
  vx_Met l y (Cond.code y cc nL ret :: gtbl) rm (hPreT G av σ) (hQ G Qr) (hXC G Xr) rm.cells rm.slots (gA G)
/-- y returns with Qr, where those who throw are called -/
def hMT (G : ha_G) (l : Launch) (y : MethodName) (cc : ByteArray) (nL : Nat) (ret : Option FieldType) (rm : Room) (av : List Value) (σ : ha_St) (Qr : Option Value → ha_St → Prop) : Prop :=
  Met l y (Cond.code y cc nL ret :: gtbl) rm (hPreT G av σ) (hQ G Qr) rm.cells rm.slots (gA G)
/-- .. and y has a table -/
def hMW (G : ha_G) (l : Launch) (y : MethodName) (cc : ByteArray) (nL : Nat) (ret : Option FieldType) (hh : List (Nat × Nat × Nat × Nat)) (rm : Room) (av : List Value) (σ : ha_St) (Qr : Option Value → ha_St → Prop) : Prop :=
  Met l y (Cond.codeWith y cc nL ret hh :: gtbl) rm (hPreT G av σ) (hQ G Qr) rm.cells rm.slots (gA G)
theorem hMX_of {G : ha_G} {l : Launch} {y : MethodName} {cc : ByteArray} {nL : Nat} {ret : Option FieldType} {rm : Room} {av : List Value} {σ : ha_St} {Qr : Option Value → ha_St → Prop} {Xr : String → ha_St → Prop} (lv : List (Nat × Value)) (hy : plainName y.cls = true) (hn : (lg_sl av).length ≤ nL) (hlv : lv_args 0 av = lv)
    (body : ∀ (p : Program) (e : Env) (s : State) (m : MethodId) (args : Array Value) (below : List Frame) (meth : Method) (c : Code), hX p s m args meth c G cc y.cls nL ret → hTh G s s.heap → (∀ x ∈ c.exceptionTable.toList, False) → hW p l e rm s m args below meth c (vx_MQ below (hQ G Qr) (hXC G Xr) args s rm.cells rm.slots (gA G)) G nL 0 lv [] σ 0 0) : hMX G l y cc nL ret rm av σ Qr Xr := by
  refine vx_ofW (cc := cc) (maxL := nL) (ret := ret) hy rfl ?_
  intro p e s m args below meth c s₁ B hml ht hv
  obtain ⟨rfl, h1, h2, h3⟩ := hv
  have hl := lv_entry av (n := nL) hn
  have hts := atoms_spec (ws := Cond.code y cc nL ret :: gtbl) B.pre
  rw [lg_entry_eq]
  rw [hlv] at hl
  exact body p e s m _ below meth c ⟨B.exec, B.bytes, hml, findClass_of_methodNamed B.named, fun w hw => hts w (List.mem_cons_of_mem _ hw), h2, by rw [h1.1]; exact Nat.le_add_right _ _, B.notSynchronized, B.returns⟩ h3 ht s.heap [] _ h1 va_S.rf hl
theorem hMT_of {G : ha_G} {l : Launch} {y : MethodName} {cc : ByteArray} {nL : Nat} {ret : Option FieldType} {rm : Room} {av : List Value} {σ : ha_St} {Qr : Option Value → ha_St → Prop} (lv : List (Nat × Value)) (hy : plainName y.cls = true) (hn : (lg_sl av).length ≤ nL) (hlv : lv_args 0 av = lv)
    (body : ∀ (p : Program) (e : Env) (s : State) (m : MethodId) (args : Array Value) (below : List Frame) (meth : Method) (c : Code), hX p s m args meth c G cc y.cls nL ret → hTh G s s.heap → hW p l e rm s m args below meth c (MQ below (hQ G Qr) args s rm.cells rm.slots (gA G)) G nL 0 lv [] σ 0 0) : hMT G l y cc nL ret rm av σ Qr := by
  refine Met.ofW (cc := cc) (maxL := nL) (ret := ret) hy rfl ?_
  intro p e s m args below meth c s₁ B hml hv
  obtain ⟨rfl, h1, h2, h3⟩ := hv
  have hl := lv_entry av (n := nL) hn
  have hts := atoms_spec (ws := Cond.code y cc nL ret :: gtbl) B.pre
  rw [lg_entry_eq]
  rw [hlv] at hl
  exact body p e s m _ below meth c ⟨B.exec, B.bytes, hml, findClass_of_methodNamed B.named, fun w hw => hts w (List.mem_cons_of_mem _ hw), h2, by rw [h1.1]; exact Nat.le_add_right _ _, B.notSynchronized, B.returns⟩ h3 s.heap [] _ h1 va_S.rf hl
theorem hMW_of {G : ha_G} {l : Launch} {y : MethodName} {cc : ByteArray} {nL : Nat} {ret : Option FieldType} {hh : List (Nat × Nat × Nat × Nat)} {rm : Room} {av : List Value} {σ : ha_St} {Qr : Option Value → ha_St → Prop} (lv : List (Nat × Value)) (hy : plainName y.cls = true) (hn : (lg_sl av).length ≤ nL) (hlv : lv_args 0 av = lv)
    (body : ∀ (p : Program) (e : Env) (s : State) (m : MethodId) (args : Array Value) (below : List Frame) (meth : Method) (c : Code), hX p s m args meth c G cc y.cls nL ret → hTh G s s.heap → c.exceptionTable.toList = tableOf hh → hW p l e rm s m args below meth c (MQ below (hQ G Qr) args s rm.cells rm.slots (gA G)) G nL 0 lv [] σ 0 0) : hMW G l y cc nL ret hh rm av σ Qr := by
  refine va_MetW (cc := cc) (maxL := nL) (ret := ret) (hh := hh) hy rfl ?_
  intro p e s m args below meth c s₁ B hml hv
  obtain ⟨rfl, h1, h2, h3⟩ := hv
  have hl := lv_entry av (n := nL) hn
  have hts := atoms_spec (ws := Cond.codeWith y cc nL ret hh :: gtbl) B.pre
  rw [lg_entry_eq]
  rw [hlv] at hl
  exact body p e s m _ below meth c ⟨B.exec, B.bytes, hml, findClass_of_methodNamed B.named, fun w hw => hts w (List.mem_cons_of_mem _ hw), h2, by rw [h1.1]; exact Nat.le_add_right _ _, B.notSynchronized, B.returns⟩ h3 (vx_table (x := y) B (hts _ List.mem_cons_self)) s.heap [] _ h1 va_S.rf hl

section
variable {p : Program} {l : Launch} {e : Env} {R : Room} {s : State} {m : MethodId} {args : Array Value} {below : List Frame} {meth : Method} {c : Code} {Q : State → Prop} {G : ha_G} {cc : ByteArray} {own : String} {ret : Option FieldType} {nL pc : Nat} {lv lv' : List (Nat × Value)} {st : List Value} {σ : ha_St} {k n : Nat} {Qr : Option Value → ha_St → Prop} {Xr : String → ha_St → Prop} {mc ms : Nat}
theorem h_vxret (kk : hW p l e R s m args below meth c (MQ below (hQ G Qr) args s mc ms (gA G)) G nL pc lv st σ k n) : hW p l e R s m args below meth c (vx_MQ below (hQ G Qr) (hXC G Xr) args s mc ms (gA G)) G nL pc lv st σ k n := fun H locs ls h1 h2 h3 => vx_ret (kk H locs ls h1 h2 h3)
/-- the words of a throw -/
def thW (own : String) (ik ic : Nat) (cls : String) : Prop := Bundle.fit cls = true ∧ Cond.classLink own ik cls ∈ gtbl ∧ Cond.initialized cls ∈ gtbl ∧ (∀ w ∈ (vx_atS own ic cls supN).filter goodWord, w ∈ gtbl) ∧ (∀ w ∈ (vx_atS own ic cls supN).filter (fun w => !goodWord w), w ∈ ntbl ++ dtbl) ∧ ∀ w ∈ Cond.classLink own ik cls :: Cond.initialized cls :: vx_atS own ic cls supN, vx_ot w = true
theorem th_words (C : hX p s m args meth c G cc own nL ret) (hth : hTh G s s.heap) {ik ic : Nat} {cls : String} (w : thW own ik ic cls) : ∀ w ∈ vx_atS own ic cls supN, w.before args s = true := by
  refine vx_hat (B := ntbl ++ dtbl) (fun z hz => C.2.2.2.2.1 z (w.2.2.2.1 z hz)) w.2.2.2.2.1 (fun z hz => ?_)
  rcases List.mem_append.mp hz with h | h
  · have h1 := C.2.2.2.2.2.1.2.1 z h
    have h2 := (List.mem_filter.mp h).2
    cases z <;> first | exact va_Nw.use rfl h1 | (simp [isN] at h2; done)
  · have h1 := hth.2.2.2.1 z h
    have h2 := (List.mem_filter.mp h).2
    cases z <;> first | exact va_Nw.use rfl h1 | (simp [isD] at h2; done)
theorem th_xc (C : hX p s m args meth c G cc own nL ret) {H : Heap} {locs : List Loc} (h1 : hH G σ H) (h2 : va_S (gA G) s.heap H locs) {cls : String} (hx : ∀ g, gn σ ≤ g → Xr cls (sG σ g)) : ∀ t : State, s.vm.Alike t.vm → H.size ≤ t.heap.size → (∀ q : Nat, q < H.size → t.heap[q]? = H[q]?) → hXC G Xr cls s t := by
  intro t _ hz ho
  obtain ⟨g1, g2⟩ := h1.grow hz ho
  exact ⟨⟨_, hx _ g2, g1⟩, Nat.le_trans h2.1 hz, fun q q1 q2 => by rw [ho q (Nat.lt_of_lt_of_le q1 h2.1)]; exact h2.2.1 q q1 q2⟩
theorem h_throwS (C : hX p s m args meth c G cc own nL ret) (hl : l.stackTraces = false) (hth : hTh G s s.heap) (hno : ∀ x ∈ c.exceptionTable.toList, False) {ik is ic : Nat} {cls text : String} (w : thW own ik ic cls) (hstr : (own, is, text) ∈ strT)
    (d0 : decode cc pc = .ok (.new ik, 3)) (d3 : decode cc (pc + 3) = .ok (.dup, 1)) (d4 : decode cc (pc + 4) = .ok (.ldc is, 2)) (d6 : decode cc (pc + 6) = .ok (.invokespecial ic, 3)) (d9 : decode cc (pc + 9) = .ok (.athrow, 1))
    (r1 : 5 < R.frames) (r2 : (st.map fun v => v.category).sum + 82 ≤ R.locals) (r3 : k + 1 ≤ R.cells) (r4 : n + 6 ≤ R.slots) (hx : ∀ g, gn σ ≤ g → Xr cls (sG σ g)) (hc : k + 1 ≤ mc) (hs : n + 6 ≤ ms) :
    hW p l e R s m args below meth c (vx_MQ below (hQ G Qr) (hXC G Xr) args s mc ms (gA G)) G nL pc lv st σ k n := by
  intro H locs ls h1 h2 h3
  obtain ⟨sa, hsa⟩ := hth.2.2.1 _ hstr
  exact vx_throwS C.1 C.2.1 hl C.2.2.2.1 w.1 (by decide) (C.2.2.2.2.1 _ w.2.1) (C.2.2.2.2.1 _ w.2.2.1) hsa (th_words C hth w) w.2.2.2.2.2 hth.1 hth.2.1 h2 (h3.1.trans C.2.2.1.symm) d0 d3 d4 d6 d9 (fun x hx => (hno x hx).elim) r1 r2 r3 r4 C.2.2.2.2.2.2.2.1 (th_xc C h1 h2 hx) (fun z hz => h2.2.2 z hz) hc hs
theorem h_throwSW (C : hX p s m args meth c G cc own nL ret) (hl : l.stackTraces = false) (hth : hTh G s s.heap) (hno : ∀ x ∈ c.exceptionTable.toList, False) {ik is ic : Nat} {cls text : String} (w : thW own ik ic cls) (hstr : (own, is, text) ∈ strT)
    (d0 : decode cc pc = .ok (.new ik, 3)) (d3 : decode cc (pc + 3) = .ok (.dup, 1)) (d4 : decode cc (pc + 4) = .ok (.ldc_w is, 3)) (d7 : decode cc (pc + 7) = .ok (.invokespecial ic, 3)) (d10 : decode cc (pc + 10) = .ok (.athrow, 1))
    (r1 : 5 < R.frames) (r2 : (st.map fun v => v.category).sum + 82 ≤ R.locals) (r3 : k + 1 ≤ R.cells) (r4 : n + 6 ≤ R.slots) (hx : ∀ g, gn σ ≤ g → Xr cls (sG σ g)) (hc : k + 1 ≤ mc) (hs : n + 6 ≤ ms) :
    hW p l e R s m args below meth c (vx_MQ below (hQ G Qr) (hXC G Xr) args s mc ms (gA G)) G nL pc lv st σ k n := by
  intro H locs ls h1 h2 h3
  obtain ⟨sa, hsa⟩ := hth.2.2.1 _ hstr
  exact vx_throwSW C.1 C.2.1 hl C.2.2.2.1 w.1 (by decide) (C.2.2.2.2.1 _ w.2.1) (C.2.2.2.2.1 _ w.2.2.1) hsa (th_words C hth w) w.2.2.2.2.2 hth.1 hth.2.1 h2 (h3.1.trans C.2.2.1.symm) d0 d3 d4 d7 d10 (fun x hx => (hno x hx).elim) r1 r2 r3 r4 C.2.2.2.2.2.2.2.1 (th_xc C h1 h2 hx) (fun z hz => h2.2.2 z hz) hc hs
/-! calls of those who throw -/
/-- q, of the class E, is thrown over the frame -/
def hWx (p : Program) (l : Launch) (e : Env) (R : Room) (s : State) (m : MethodId) (args : Array Value) (below : List Frame) (meth : Method) (c : Code) (Q : State → Prop) (G : ha_G) (nL pc : Nat) (lv : List (Nat × Value)) (st : List Value) (σ : ha_St) (k n : Nat) (E : String) (q : Nat) : Prop :=
  ∀ (H : Heap) (locs : List Loc) (ls : Array Slot) (ce : Cell), hH G σ H → va_S (gA G) s.heap H locs → lv_has ls nL lv → H[q]? = some ce → ce.vm = .none → s.vm.findClass E = some ce.cls → vx_W p l e R s m args below meth c H locs k n Q (F0 m pc ls st) q
theorem h_runX {rm : Room} {st0 rest : List Value} {a : Array Value} (hr : ∀ (H : Heap) (locs : List Loc) (ls : Array Slot), hH G σ H → va_S (gA G) s.heap H locs → lv_has ls nL lv → vx_Run p l e R s m args below meth c H locs k n rm.cells rm.slots (F0 m pc ls st0) rest (hQ G Qr a) (hXC G Xr) (gA G))
    (kx : ∀ (E : String) (σ' : ha_St) (q : Nat), Xr E σ' → hWx p l e R s m args below meth c Q G nL pc lv rest σ' (k + rm.cells) (n + rm.slots) E q)
    (kk : ∀ (v : Option Value) (σ' : ha_St), Qr v σ' → hW p l e R s m args below meth c Q G nL (pc + 3) lv (v.toList ++ rest) σ' (k + rm.cells) (n + rm.slots)) : hW p l e R s m args below meth c Q G nL pc lv st0 σ k n := by
  intro H locs ls h1 h2 h3 T hT X
  have mem : ∀ {t T' : State} {L : List Loc} {st₀ : State}, st₀.heap = H → T'.heap = t.heap → (∀ q ∈ L, gA G q.base) → va_F (gA G) st₀ t → va_S (gA G) s.heap T'.heap (locs ++ L) := by
    intro t T' L st₀ h0 e1 hL hF
    obtain ⟨hz, hk⟩ := hF
    rw [h0] at hz hk
    exact ⟨Nat.le_trans h2.1 (by rw [e1]; exact hz), fun q q1 q2 => by rw [e1, hk q (Nat.lt_of_lt_of_le q1 h2.1) q2]; exact h2.2.1 q q1 q2, fun q hq => by
      rcases List.mem_append.mp hq with h | h
      · exact h2.2.2 q h
      · exact hL q h⟩
  rcases hr H locs ls h1 h2 h3 T hT X with ⟨v, st₀, t, T', L, h0, X', hL, e1, e2, ⟨⟨v', σ', hv, hp, hb⟩, hF⟩, st⟩ | ⟨q, st₀, t, T', L, E, ce, h0, X', hL, e1, e2, ⟨⟨σ', hp, hb⟩, hF⟩, hce, hcv, hcl, st⟩
  · cases hv
    obtain ⟨t2, a1, b1⟩ := kk v σ' hp T'.heap (locs ++ L) ls (by rw [e1]; exact hb) (mem h0 e1 hL hF) h3 T' rfl X'
    exact ⟨t2, st t2 a1, b1⟩
  · obtain ⟨t2, a1, b1⟩ := kx E σ' q hp T'.heap (locs ++ L) ls ce (by rw [e1]; exact hb) (mem h0 e1 hL hF) h3 (by rw [e1]; exact hce) hcv hcl T' rfl X'
    exact ⟨t2, st.trans a1, b1⟩
theorem hPreT_at (C : hX p s m args meth c G cc own nL ret) (hth : hTh G s s.heap) {av : List Value} {H : Heap} {locs : List Loc} (h1 : hH G σ H) (h2 : va_S (gA G) s.heap H locs) : ∀ U : State, U.heap = H → s.WarmedH U.vm → hPreT G av σ av.toArray U := by
  intro U hU hW
  refine ⟨rfl, by rw [hU]; exact h1, ?_, ?_⟩
  · rw [hU]
    exact (C.2.2.2.2.2.1.kept h2.2.1).warm hW
  · rw [hU]
    exact (hth.kept h2.2.1).warm hW
theorem h_callVX (C : hX p s m args meth c G cc own nL ret) (hth : hTh G s s.heap) {index : Nat} {y : MethodName} {cy : ByteArray} {ny na : Nat} {ry : Option FieldType} {rm : Room} {a ci ln : Nat} {T : u_T} {N : Nat} {ty : Nat → FieldType} {av st0 rest : List Value} (hm : hMX G l y cy ny ry rm (.ref (ad G a) :: av) σ Qr Xr) (hc : hCV own index y cy ny ry na) (hC0 : hC ci y.cls T N ty) (hT : gT σ a = (ci + 1, ln)) (hr : hRm R rm ny k n) (hna : av.length = na) (hst : st0 = av.reverse ++ .ref (ad G a) :: rest) (hw : (rest.map fun v => v.category).sum ≤ 8) (hd : decode cc pc = .ok (.invokevirtual index, 3))
    (kx : ∀ (E : String) (σ' : ha_St) (q : Nat), Xr E σ' → hWx p l e R s m args below meth c Q G nL pc lv rest σ' (k + rm.cells) (n + rm.slots) E q)
    (kk : ∀ (v : Option Value) (σ' : ha_St), Qr v σ' → hW p l e R s m args below meth c Q G nL (pc + 3) lv (v.toList ++ rest) σ' (k + rm.cells) (n + rm.slots)) : hW p l e R s m args below meth c Q G nL pc lv st0 σ k n := by
  obtain ⟨w1, w2, w3, w4, w5, w6⟩ := hc
  have hts := C.2.2.2.2.1
  refine h_runX (a := (Value.ref (ad G a) :: av).toArray) (fun H locs ls h1 h2 h3 => ?_) kx kk
  exact vx_runV (As := av) (rest := rest) (hX_fix C) hm ⟨callB_of na hts (g_code w5) rfl rfl rfl (hts _ w4) (hts _ w1) w6 ⟨hr.1, hr.2.1⟩, hts _ w2, hts _ w3⟩ ⟨hPreT_blind, h_recv C h1 hC0 hT, hPreT_at C hth h1 h2⟩ rfl hna h3.1 hst (lv_room hw) hd hr.2.2
theorem h_callVT (C : hX p s m args meth c G cc own nL ret) (hth : hTh G s s.heap) {index : Nat} {y : MethodName} {cy : ByteArray} {ny na : Nat} {ry : Option FieldType} {rm : Room} {a ci ln : Nat} {T : u_T} {N : Nat} {ty : Nat → FieldType} {av st0 rest : List Value} (hm : hMT G l y cy ny ry rm (.ref (ad G a) :: av) σ Qr) (hc : hCV own index y cy ny ry na) (hC0 : hC ci y.cls T N ty) (hT : gT σ a = (ci + 1, ln)) (hr : hRm R rm ny k n) (hna : av.length = na) (hst : st0 = av.reverse ++ .ref (ad G a) :: rest) (hw : (rest.map fun v => v.category).sum ≤ 8) (hd : decode cc pc = .ok (.invokevirtual index, 3))
    (kk : ∀ (v : Option Value) (σ' : ha_St), Qr v σ' → hW p l e R s m args below meth c Q G nL (pc + 3) lv (v.toList ++ rest) σ' (k + rm.cells) (n + rm.slots)) : hW p l e R s m args below meth c Q G nL pc lv st0 σ k n := by
  obtain ⟨w1, w2, w3, w4, w5, w6⟩ := hc
  have hts := C.2.2.2.2.1
  refine h_run (a := (Value.ref (ad G a) :: av).toArray) (fun H locs ls h1 h2 h3 => ?_) kk
  exact va_runV (As := av) (rest := rest) (hX_fix C) hm ⟨callB_of na hts (g_code w5) rfl rfl rfl (hts _ w4) (hts _ w1) w6 ⟨hr.1, hr.2.1⟩, hts _ w2, hts _ w3⟩ ⟨hPreT_blind, h_recv C h1 hC0 hT, hPreT_at C hth h1 h2⟩ rfl hna h3.1 hst (lv_room hw) hd hr.2.2
/-- the words of a call of a static method with a table -/
def hCSW (own : String) (index : Nat) (y : MethodName) (cy : ByteArray) (ny : Nat) (ry : Option FieldType) (hh : List (Nat × Nat × Nat × Nat)) (na : Nat) : Prop :=
  Cond.methodLink own index y ∈ gtbl ∧ Cond.static y ∈ gtbl ∧ Cond.initialized y.cls ∈ gtbl ∧ Cond.codeWith y cy ny ry hh ∈ gtbl ∧ hD y na
theorem h_callSW (C : hX p s m args meth c G cc own nL ret) (hth : hTh G s s.heap) {index : Nat} {y : MethodName} {cy : ByteArray} {ny na : Nat} {ry : Option FieldType} {hh : List (Nat × Nat × Nat × Nat)} {rm : Room} {av st0 rest : List Value} (hm : hMW G l y cy ny ry hh rm av σ Qr) (hc : hCSW own index y cy ny ry hh na) (hr : hRm R rm ny k n) (hna : av.length = na) (hst : st0 = av.reverse ++ rest) (hw : (rest.map fun v => v.category).sum ≤ 8) (hd : decode cc pc = .ok (.invokestatic index, 3))
    (kk : ∀ (v : Option Value) (σ' : ha_St), Qr v σ' → hW p l e R s m args below meth c Q G nL (pc + 3) lv (v.toList ++ rest) σ' (k + rm.cells) (n + rm.slots)) : hW p l e R s m args below meth c Q G nL pc lv st0 σ k n := by
  obtain ⟨w1, w2, w3, w4, w5⟩ := hc
  have hts := C.2.2.2.2.1
  have hgd : GoodIn gtbl (Cond.codeWith y cy ny ry hh :: gtbl) := g_goodIn (fun w hw => (List.mem_cons.mp hw).elim (fun e => by rw [e]; exact w4) id)
  refine h_run (a := av.toArray) (fun H locs ls h1 h2 h3 => ?_) kk
  refine vx_runSW (As := av) (rest := rest) (hX_fix C) hm (vx_cwSW na hts (fun w hw => ?_) rfl rfl rfl w5 ⟨hr.1, hr.2.1⟩) ⟨hPreT_blind, hPreT_at C hth h1 h2⟩ rfl hna h3.1 hst (lv_room hw) hd hr.2.2
  unfold va_wsS at hw
  rcases List.mem_append.mp hw with h | h
  · simp only [List.mem_cons, List.not_mem_nil, or_false] at h
    rcases h with h | h | h <;> (subst h; first | exact ⟨w1, g_good w1⟩ | exact ⟨w2, g_good w2⟩ | exact ⟨w3, g_good w3⟩)
  · exact hgd w h
theorem fx_runU {x y : MethodName} {bytes cy : ByteArray} {maxL nL mc ms n0 index : Nat} {ret : Option FieldType} {ws : List Cond} {rm : Room} {Pc : Array Value → State → Prop} {Qc : Array Value → State → Outcome → State → Prop} {XC : String → State → State → Prop} {free : Addr → Prop} {Ts : List Cond} {own Cn owner : String} {b : Addr} {As rest : List Value} {g : JFrame} {H : Heap} {locs : List Loc} {cells slots : Nat}
    (S : CallFix p m c cy nL s args Ts own) (hM : vx_Met l y ws rm Pc Qc XC mc ms free) (cw : va_CU R s args own Cn owner index x y bytes maxL ret ws rm mc ms n0) (hp : PreV s H Cn b Pc As)
    (hg : g.method = m) (hn : As.length = n0) (hsize : g.locals.size = nL) (hstack : g.stack = As.reverse ++ .ref b :: rest) (hW : 2 * g.monitorRoom + (rest.map fun v => v.category).sum ≤ 8) (hdg : decode cy g.pc = .ok (.invokevirtual index, 3)) (hf : cells + mc ≤ R.cells ∧ slots + ms ≤ R.slots) :
    vx_Run p l e R s m args below meth c H locs cells slots mc ms g rest (Qc (Value.ref b :: As).toArray) XC free := by
  obtain ⟨hrc, hrs, hfr, hlo, hws, hcw⟩ := cw.back
  have hini := cw.init
  have hK : vx_Back l R p e below s args y 3 8 (PreOf R mc ms Pc) (PostOf Qc mc ms free) (vx_Post XC mc ms free) := vx_back (bytes := bytes) (maxL := maxL) (ret := ret) hM hp.1 hrc hrs hfr hlo hws hcw (fun a' U hW => word_at hW (Or.inl (by first | rfl | simp [Cond.onTables, Cond.keeps, Cond.steady])) hini)
  obtain ⟨hx, hb, hml, ho, -⟩ := S
  obtain ⟨-, ⟨cellB, hcB, hoB, hclB⟩, hPc⟩ := hp
  intro T hT X
  obtain ⟨r0, r, hnr, hrm, hstR, hsigR⟩ := cw.decl
  obtain ⟨cn, ck, r1, hcn, hck, hni, hfo, hn1⟩ := Cond.sameMethod_found cw.same
  cases hnr.symm.trans hn1
  obtain ⟨mk, methM, hnamed, hmethM, -, habM⟩ := Cond.instanceMethod_spec cw.inst
  obtain ⟨c2, r2, m2, q1, q2, q3, q4, kP, hkP, hkPi⟩ := Cond.selects_spec cw.sel
  cases hclB.symm.trans q1
  cases hfo.symm.trans q2
  cases hnamed.symm.trans q3
  have hselP : selectMethod e.platform s.vm cellB.cls r0 = .method mk := by rw [Launch.admits_selectMethod X.admits]; exact q4
  obtain ⟨vm₁, X₁, hstep₁⟩ := X.invokevirtualUp hx ho cw.link cw.same cw.notMH hnr hrm hstR (a := b) (cell := cellB) (by rw [hT]; exact hcB)
    (fun z h => by rw [h] at hoB; cases hoB) hselP hmethM habM hkP hkPi (g := g) hg (argsL := As) (rest := rest) (hn.trans (cw.len _ hsigR)) hstack (by rw [hb]; exact hdg)
  rcases hK m meth c ⟨T.setVm vm₁, locs, cells, slots⟩ { g with stack := rest } (.invokevirtual index) mk (Value.ref b :: As).toArray X₁ hg (hsize.trans hml.symm) (by rw [hb]; exact hdg) hW (X₁.named hnamed) ⟨hf.1, hf.2, hPc (T.setVm vm₁) hT X₁.warmed⟩ with ⟨v, ⟨U', l2, c2', s2⟩, X', ⟨g', mk', t, L, e1, e2, hq, h1, hL, h2, h3⟩, hsteps⟩ | ⟨q, ⟨U', l2, c2', s2⟩, X', ⟨g', mk', t, L, E, ce, e1, e2, hq, hce, hcv, hcl, h1, hL, h2, h3⟩, hsteps⟩
  · dsimp only [Pt.U, Pt.locs, Pt.cells, Pt.slots] at X' e1 e2 h1 h2 h3 hsteps
    subst h1; subst h2; subst h3
    exact Or.inl ⟨v, (T.setVm vm₁).calling g' mk' (Value.ref b :: As).toArray, t, U', L, hT, X', hL, e1, e2, hq, fun target h => hstep₁ _ fun acts => by rw [doInvoke_state]; exact hsteps.trans h⟩
  · dsimp only [Pt.U, Pt.locs, Pt.cells, Pt.slots] at X' e1 e2 h1 h2 h3 hsteps hcl
    subst h1; subst h2; subst h3
    exact Or.inr ⟨q, (T.setVm vm₁).calling g' mk' (Value.ref b :: As).toArray, t, U', L, E, ce, hT, X', hL, e1, e2, hq, hce, hcv, vx_cls X₁.warmed hcl, hstep₁ _ fun acts => by rw [doInvoke_state]; exact hsteps⟩
theorem h_callUX (C : hX p s m args meth c G cc own nL ret) (hth : hTh G s s.heap) {index : Nat} {Cr owner : String} {x y : MethodName} {cy : ByteArray} {ny na : Nat} {ry : Option FieldType} {rm : Room} {a ci ln : Nat} {T : u_T} {N : Nat} {ty : Nat → FieldType} {av st0 rest : List Value} (hm : hMX G l y cy ny ry rm (.ref (ad G a) :: av) σ Qr Xr) (hc : hCU own index Cr owner x y cy ny ry na) (hC0 : hC ci Cr T N ty) (hT : gT σ a = (ci + 1, ln)) (hr : hRm R rm ny k n) (hna : av.length = na) (hst : st0 = av.reverse ++ .ref (ad G a) :: rest) (hw : (rest.map fun v => v.category).sum ≤ 8) (hd : decode cc pc = .ok (.invokevirtual index, 3))
    (kx : ∀ (E : String) (σ' : ha_St) (q : Nat), Xr E σ' → hWx p l e R s m args below meth c Q G nL pc lv rest σ' (k + rm.cells) (n + rm.slots) E q)
    (kk : ∀ (v : Option Value) (σ' : ha_St), Qr v σ' → hW p l e R s m args below meth c Q G nL (pc + 3) lv (v.toList ++ rest) σ' (k + rm.cells) (n + rm.slots)) : hW p l e R s m args below meth c Q G nL pc lv st0 σ k n := by
  obtain ⟨⟨w1, w2, w3, w4, w5, w6⟩, w7, w8, b0, m0, r0, w9⟩ := hc
  have hts := C.2.2.2.2.1
  have hg := g_code w6
  have hcw : va_CU R s args own Cr owner index x y cy ny ry (Cond.code y cy ny ry :: gtbl) rm rm.cells rm.slots na := by
    refine ⟨⟨rfl, rfl, hr.1, hr.2.1, pay_in hts hg, List.mem_cons_self⟩, hts _ w6, hts _ w5, ⟨w7.1, w7.2.1⟩, fun sig h => ?_, hts _ w1, hts _ w2, va_Decl.of (hts _ w8) (hts _ w9), hts _ w3, hts _ w4⟩
    have h2 := w7.2.2
    rw [h] at h2
    exact (Option.some.inj h2).symm
  refine h_runX (a := (Value.ref (ad G a) :: av).toArray) (fun H locs ls h1 h2 h3 => ?_) kx kk
  exact fx_runU (As := av) (rest := rest) (hX_fix C) hm hcw ⟨hPreT_blind, h_recv C h1 hC0 hT, hPreT_at C hth h1 h2⟩ rfl hna h3.1 hst (lv_room hw) hd hr.2.2
/-- caught by the row x of the table -/
theorem h_catch (C : hX p s m args meth c G cc own nL ret) {E name : String} {q : Nat} (pre : List ExceptionTableEntry) (x : ExceptionTableEntry) (suf : List ExceptionTableEntry) (hsplit : c.exceptionTable.toList = pre ++ x :: suf)
    (hpass : ∀ z ∈ pre, covers z pc = false ∨ (z.catchType ≠ 0 ∧ ∃ nm : String, Cond.classLink own z.catchType nm ∈ gtbl ∧ va_Nc E nm s)) (hx : covers x pc = true) (h0 : x.catchType ≠ 0) (hlink : Cond.classLink own x.catchType name ∈ gtbl) (hcast : Cond.castable E name ∈ ntbl)
    (kk : hW p l e R s m args below meth c Q G nL x.handlerPc lv [.ref q] σ k n) : hWx p l e R s m args below meth c Q G nL pc lv st σ k n E q := by
  intro H locs ls ce h1 h2 h3 hce hcv hcl
  have hts := C.2.2.2.2.1
  exact vx_catch C.2.2.2.1 pre x suf hsplit (fun z hz => (hpass z hz).imp id (fun h => ⟨h.1, h.2.imp fun nm g => ⟨hts _ g.1, g.2⟩⟩)) hx h0 (hts _ hlink) (va_Nw.use rfl (C.2.2.2.2.2.1.2.1 _ hcast)) hce hcv hcl (kk H locs ls h1 h2 h3)
end
theorem tg_X5_ISE : ∀ w ∈ (vx_atS RX5 22 ISE supN).filter goodWord, w ∈ gtbl := g_in [84, 946, 955, 958, 961, 963, 947, 948, 97, 98, 949, 954, 959, 979, 936, 980, 938, 981, 940, 950, 952, 942, 975, 976, 978, 942, 966, 967, 968, 969, 969, 970, 971, 972, 972, 973, 974, 975, 965, 925, 933, 934, 935, 937, 939, 941, 945, 944, 943] (by decide +kernel) (by decide +kernel)
theorem tn_X5_ISE : ∀ w ∈ (vx_atS RX5 22 ISE supN).filter (fun w => !goodWord w), w ∈ ntbl ++ dtbl := by
  have e : ((vx_atS RX5 22 ISE supN).filter (fun w => !goodWord w)).map some = [928, 930, 932, 926].map (fun i => lw_tbl[i]?) := by decide +kernel
  intro w hw
  have h1 : some w ∈ ((vx_atS RX5 22 ISE supN).filter (fun w => !goodWord w)).map some := List.mem_map.mpr ⟨w, hw, rfl⟩
  rw [e] at h1
  have h2 : isN w = true ∨ isD w = true := by
    have hall : ((vx_atS RX5 22 ISE supN).filter (fun w => !goodWord w)).all (fun w => isN w || isD w) = true := by decide +kernel
    have := List.all_eq_true.mp hall w hw
    simpa using this
  obtain ⟨i, -, hi⟩ := List.mem_map.mp h1
  have hm : w ∈ lw_tbl := List.mem_of_getElem? hi
  rcases h2 with h | h
  · exact List.mem_append_left _ (List.mem_filter.mpr ⟨hm, h⟩)
  · exact List.mem_append_right _ (List.mem_filter.mpr ⟨hm, h⟩)
theorem th_X5_ISE : thW RX5 18 22 ISE := ⟨by decide +kernel, g_at 924 (by decide +kernel) (by decide +kernel), g_at 88 (by decide +kernel) (by decide +kernel), tg_X5_ISE, tn_X5_ISE, by decide +kernel⟩
theorem tg_X10_IAE : ∀ w ∈ (vx_atS RX10 127 IAE supN).filter goodWord, w ∈ gtbl := g_in [84, 946, 955, 958, 961, 963, 947, 948, 97, 98, 949, 954, 959, 979, 936, 980, 938, 981, 940, 950, 952, 942, 975, 976, 978, 942, 1012, 1013, 1014, 969, 969, 970, 971, 972, 972, 973, 974, 975, 1011, 1002, 1004, 957, 1005, 1006, 1007, 1008, 945, 944, 1009] (by decide +kernel) (by decide +kernel)
theorem tn_X10_IAE : ∀ w ∈ (vx_atS RX10 127 IAE supN).filter (fun w => !goodWord w), w ∈ ntbl ++ dtbl := by
  have e : ((vx_atS RX10 127 IAE supN).filter (fun w => !goodWord w)).map some = [928, 930, 932, 1003].map (fun i => lw_tbl[i]?) := by decide +kernel
  intro w hw
  have h1 : some w ∈ ((vx_atS RX10 127 IAE supN).filter (fun w => !goodWord w)).map some := List.mem_map.mpr ⟨w, hw, rfl⟩
  rw [e] at h1
  have h2 : isN w = true ∨ isD w = true := by
    have hall : ((vx_atS RX10 127 IAE supN).filter (fun w => !goodWord w)).all (fun w => isN w || isD w) = true := by decide +kernel
    have := List.all_eq_true.mp hall w hw
    simpa using this
  obtain ⟨i, -, hi⟩ := List.mem_map.mp h1
  have hm : w ∈ lw_tbl := List.mem_of_getElem? hi
  rcases h2 with h | h
  · exact List.mem_append_left _ (List.mem_filter.mpr ⟨hm, h⟩)
  · exact List.mem_append_right _ (List.mem_filter.mpr ⟨hm, h⟩)
theorem th_X10_IAE : thW RX10 123 127 IAE := ⟨by decide +kernel, g_at 1001 (by decide +kernel) (by decide +kernel), g_at 87 (by decide +kernel) (by decide +kernel), tg_X10_IAE, tn_X10_IAE, by decide +kernel⟩
theorem tg_X10_ISE : ∀ w ∈ (vx_atS RX10 152 ISE supN).filter goodWord, w ∈ gtbl := g_in [84, 946, 955, 958, 961, 963, 947, 948, 97, 98, 949, 954, 959, 979, 936, 980, 938, 981, 940, 950, 952, 942, 975, 976, 978, 942, 966, 967, 968, 969, 969, 970, 971, 972, 972, 973, 974, 975, 1027, 925, 933, 934, 935, 937, 939, 941, 945, 944, 943] (by decide +kernel) (by decide +kernel)
theorem tn_X10_ISE : ∀ w ∈ (vx_atS RX10 152 ISE supN).filter (fun w => !goodWord w), w ∈ ntbl ++ dtbl := by
  have e : ((vx_atS RX10 152 ISE supN).filter (fun w => !goodWord w)).map some = [928, 930, 932, 926].map (fun i => lw_tbl[i]?) := by decide +kernel
  intro w hw
  have h1 : some w ∈ ((vx_atS RX10 152 ISE supN).filter (fun w => !goodWord w)).map some := List.mem_map.mpr ⟨w, hw, rfl⟩
  rw [e] at h1
  have h2 : isN w = true ∨ isD w = true := by
    have hall : ((vx_atS RX10 152 ISE supN).filter (fun w => !goodWord w)).all (fun w => isN w || isD w) = true := by decide +kernel
    have := List.all_eq_true.mp hall w hw
    simpa using this
  obtain ⟨i, -, hi⟩ := List.mem_map.mp h1
  have hm : w ∈ lw_tbl := List.mem_of_getElem? hi
  rcases h2 with h | h
  · exact List.mem_append_left _ (List.mem_filter.mpr ⟨hm, h⟩)
  · exact List.mem_append_right _ (List.mem_filter.mpr ⟨hm, h⟩)
theorem th_X10_ISE : thW RX10 148 152 ISE := ⟨by decide +kernel, g_at 916 (by decide +kernel) (by decide +kernel), g_at 88 (by decide +kernel) (by decide +kernel), tg_X10_ISE, tn_X10_ISE, by decide +kernel⟩
