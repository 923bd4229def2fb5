/-! ===== the law: one call of each ===== -/
theorem im_pull {σ σ' : ha_St} {r : Int32} (h : Inv σ) (c : pullQ σ r σ') : IM σ' := by
  obtain ⟨σ1, c1, c2, c3⟩ := c
  have i1 := rfr_Inv h c1
  have hl : ∀ i, i < (gI σ1 44 17).toNatClampNeg → e3 (ldI σ1 i) (ldV3 σ1 i) 1000 := fun i hi => by
    obtain ⟨-, -, -, a4⟩ := i1.1.2.2.2.2.1.2.2 i hi
    exact ⟨eJ_64 (eJ_of (b := 1000) (B := 1000) a4.1 (by decide) (by decide)), eJ_64 (eJ_of (b := 1000) (B := 1000) a4.2.1 (by decide) (by decide)), eJ_64 (eJ_of (b := 1000) (B := 1000) a4.2.2 (by decide) (by decide))⟩
  have cv := i1.1.2.2.2.2.2.2.2.2.1 i1.2.1
  have hc : e3 (clI σ1) (toV (clL σ1 (nC σ1))) 2000 := by rw [cv.2.2]; exact clL_2 i1.1.2.2.2.1
  have pr := pull_rng (n := (gI σ1 44 17).toNatClampNeg) (by rw [i1.1.2.2.2.2.1.1]) cv.1 hl hc
  have sU : sagr σ1 σ' := by
    rw [c2]
    exact ⟨pr.1.1, pr.1.2.1, Nat.le_of_eq pr.1.2.2.1.symm, fun a j _ => by rw [pr.1.2.2.2.1], fun a p q => pr.1.2.2.2.2 a (by omega)⟩
  exact (i1.1.ag sU).M
theorem Inv.s17 {σ : ha_St} (h : Inv σ) : 0 ≤ gI σ 17 3 ∧ gI σ 17 3 ≤ 16 := by rw [h.2.2.2.2.1.1]; exact h.2.2.2.2.1.2.1
theorem Inv.s26 {σ : ha_St} (h : Inv σ) : 0 ≤ gI σ 26 2 ∧ gI σ 26 2 ≤ 12 := by rw [h.2.2.2.2.2.1.1]; exact h.2.2.2.2.2.1.2.1.1
theorem Inv.s32 {σ : ha_St} (h : Inv σ) : 0 ≤ gI σ 32 2 ∧ gI σ 32 2 ≤ 40 := by rw [h.2.2.2.2.2.2.1.1]; exact h.2.2.2.2.2.2.1.2.1
theorem Inv.fresh {σ : ha_St} (h : Inv σ) : ∀ a t, gT σ a = (t, 0) → pT t → a < gn σ := fun a t h1 h2 => h.2.1 a (by rw [h1]; exact pT_nz h2)
theorem Inv.dir {σ : ha_St} (h : Inv σ) : ∀ i b, cAt σ i = some b → 0 ≤ gI σ b 0 ∧ gI σ b 0 < 8 := fun i b q => by
  obtain ⟨t, -, -, -, -, e, d, -⟩ := (ct_at h.2.2.2.1 q).2.1
  rw [e]; exact d
def lwS (s : State) (G : ha_G) (b L : Nat) (xs : Nat → Int32) : Prop := va_X b L xs s s.heap ∧ b < s.heap.size ∧ ¬ gA G b
def lwI (i : Int32) (L : Nat) : Prop := 0 ≤ i ∧ i.toInt + 6 ≤ L ∧ L ≤ 3072
theorem lw_in {i J : Int32} {L : Nat} (h : lwI i L) (hJ : 0 ≤ J.toInt ∧ J.toInt ≤ 5) : vp_in (i + J) L := by
  have h0 := Int32.le_iff_toInt_le.mp h.1
  rw [Int32.toInt_zero] at h0
  have e : (i + J).toInt = i.toInt + J.toInt := by
    rw [Int32.toInt_add]
    exact Int.bmod_eq_of_le (by have := h.2; omega) (by have := h.2; omega)
  have p : 0 ≤ i + J := by rw [Int32.le_iff_toInt_le, Int32.toInt_zero, e]; omega
  rintro (q | q)
  · exact absurd p (Int32.not_le.mpr q)
  · have := tn_int p
    rw [e] at this
    have := h.2
    omega
theorem lw_k {a z N c : Nat} (h : a + z ≤ N) (hc : c ≤ z) : a + c ≤ N := by omega
theorem lw_k2 {a z N c d : Nat} (h : a + z ≤ N) (hc : c + d ≤ z) : a + c + d ≤ N := by omega
theorem lw_k4 {a z N c d f : Nat} (h : a + z ≤ N) (hc : c + d + f ≤ z) : a + c + d + f ≤ N := by omega
theorem lw_k3 {a c d z : Nat} (hc : c + d ≤ z) : a + c + d ≤ a + z := by omega
theorem lw_k5 {a c d f z : Nat} (hc : c + d + f ≤ z) : a + c + d + f ≤ a + z := by omega
theorem lg_self {x : Int64} : lg_cmp x x = 0 := by
  rcases lg_cases x x with ⟨q, z⟩ | ⟨q, z⟩ | ⟨q, z⟩
  · exact absurd q Int64.lt_irrefl
  · exact z
  · exact absurd q Int64.lt_irrefl
theorem h_sld {p : Program} {l : Launch} {e : Env} {R : Room} {s : State} {m : MethodId} {args : Array Value} {below : List Frame} {meth : Method} {c : Code} {Q : State → Prop} {G : ha_G} {cc : ByteArray} {own : String} {ret : Option FieldType} {nL pc b L k n : Nat} {xs : Nat → Int32} {lv : List (Nat × Value)} {st : List Value} {σ : ha_St} {i : Int32} (C : hX p s m args meth c G cc own nL ret) (S : lwS s G b L xs) (hi : vp_in i L) (hd : decode cc pc = .ok (.iaload, 1)) (kk : hW p l e R s m args below meth c Q G nL (pc + 1) lv (.int (xs i.toNatClampNeg) :: st) σ k n) : hW p l e R s m args below meth c Q G nL pc lv (.int i :: .ref b :: st) σ k n :=
  fun H locs ls h1 h2 h3 => va_sld C.1 C.2.1 S.1 S.2.1 S.2.2 h2 hi hd (kk H locs ls h1 h2 h3)
theorem h_slen {p : Program} {l : Launch} {e : Env} {R : Room} {s : State} {m : MethodId} {args : Array Value} {below : List Frame} {meth : Method} {c : Code} {Q : State → Prop} {G : ha_G} {cc : ByteArray} {own : String} {ret : Option FieldType} {nL pc b L k n : Nat} {xs : Nat → Int32} {lv : List (Nat × Value)} {st : List Value} {σ : ha_St} (C : hX p s m args meth c G cc own nL ret) (S : lwS s G b L xs) (hd : decode cc pc = .ok (.arraylength, 1)) (kk : hW p l e R s m args below meth c Q G nL (pc + 1) lv (.int (Int32.ofNat L) :: st) σ k n) : hW p l e R s m args below meth c Q G nL pc lv (.ref b :: st) σ k n :=
  fun H locs ls h1 h2 h3 => va_slen C.1 C.2.1 S.1 S.2.1 S.2.2 h2 hd (kk H locs ls h1 h2 h3)

set_option maxRecDepth 100000 in
set_option maxHeartbeats 4000000 in
theorem law_0 {p : Program} {l : Launch} {e : Env} {s : State} {m0 : MethodId} {args : Array Value} {below : List Frame} {meth : Method} {c0 : Code} {Q : State → Prop} {G : ha_G} {ret : Option FieldType} {b L : Nat} {xs : Nat → Int32} {σ : ha_St} {k n : Nat} {i : Int32} (C : hX p s m0 args meth c0 G cL_law RL 8 ret) (hth : hTh G s s.heap) (hl : l.stackTraces = false) (S : lwS s G b L xs) (I : Inv σ) (hi : lwI i L) (hk : k + 1 ≤ 601024) (hn : n + 60 ≤ 7293033) (nx : ∀ σ', Inv σ' → hW p l e room_1 s m0 args below meth c0 Q G 8 1432 [(4, .int i), (3, .ref (ad G 73)), (2, .ref (ad G 44)), (1, .ref (ad G 0)), (0, .ref b)] [] σ' (k + 1) (n + 60)) : hW p l e room_1 s m0 args below meth c0 Q G 8 184 [(4, .int i), (3, .ref (ad G 73)), (2, .ref (ad G 44)), (1, .ref (ad G 0)), (0, .ref b)] [] σ k n := by
  refine h_aload_n C 3 dL_law_184 rfl rfl ?_
  refine h_aload_n C 4 dL_law_185 rfl rfl ?_
  refine h_iload C 0 dL_law_186 rfl ?_
  refine h_iconst C 1 dL_law_188 (by decide) ?_
  refine h_iadd C dL_law_189 ?_
  refine h_sld C S (lw_in hi (J := 1) (by decide)) dL_law_190 ?_
  refine h_aload_n C 4 dL_law_191 rfl rfl ?_
  refine h_iload C 0 dL_law_192 rfl ?_
  refine h_iconst C 2 dL_law_194 (by decide) ?_
  refine h_iadd C dL_law_195 ?_
  refine h_sld C S (lw_in hi (J := 2) (by decide)) dL_law_196 ?_
  refine h_aload_n C 4 dL_law_197 rfl rfl ?_
  refine h_iload C 0 dL_law_198 rfl ?_
  refine h_iconst C 3 dL_law_200 (by decide) ?_
  refine h_iadd C dL_law_201 ?_
  refine h_sld C S (lw_in hi (J := 3) (by decide)) dL_law_202 ?_
  refine h_aload_n C 4 dL_law_203 rfl rfl ?_
  refine h_iload C 0 dL_law_204 rfl ?_
  refine h_iconst C 4 dL_law_206 (by decide) ?_
  refine h_iadd C dL_law_207 ?_
  refine h_sld C S (lw_in hi (J := 4) (by decide)) dL_law_208 ?_
  refine h_callV C (m_X10_contact I.1 I.2.2.2.1.P) caL_33 kX10 (ty_0 I.1) ⟨by decide, by decide, lw_k hk (by decide), lw_k hn (by decide)⟩ rfl rfl (Nat.le_of_ble_eq_true rfl) dL_law_209 ?_
  rintro v σ1 ⟨r, rfl, c⟩
  have J : IM σ1 := im_contact I c
  refine h_aload_n C 2 dL_law_212 rfl rfl ?_
  refine h_aload_n C 4 dL_law_213 rfl rfl ?_
  refine h_iload C 0 dL_law_214 rfl ?_
  refine h_iconst C 1 dL_law_216 (by decide) ?_
  refine h_iadd C dL_law_217 ?_
  refine h_sld C S (lw_in hi (J := 1) (by decide)) dL_law_218 ?_
  refine h_aload_n C 4 dL_law_219 rfl rfl ?_
  refine h_iload C 0 dL_law_220 rfl ?_
  refine h_iconst C 2 dL_law_222 (by decide) ?_
  refine h_iadd C dL_law_223 ?_
  refine h_sld C S (lw_in hi (J := 2) (by decide)) dL_law_224 ?_
  refine h_aload_n C 4 dL_law_225 rfl rfl ?_
  refine h_iload C 0 dL_law_226 rfl ?_
  refine h_iconst C 3 dL_law_228 (by decide) ?_
  refine h_iadd C dL_law_229 ?_
  refine h_sld C S (lw_in hi (J := 3) (by decide)) dL_law_230 ?_
  refine h_aload_n C 4 dL_law_231 rfl rfl ?_
  refine h_iload C 0 dL_law_232 rfl ?_
  refine h_iconst C 4 dL_law_234 (by decide) ?_
  refine h_iadd C dL_law_235 ?_
  refine h_sld C S (lw_in hi (J := 4) (by decide)) dL_law_236 ?_
  refine h_callV C (m_X11_contact J.1 J.2.1) caL_37 kX11 (ty_44 J.1) ⟨by decide, by decide, lw_k2 hk (by decide), lw_k2 hn (by decide)⟩ rfl rfl (Nat.le_of_ble_eq_true rfl) dL_law_237 ?_
  rintro v σ2 ⟨r', rfl, m⟩
  have E := e_contact I c m
  refine h_icmp_eq C 1432 dL_law_240 (by decide) (fun _ => h_widen (lw_k3 (by decide)) (lw_k3 (by decide)) (nx _ E.2)) (fun q => absurd E.1.symm q)
set_option maxRecDepth 100000 in
set_option maxHeartbeats 4000000 in
theorem law_1 {p : Program} {l : Launch} {e : Env} {s : State} {m0 : MethodId} {args : Array Value} {below : List Frame} {meth : Method} {c0 : Code} {Q : State → Prop} {G : ha_G} {ret : Option FieldType} {b L : Nat} {xs : Nat → Int32} {σ : ha_St} {k n : Nat} {i : Int32} (C : hX p s m0 args meth c0 G cL_law RL 8 ret) (hth : hTh G s s.heap) (hl : l.stackTraces = false) (S : lwS s G b L xs) (I : Inv σ) (hi : lwI i L) (hk : k + 1 ≤ 601024) (hn : n + 60 ≤ 7293033) (nx : ∀ σ', Inv σ' → hW p l e room_1 s m0 args below meth c0 Q G 8 1432 [(4, .int i), (3, .ref (ad G 73)), (2, .ref (ad G 44)), (1, .ref (ad G 0)), (0, .ref b)] [] σ' (k + 1) (n + 60)) : hW p l e room_1 s m0 args below meth c0 Q G 8 245 [(4, .int i), (3, .ref (ad G 73)), (2, .ref (ad G 44)), (1, .ref (ad G 0)), (0, .ref b)] [] σ k n := by
  refine h_aload_n C 3 dL_law_245 rfl rfl ?_
  refine h_callV C (m_X10_undo I.1 I.2.2.2.1.P) caL_38 kX10 (ty_0 I.1) ⟨by decide, by decide, lw_k hk (by decide), lw_k hn (by decide)⟩ rfl rfl (Nat.le_of_ble_eq_true rfl) dL_law_246 ?_
  rintro v σ1 ⟨r, rfl, c⟩
  have J : IM σ1 := im_undo I c
  refine h_aload_n C 2 dL_law_249 rfl rfl ?_
  refine h_callV C (m_X11_undo J.1 J.2.1) caL_42 kX11 (ty_44 J.1) ⟨by decide, by decide, lw_k2 hk (by decide), lw_k2 hn (by decide)⟩ rfl rfl (Nat.le_of_ble_eq_true rfl) dL_law_250 ?_
  rintro v σ2 m
  obtain ⟨rfl, E⟩ := e_undo I c m
  refine h_icmp_eq C 1432 dL_law_253 (by decide) (fun _ => h_widen (lw_k3 (by decide)) (lw_k3 (by decide)) (nx _ E)) (fun q => absurd rfl q)
set_option maxRecDepth 100000 in
set_option maxHeartbeats 4000000 in
theorem law_2 {p : Program} {l : Launch} {e : Env} {s : State} {m0 : MethodId} {args : Array Value} {below : List Frame} {meth : Method} {c0 : Code} {Q : State → Prop} {G : ha_G} {ret : Option FieldType} {b L : Nat} {xs : Nat → Int32} {σ : ha_St} {k n : Nat} {i : Int32} (C : hX p s m0 args meth c0 G cL_law RL 8 ret) (hth : hTh G s s.heap) (hl : l.stackTraces = false) (S : lwS s G b L xs) (I : Inv σ) (hi : lwI i L) (hk : k + 1 ≤ 601024) (hn : n + 60 ≤ 7293033) (nx : ∀ σ', Inv σ' → hW p l e room_1 s m0 args below meth c0 Q G 8 1432 [(4, .int i), (3, .ref (ad G 73)), (2, .ref (ad G 44)), (1, .ref (ad G 0)), (0, .ref b)] [] σ' (k + 1) (n + 60)) : hW p l e room_1 s m0 args below meth c0 Q G 8 258 [(4, .int i), (3, .ref (ad G 73)), (2, .ref (ad G 44)), (1, .ref (ad G 0)), (0, .ref b)] [] σ k n := by
  refine h_aload_n C 3 dL_law_258 rfl rfl ?_
  refine h_aload_n C 4 dL_law_259 rfl rfl ?_
  refine h_iload C 0 dL_law_260 rfl ?_
  refine h_iconst C 1 dL_law_262 (by decide) ?_
  refine h_iadd C dL_law_263 ?_
  refine h_sld C S (lw_in hi (J := 1) (by decide)) dL_law_264 ?_
  refine h_aload_n C 4 dL_law_265 rfl rfl ?_
  refine h_iload C 0 dL_law_266 rfl ?_
  refine h_iconst C 2 dL_law_268 (by decide) ?_
  refine h_iadd C dL_law_269 ?_
  refine h_sld C S (lw_in hi (J := 2) (by decide)) dL_law_270 ?_
  refine h_aload_n C 4 dL_law_271 rfl rfl ?_
  refine h_iload C 0 dL_law_272 rfl ?_
  refine h_iconst C 3 dL_law_274 (by decide) ?_
  refine h_iadd C dL_law_275 ?_
  refine h_sld C S (lw_in hi (J := 3) (by decide)) dL_law_276 ?_
  refine h_callV C (m_X10_move I.1 I.2.2.2.1.P) caL_43 kX10 (ty_0 I.1) ⟨by decide, by decide, lw_k hk (by decide), lw_k hn (by decide)⟩ rfl rfl (Nat.le_of_ble_eq_true rfl) dL_law_277 ?_
  rintro v σ1 ⟨r, rfl, c⟩
  have J : IM σ1 := im_move I c
  refine h_aload_n C 2 dL_law_280 rfl rfl ?_
  refine h_aload_n C 4 dL_law_281 rfl rfl ?_
  refine h_iload C 0 dL_law_282 rfl ?_
  refine h_iconst C 1 dL_law_284 (by decide) ?_
  refine h_iadd C dL_law_285 ?_
  refine h_sld C S (lw_in hi (J := 1) (by decide)) dL_law_286 ?_
  refine h_aload_n C 4 dL_law_287 rfl rfl ?_
  refine h_iload C 0 dL_law_288 rfl ?_
  refine h_iconst C 2 dL_law_290 (by decide) ?_
  refine h_iadd C dL_law_291 ?_
  refine h_sld C S (lw_in hi (J := 2) (by decide)) dL_law_292 ?_
  refine h_aload_n C 4 dL_law_293 rfl rfl ?_
  refine h_iload C 0 dL_law_294 rfl ?_
  refine h_iconst C 3 dL_law_296 (by decide) ?_
  refine h_iadd C dL_law_297 ?_
  refine h_sld C S (lw_in hi (J := 3) (by decide)) dL_law_298 ?_
  refine h_callV C (m_X11_move J.1 J.2.1) caL_47 kX11 (ty_44 J.1) ⟨by decide, by decide, lw_k2 hk (by decide), lw_k2 hn (by decide)⟩ rfl rfl (Nat.le_of_ble_eq_true rfl) dL_law_299 ?_
  rintro v σ2 ⟨r', rfl, m⟩
  have E := e_move I c m
  refine h_icmp_eq C 1432 dL_law_302 (by decide) (fun _ => h_widen (lw_k3 (by decide)) (lw_k3 (by decide)) (nx _ E.2)) (fun q => absurd E.1.symm q)
set_option maxRecDepth 100000 in
set_option maxHeartbeats 4000000 in
theorem law_3 {p : Program} {l : Launch} {e : Env} {s : State} {m0 : MethodId} {args : Array Value} {below : List Frame} {meth : Method} {c0 : Code} {Q : State → Prop} {G : ha_G} {ret : Option FieldType} {b L : Nat} {xs : Nat → Int32} {σ : ha_St} {k n : Nat} {i : Int32} (C : hX p s m0 args meth c0 G cL_law RL 8 ret) (hth : hTh G s s.heap) (hl : l.stackTraces = false) (S : lwS s G b L xs) (I : Inv σ) (hi : lwI i L) (hk : k + 1 ≤ 601024) (hn : n + 60 ≤ 7293033) (nx : ∀ σ', Inv σ' → hW p l e room_1 s m0 args below meth c0 Q G 8 1432 [(4, .int i), (3, .ref (ad G 73)), (2, .ref (ad G 44)), (1, .ref (ad G 0)), (0, .ref b)] [] σ' (k + 1) (n + 60)) : hW p l e room_1 s m0 args below meth c0 Q G 8 307 [(4, .int i), (3, .ref (ad G 73)), (2, .ref (ad G 44)), (1, .ref (ad G 0)), (0, .ref b)] [] σ k n := by
  refine h_aload_n C 3 dL_law_307 rfl rfl ?_
  refine h_aload_n C 4 dL_law_308 rfl rfl ?_
  refine h_iload C 0 dL_law_309 rfl ?_
  refine h_iconst C 1 dL_law_311 (by decide) ?_
  refine h_iadd C dL_law_312 ?_
  refine h_sld C S (lw_in hi (J := 1) (by decide)) dL_law_313 ?_
  refine h_aload_n C 4 dL_law_314 rfl rfl ?_
  refine h_iload C 0 dL_law_315 rfl ?_
  refine h_iconst C 2 dL_law_317 (by decide) ?_
  refine h_iadd C dL_law_318 ?_
  refine h_sld C S (lw_in hi (J := 2) (by decide)) dL_law_319 ?_
  refine h_callV C (m_X10_miss I.1 I.2.2.2.1.P) caL_48 kX10 (ty_0 I.1) ⟨by decide, by decide, lw_k hk (by decide), lw_k hn (by decide)⟩ rfl rfl (Nat.le_of_ble_eq_true rfl) dL_law_320 ?_
  rintro v σ1 ⟨r, rfl, c⟩
  have J : IM σ1 := im_miss I c
  refine h_aload_n C 2 dL_law_323 rfl rfl ?_
  refine h_aload_n C 4 dL_law_324 rfl rfl ?_
  refine h_iload C 0 dL_law_325 rfl ?_
  refine h_iconst C 1 dL_law_327 (by decide) ?_
  refine h_iadd C dL_law_328 ?_
  refine h_sld C S (lw_in hi (J := 1) (by decide)) dL_law_329 ?_
  refine h_aload_n C 4 dL_law_330 rfl rfl ?_
  refine h_iload C 0 dL_law_331 rfl ?_
  refine h_iconst C 2 dL_law_333 (by decide) ?_
  refine h_iadd C dL_law_334 ?_
  refine h_sld C S (lw_in hi (J := 2) (by decide)) dL_law_335 ?_
  refine h_callV C (m_X11_miss J.1 J.2.1) caL_52 kX11 (ty_44 J.1) ⟨by decide, by decide, lw_k2 hk (by decide), lw_k2 hn (by decide)⟩ rfl rfl (Nat.le_of_ble_eq_true rfl) dL_law_336 ?_
  rintro v σ2 ⟨r', rfl, m⟩
  have E := e_miss I c m
  refine h_icmp_eq C 1432 dL_law_339 (by decide) (fun _ => h_widen (lw_k3 (by decide)) (lw_k3 (by decide)) (nx _ E.2)) (fun q => absurd E.1.symm q)
set_option maxRecDepth 100000 in
set_option maxHeartbeats 4000000 in
theorem law_4 {p : Program} {l : Launch} {e : Env} {s : State} {m0 : MethodId} {args : Array Value} {below : List Frame} {meth : Method} {c0 : Code} {Q : State → Prop} {G : ha_G} {ret : Option FieldType} {b L : Nat} {xs : Nat → Int32} {σ : ha_St} {k n : Nat} {i : Int32} (C : hX p s m0 args meth c0 G cL_law RL 8 ret) (hth : hTh G s s.heap) (hl : l.stackTraces = false) (S : lwS s G b L xs) (I : Inv σ) (hi : lwI i L) (hk : k + 1 ≤ 601024) (hn : n + 60 ≤ 7293033) (nx : ∀ σ', Inv σ' → hW p l e room_1 s m0 args below meth c0 Q G 8 1432 [(4, .int i), (3, .ref (ad G 73)), (2, .ref (ad G 44)), (1, .ref (ad G 0)), (0, .ref b)] [] σ' (k + 1) (n + 60)) : hW p l e room_1 s m0 args below meth c0 Q G 8 344 [(4, .int i), (3, .ref (ad G 73)), (2, .ref (ad G 44)), (1, .ref (ad G 0)), (0, .ref b)] [] σ k n := by
  refine h_aload_n C 3 dL_law_344 rfl rfl ?_
  refine h_aload_n C 4 dL_law_345 rfl rfl ?_
  refine h_iload C 0 dL_law_346 rfl ?_
  refine h_iconst C 1 dL_law_348 (by decide) ?_
  refine h_iadd C dL_law_349 ?_
  refine h_sld C S (lw_in hi (J := 1) (by decide)) dL_law_350 ?_
  refine h_aload_n C 4 dL_law_351 rfl rfl ?_
  refine h_iload C 0 dL_law_352 rfl ?_
  refine h_iconst C 2 dL_law_354 (by decide) ?_
  refine h_iadd C dL_law_355 ?_
  refine h_sld C S (lw_in hi (J := 2) (by decide)) dL_law_356 ?_
  refine h_callV C (m_X10_look I.1 I.2.2.2.1.P) caL_53 kX10 (ty_0 I.1) ⟨by decide, by decide, lw_k hk (by decide), lw_k hn (by decide)⟩ rfl rfl (Nat.le_of_ble_eq_true rfl) dL_law_357 ?_
  rintro v σ1 ⟨⟨r, rfl, c⟩, h2⟩; rw [h2]; clear h2
  have J : IM σ := I.M
  refine h_aload_n C 2 dL_law_360 rfl rfl ?_
  refine h_aload_n C 4 dL_law_361 rfl rfl ?_
  refine h_iload C 0 dL_law_362 rfl ?_
  refine h_iconst C 1 dL_law_364 (by decide) ?_
  refine h_iadd C dL_law_365 ?_
  refine h_sld C S (lw_in hi (J := 1) (by decide)) dL_law_366 ?_
  refine h_aload_n C 4 dL_law_367 rfl rfl ?_
  refine h_iload C 0 dL_law_368 rfl ?_
  refine h_iconst C 2 dL_law_370 (by decide) ?_
  refine h_iadd C dL_law_371 ?_
  refine h_sld C S (lw_in hi (J := 2) (by decide)) dL_law_372 ?_
  refine h_callV C (m_X11_look J.1 J.2.1) caL_56 kX11 (ty_44 J.1) ⟨by decide, by decide, lw_k2 hk (by decide), lw_k2 hn (by decide)⟩ rfl rfl (Nat.le_of_ble_eq_true rfl) dL_law_373 ?_
  rintro v σ2 ⟨rfl, h2⟩; rw [h2]; clear h2
  have E := (⟨e_look I c, I⟩ : _ ∧ Inv σ)
  refine h_icmp_eq C 1432 dL_law_376 (by decide) (fun _ => h_widen (lw_k3 (by decide)) (lw_k3 (by decide)) (nx _ E.2)) (fun q => absurd E.1 q)
set_option maxRecDepth 100000 in
set_option maxHeartbeats 4000000 in
theorem law_5 {p : Program} {l : Launch} {e : Env} {s : State} {m0 : MethodId} {args : Array Value} {below : List Frame} {meth : Method} {c0 : Code} {Q : State → Prop} {G : ha_G} {ret : Option FieldType} {b L : Nat} {xs : Nat → Int32} {σ : ha_St} {k n : Nat} {i : Int32} (C : hX p s m0 args meth c0 G cL_law RL 8 ret) (hth : hTh G s s.heap) (hl : l.stackTraces = false) (S : lwS s G b L xs) (I : Inv σ) (hi : lwI i L) (hk : k + 1 ≤ 601024) (hn : n + 60 ≤ 7293033) (nx : ∀ σ', Inv σ' → hW p l e room_1 s m0 args below meth c0 Q G 8 1432 [(4, .int i), (3, .ref (ad G 73)), (2, .ref (ad G 44)), (1, .ref (ad G 0)), (0, .ref b)] [] σ' (k + 1) (n + 60)) : hW p l e room_1 s m0 args below meth c0 Q G 8 381 [(4, .int i), (3, .ref (ad G 73)), (2, .ref (ad G 44)), (1, .ref (ad G 0)), (0, .ref b)] [] σ k n := by
  refine h_aload_n C 3 dL_law_381 rfl rfl ?_
  refine h_aload_n C 4 dL_law_382 rfl rfl ?_
  refine h_iload C 0 dL_law_383 rfl ?_
  refine h_iconst C 1 dL_law_385 (by decide) ?_
  refine h_iadd C dL_law_386 ?_
  refine h_sld C S (lw_in hi (J := 1) (by decide)) dL_law_387 ?_
  refine h_aload_n C 4 dL_law_388 rfl rfl ?_
  refine h_iload C 0 dL_law_389 rfl ?_
  refine h_iconst C 2 dL_law_391 (by decide) ?_
  refine h_iadd C dL_law_392 ?_
  refine h_sld C S (lw_in hi (J := 2) (by decide)) dL_law_393 ?_
  refine h_aload_n C 4 dL_law_394 rfl rfl ?_
  refine h_iload C 0 dL_law_395 rfl ?_
  refine h_iconst C 3 dL_law_397 (by decide) ?_
  refine h_iadd C dL_law_398 ?_
  refine h_sld C S (lw_in hi (J := 3) (by decide)) dL_law_399 ?_
  refine h_aload_n C 1 dL_law_400 rfl rfl ?_
  refine h_callSW C hth (m_L_wrench hl I.1 I.2.2.2.1.P (fun x1 s1 c => (lawW_s (r := 0) (σ1 := sL s1 73 0 x1) (Or.inl ⟨rfl, x1, s1, c, rfl⟩)).1)) cwL_57 ⟨by decide, by decide, lw_k hk (by decide), lw_k hn (by decide)⟩ rfl rfl (Nat.le_of_ble_eq_true rfl) dL_law_401 ?_
  rintro v σ1 ⟨r, rfl, c⟩
  have J : IM σ1 := (I.ag (lawW_s c)).M
  refine h_istore C [(5, .int r), (4, .int i), (3, .ref (ad G 73)), (2, .ref (ad G 44)), (1, .ref (ad G 0)), (0, .ref b)] dL_law_404 (by decide) rfl ?_
  refine h_aload_n C 3 dL_law_406 rfl rfl ?_
  refine h_aload_n C 5 dL_law_407 rfl rfl ?_
  refine h_iload C 1 dL_law_408 rfl ?_
  refine h_iconst C 1 dL_law_410 (by decide) ?_
  refine h_iadd C dL_law_411 ?_
  refine h_sld C S (lw_in hi (J := 1) (by decide)) dL_law_412 ?_
  refine h_aload_n C 5 dL_law_413 rfl rfl ?_
  refine h_iload C 1 dL_law_414 rfl ?_
  refine h_iconst C 2 dL_law_416 (by decide) ?_
  refine h_iadd C dL_law_417 ?_
  refine h_sld C S (lw_in hi (J := 2) (by decide)) dL_law_418 ?_
  refine h_aload_n C 5 dL_law_419 rfl rfl ?_
  refine h_iload C 1 dL_law_420 rfl ?_
  refine h_iconst C 3 dL_law_422 (by decide) ?_
  refine h_iadd C dL_law_423 ?_
  refine h_sld C S (lw_in hi (J := 3) (by decide)) dL_law_424 ?_
  refine h_callV C (m_X11_wrench J.1 J.2.1) caL_62 kX11 (ty_44 J.1) ⟨by decide, by decide, lw_k2 hk (by decide), lw_k2 hn (by decide)⟩ rfl rfl (Nat.le_of_ble_eq_true rfl) dL_law_425 ?_
  rintro v σ2 ⟨x, rfl, m⟩
  have E := e_wrench I c m
  refine h_lstore C [(6, .long x), (5, .int r), (4, .int i), (3, .ref (ad G 73)), (2, .ref (ad G 44)), (1, .ref (ad G 0)), (0, .ref b)] dL_law_428 (by decide) rfl ?_
  refine h_aload_n C 4 dL_law_430 rfl rfl ?_
  refine h_callV C (m_X11_thrown E.2.2.1) caL_63 kX11 (ty_44 E.2.2.1) ⟨by decide, by decide, lw_k4 hk (by decide), lw_k4 hn (by decide)⟩ rfl rfl (Nat.le_of_ble_eq_true rfl) dL_law_431 ?_
  rintro v σ3 ⟨rfl, h2⟩; rw [h2]; clear h2
  refine h_iload C 1 dL_law_434 rfl ?_
  refine h_icmp_eq C 441 dL_law_436 (by decide) (fun _ => ?_) (fun q => absurd E.1 q)
  refine h_iload C 1 dL_law_441 rfl ?_
  have fin : hW p l e room_1 s m0 args below meth c0 Q G 8 457 [(6, .long x), (5, .int r), (4, .int i), (3, .ref (ad G 73)), (2, .ref (ad G 44)), (1, .ref (ad G 0)), (0, .ref b)] [] σ2 (k + 1) (n + 60) := by
    refine h_goto C 1432 dL_law_457 (by decide) ?_
    refine h_sub [2, 3, 4, 5, 6] rfl ?_
    exact nx _ E.2.2
  refine h_widen (k' := k + 1) (n' := n + 60) (lw_k5 (by decide)) (lw_k5 (by decide)) ?_
  refine h_if_ne C 457 dL_law_443 (by decide) (fun _ => fin) (fun q => ?_)
  refine h_aload_n C 3 dL_law_446 rfl rfl ?_
  refine h_iconst C 0 dL_law_447 (by decide) ?_
  refine h_lald C (ty_73 E.2.2.1) (vp32 (N := 1) (by decide) (by decide) (by decide)) dL_law_448 ?_
  refine h_lload C 0 dL_law_449 rfl ?_
  refine h_lcmp C dL_law_451 ?_
  refine h_if_eq C 457 dL_law_452 (by decide) (fun _ => fin) (fun w => absurd ?_ w)
  rw [tn_0, E.2.1 q]
  exact lg_self
set_option maxRecDepth 100000 in
set_option maxHeartbeats 4000000 in
theorem law_6 {p : Program} {l : Launch} {e : Env} {s : State} {m0 : MethodId} {args : Array Value} {below : List Frame} {meth : Method} {c0 : Code} {Q : State → Prop} {G : ha_G} {ret : Option FieldType} {b L : Nat} {xs : Nat → Int32} {σ : ha_St} {k n : Nat} {i : Int32} (C : hX p s m0 args meth c0 G cL_law RL 8 ret) (hth : hTh G s s.heap) (hl : l.stackTraces = false) (S : lwS s G b L xs) (I : Inv σ) (hi : lwI i L) (hk : k + 1 ≤ 601024) (hn : n + 60 ≤ 7293033) (nx : ∀ σ', Inv σ' → hW p l e room_1 s m0 args below meth c0 Q G 8 1432 [(4, .int i), (3, .ref (ad G 73)), (2, .ref (ad G 44)), (1, .ref (ad G 0)), (0, .ref b)] [] σ' (k + 1) (n + 60)) : hW p l e room_1 s m0 args below meth c0 Q G 8 460 [(4, .int i), (3, .ref (ad G 73)), (2, .ref (ad G 44)), (1, .ref (ad G 0)), (0, .ref b)] [] σ k n := by
  refine h_aload_n C 3 dL_law_460 rfl rfl ?_
  refine h_callV C (m_X10_rank I.1 I.2.2.2.1.P) caL_66 kX10 (ty_0 I.1) ⟨by decide, by decide, lw_k hk (by decide), lw_k hn (by decide)⟩ rfl rfl (Nat.le_of_ble_eq_true rfl) dL_law_461 ?_
  rintro v σ1 ⟨r, rfl, c⟩
  have J : IM σ1 := im_rank I c
  refine h_aload_n C 2 dL_law_464 rfl rfl ?_
  refine h_callV C (m_X11_rank J.1 J.2.1) caL_69 kX11 (ty_44 J.1) ⟨by decide, by decide, lw_k2 hk (by decide), lw_k2 hn (by decide)⟩ rfl rfl (Nat.le_of_ble_eq_true rfl) dL_law_465 ?_
  rintro v σ2 ⟨r', rfl, m⟩
  have E := e_rank I c m
  refine h_icmp_eq C 1432 dL_law_468 (by decide) (fun _ => h_widen (lw_k3 (by decide)) (lw_k3 (by decide)) (nx _ E.2)) (fun q => absurd E.1 q)
set_option maxRecDepth 100000 in
set_option maxHeartbeats 4000000 in
theorem law_7 {p : Program} {l : Launch} {e : Env} {s : State} {m0 : MethodId} {args : Array Value} {below : List Frame} {meth : Method} {c0 : Code} {Q : State → Prop} {G : ha_G} {ret : Option FieldType} {b L : Nat} {xs : Nat → Int32} {σ : ha_St} {k n : Nat} {i : Int32} (C : hX p s m0 args meth c0 G cL_law RL 8 ret) (hth : hTh G s s.heap) (hl : l.stackTraces = false) (S : lwS s G b L xs) (I : Inv σ) (hi : lwI i L) (hk : k + 1 ≤ 601024) (hn : n + 60 ≤ 7293033) (nx : ∀ σ', Inv σ' → hW p l e room_1 s m0 args below meth c0 Q G 8 1432 [(4, .int i), (3, .ref (ad G 73)), (2, .ref (ad G 44)), (1, .ref (ad G 0)), (0, .ref b)] [] σ' (k + 1) (n + 60)) : hW p l e room_1 s m0 args below meth c0 Q G 8 473 [(4, .int i), (3, .ref (ad G 73)), (2, .ref (ad G 44)), (1, .ref (ad G 0)), (0, .ref b)] [] σ k n := by
  refine h_aload_n C 3 dL_law_473 rfl rfl ?_
  refine h_aload_n C 4 dL_law_474 rfl rfl ?_
  refine h_iload C 0 dL_law_475 rfl ?_
  refine h_iconst C 1 dL_law_477 (by decide) ?_
  refine h_iadd C dL_law_478 ?_
  refine h_sld C S (lw_in hi (J := 1) (by decide)) dL_law_479 ?_
  refine h_aload_n C 1 dL_law_480 rfl rfl ?_
  refine h_callSW C hth (m_L_hidden hl I.1 I.2.2.2.1.P (fun x1 s1 c => (lawH_s (r := 0) (σ1 := sL s1 73 0 x1) (Or.inl ⟨rfl, x1, s1, c, rfl⟩)).1)) cwL_70 ⟨by decide, by decide, lw_k hk (by decide), lw_k hn (by decide)⟩ rfl rfl (Nat.le_of_ble_eq_true rfl) dL_law_481 ?_
  rintro v σ1 ⟨r, rfl, c⟩
  have J : IM σ1 := (I.ag (lawH_s c)).M
  refine h_istore C [(5, .int r), (4, .int i), (3, .ref (ad G 73)), (2, .ref (ad G 44)), (1, .ref (ad G 0)), (0, .ref b)] dL_law_484 (by decide) rfl ?_
  refine h_aload_n C 3 dL_law_486 rfl rfl ?_
  refine h_aload_n C 5 dL_law_487 rfl rfl ?_
  refine h_iload C 1 dL_law_488 rfl ?_
  refine h_iconst C 1 dL_law_490 (by decide) ?_
  refine h_iadd C dL_law_491 ?_
  refine h_sld C S (lw_in hi (J := 1) (by decide)) dL_law_492 ?_
  refine h_callV C (m_X11_hidden J.1 J.2.1) caL_73 kX11 (ty_44 J.1) ⟨by decide, by decide, lw_k2 hk (by decide), lw_k2 hn (by decide)⟩ rfl rfl (Nat.le_of_ble_eq_true rfl) dL_law_493 ?_
  rintro v σ2 ⟨x, rfl, m⟩
  have E := e_hidden I c m
  refine h_lstore C [(6, .long x), (5, .int r), (4, .int i), (3, .ref (ad G 73)), (2, .ref (ad G 44)), (1, .ref (ad G 0)), (0, .ref b)] dL_law_496 (by decide) rfl ?_
  refine h_aload_n C 4 dL_law_498 rfl rfl ?_
  refine h_callV C (m_X11_thrown E.2.2.1) caL_63 kX11 (ty_44 E.2.2.1) ⟨by decide, by decide, lw_k4 hk (by decide), lw_k4 hn (by decide)⟩ rfl rfl (Nat.le_of_ble_eq_true rfl) dL_law_499 ?_
  rintro v σ3 ⟨rfl, h2⟩; rw [h2]; clear h2
  refine h_iload C 1 dL_law_502 rfl ?_
  refine h_icmp_eq C 509 dL_law_504 (by decide) (fun _ => ?_) (fun q => absurd E.1 q)
  refine h_iload C 1 dL_law_509 rfl ?_
  have fin : hW p l e room_1 s m0 args below meth c0 Q G 8 525 [(6, .long x), (5, .int r), (4, .int i), (3, .ref (ad G 73)), (2, .ref (ad G 44)), (1, .ref (ad G 0)), (0, .ref b)] [] σ2 (k + 1) (n + 60) := by
    refine h_goto C 1432 dL_law_525 (by decide) ?_
    refine h_sub [2, 3, 4, 5, 6] rfl ?_
    exact nx _ E.2.2
  refine h_widen (k' := k + 1) (n' := n + 60) (lw_k5 (by decide)) (lw_k5 (by decide)) ?_
  refine h_if_ne C 525 dL_law_511 (by decide) (fun _ => fin) (fun q => ?_)
  refine h_aload_n C 3 dL_law_514 rfl rfl ?_
  refine h_iconst C 0 dL_law_515 (by decide) ?_
  refine h_lald C (ty_73 E.2.2.1) (vp32 (N := 1) (by decide) (by decide) (by decide)) dL_law_516 ?_
  refine h_lload C 0 dL_law_517 rfl ?_
  refine h_lcmp C dL_law_519 ?_
  refine h_if_eq C 525 dL_law_520 (by decide) (fun _ => fin) (fun w => absurd ?_ w)
  rw [tn_0, E.2.1 q]
  exact lg_self
set_option maxRecDepth 100000 in
set_option maxHeartbeats 4000000 in
theorem law_8 {p : Program} {l : Launch} {e : Env} {s : State} {m0 : MethodId} {args : Array Value} {below : List Frame} {meth : Method} {c0 : Code} {Q : State → Prop} {G : ha_G} {ret : Option FieldType} {b L : Nat} {xs : Nat → Int32} {σ : ha_St} {k n : Nat} {i : Int32} (C : hX p s m0 args meth c0 G cL_law RL 8 ret) (hth : hTh G s s.heap) (hl : l.stackTraces = false) (S : lwS s G b L xs) (I : Inv σ) (hi : lwI i L) (hk : k + 1 ≤ 601024) (hn : n + 60 ≤ 7293033) (nx : ∀ σ', Inv σ' → hW p l e room_1 s m0 args below meth c0 Q G 8 1432 [(4, .int i), (3, .ref (ad G 73)), (2, .ref (ad G 44)), (1, .ref (ad G 0)), (0, .ref b)] [] σ' (k + 1) (n + 60)) : hW p l e room_1 s m0 args below meth c0 Q G 8 528 [(4, .int i), (3, .ref (ad G 73)), (2, .ref (ad G 44)), (1, .ref (ad G 0)), (0, .ref b)] [] σ k n := by
  refine h_aload_n C 3 dL_law_528 rfl rfl ?_
  refine h_callV C (m_X10_form I.1 I.2.2.2.1.P) caL_74 kX10 (ty_0 I.1) ⟨by decide, by decide, lw_k hk (by decide), lw_k hn (by decide)⟩ rfl rfl (Nat.le_of_ble_eq_true rfl) dL_law_529 ?_
  rintro v σ1 ⟨r, rfl, c⟩
  have J : IM σ1 := im_form I c
  refine h_aload_n C 2 dL_law_532 rfl rfl ?_
  refine h_callV C (m_X11_form J.1 J.2.1) caL_77 kX11 (ty_44 J.1) ⟨by decide, by decide, lw_k2 hk (by decide), lw_k2 hn (by decide)⟩ rfl rfl (Nat.le_of_ble_eq_true rfl) dL_law_533 ?_
  rintro v σ2 ⟨r', rfl, m⟩
  have E := e_form I c m
  refine h_icmp_eq C 1432 dL_law_536 (by decide) (fun _ => h_widen (lw_k3 (by decide)) (lw_k3 (by decide)) (nx _ E.2)) (fun q => absurd E.1 q)
set_option maxRecDepth 100000 in
set_option maxHeartbeats 4000000 in
theorem law_9 {p : Program} {l : Launch} {e : Env} {s : State} {m0 : MethodId} {args : Array Value} {below : List Frame} {meth : Method} {c0 : Code} {Q : State → Prop} {G : ha_G} {ret : Option FieldType} {b L : Nat} {xs : Nat → Int32} {σ : ha_St} {k n : Nat} {i : Int32} (C : hX p s m0 args meth c0 G cL_law RL 8 ret) (hth : hTh G s s.heap) (hl : l.stackTraces = false) (S : lwS s G b L xs) (I : Inv σ) (hi : lwI i L) (hk : k + 1 ≤ 601024) (hn : n + 60 ≤ 7293033) (nx : ∀ σ', Inv σ' → hW p l e room_1 s m0 args below meth c0 Q G 8 1432 [(4, .int i), (3, .ref (ad G 73)), (2, .ref (ad G 44)), (1, .ref (ad G 0)), (0, .ref b)] [] σ' (k + 1) (n + 60)) : hW p l e room_1 s m0 args below meth c0 Q G 8 541 [(4, .int i), (3, .ref (ad G 73)), (2, .ref (ad G 44)), (1, .ref (ad G 0)), (0, .ref b)] [] σ k n := by
  refine h_aload_n C 3 dL_law_541 rfl rfl ?_
  refine h_aload_n C 4 dL_law_542 rfl rfl ?_
  refine h_iload C 0 dL_law_543 rfl ?_
  refine h_iconst C 1 dL_law_545 (by decide) ?_
  refine h_iadd C dL_law_546 ?_
  refine h_sld C S (lw_in hi (J := 1) (by decide)) dL_law_547 ?_
  refine h_callV C (m_X10_without I.1 I.2.2.2.1.P) caL_78 kX10 (ty_0 I.1) ⟨by decide, by decide, lw_k hk (by decide), lw_k hn (by decide)⟩ rfl rfl (Nat.le_of_ble_eq_true rfl) dL_law_548 ?_
  rintro v σ1 ⟨r, rfl, c⟩
  have J : IM σ1 := im_without I c
  refine h_aload_n C 2 dL_law_551 rfl rfl ?_
  refine h_aload_n C 4 dL_law_552 rfl rfl ?_
  refine h_iload C 0 dL_law_553 rfl ?_
  refine h_iconst C 1 dL_law_555 (by decide) ?_
  refine h_iadd C dL_law_556 ?_
  refine h_sld C S (lw_in hi (J := 1) (by decide)) dL_law_557 ?_
  refine h_callV C (m_X11_without J.1 J.2.1) caL_82 kX11 (ty_44 J.1) ⟨by decide, by decide, lw_k2 hk (by decide), lw_k2 hn (by decide)⟩ rfl rfl (Nat.le_of_ble_eq_true rfl) dL_law_558 ?_
  rintro v σ2 ⟨r', rfl, m⟩
  have E := e_without I c m
  refine h_icmp_eq C 1432 dL_law_561 (by decide) (fun _ => h_widen (lw_k3 (by decide)) (lw_k3 (by decide)) (nx _ E.2)) (fun q => absurd E.1 q)
set_option maxRecDepth 100000 in
set_option maxHeartbeats 4000000 in
theorem law_10 {p : Program} {l : Launch} {e : Env} {s : State} {m0 : MethodId} {args : Array Value} {below : List Frame} {meth : Method} {c0 : Code} {Q : State → Prop} {G : ha_G} {ret : Option FieldType} {b L : Nat} {xs : Nat → Int32} {σ : ha_St} {k n : Nat} {i : Int32} (C : hX p s m0 args meth c0 G cL_law RL 8 ret) (hth : hTh G s s.heap) (hl : l.stackTraces = false) (S : lwS s G b L xs) (I : Inv σ) (hi : lwI i L) (hk : k + 1 ≤ 601024) (hn : n + 60 ≤ 7293033) (nx : ∀ σ', Inv σ' → hW p l e room_1 s m0 args below meth c0 Q G 8 1432 [(4, .int i), (3, .ref (ad G 73)), (2, .ref (ad G 44)), (1, .ref (ad G 0)), (0, .ref b)] [] σ' (k + 1) (n + 60)) : hW p l e room_1 s m0 args below meth c0 Q G 8 566 [(4, .int i), (3, .ref (ad G 73)), (2, .ref (ad G 44)), (1, .ref (ad G 0)), (0, .ref b)] [] σ k n := by
  refine h_aload_n C 3 dL_law_566 rfl rfl ?_
  refine h_aload_n C 4 dL_law_567 rfl rfl ?_
  refine h_iload C 0 dL_law_568 rfl ?_
  refine h_iconst C 1 dL_law_570 (by decide) ?_
  refine h_iadd C dL_law_571 ?_
  refine h_sld C S (lw_in hi (J := 1) (by decide)) dL_law_572 ?_
  refine h_aload_n C 4 dL_law_573 rfl rfl ?_
  refine h_iload C 0 dL_law_574 rfl ?_
  refine h_iconst C 2 dL_law_576 (by decide) ?_
  refine h_iadd C dL_law_577 ?_
  refine h_sld C S (lw_in hi (J := 2) (by decide)) dL_law_578 ?_
  refine h_aload_n C 4 dL_law_579 rfl rfl ?_
  refine h_iload C 0 dL_law_580 rfl ?_
  refine h_iconst C 3 dL_law_582 (by decide) ?_
  refine h_iadd C dL_law_583 ?_
  refine h_sld C S (lw_in hi (J := 3) (by decide)) dL_law_584 ?_
  refine h_aload_n C 4 dL_law_585 rfl rfl ?_
  refine h_iload C 0 dL_law_586 rfl ?_
  refine h_iconst C 4 dL_law_588 (by decide) ?_
  refine h_iadd C dL_law_589 ?_
  refine h_sld C S (lw_in hi (J := 4) (by decide)) dL_law_590 ?_
  refine h_callV C (m_X10_held I.1 I.2.2.2.1.P I.2.2.1) caL_83 kX10 (ty_0 I.1) ⟨by decide, by decide, lw_k hk (by decide), lw_k hn (by decide)⟩ rfl rfl (Nat.le_of_ble_eq_true rfl) dL_law_591 ?_
  rintro v σ1 ⟨r, rfl, c⟩
  have J : IM σ1 := (held_fC I c).M
  refine h_aload_n C 2 dL_law_594 rfl rfl ?_
  refine h_aload_n C 4 dL_law_595 rfl rfl ?_
  refine h_iload C 0 dL_law_596 rfl ?_
  refine h_iconst C 1 dL_law_598 (by decide) ?_
  refine h_iadd C dL_law_599 ?_
  refine h_sld C S (lw_in hi (J := 1) (by decide)) dL_law_600 ?_
  refine h_aload_n C 4 dL_law_601 rfl rfl ?_
  refine h_iload C 0 dL_law_602 rfl ?_
  refine h_iconst C 2 dL_law_604 (by decide) ?_
  refine h_iadd C dL_law_605 ?_
  refine h_sld C S (lw_in hi (J := 2) (by decide)) dL_law_606 ?_
  refine h_aload_n C 4 dL_law_607 rfl rfl ?_
  refine h_iload C 0 dL_law_608 rfl ?_
  refine h_iconst C 3 dL_law_610 (by decide) ?_
  refine h_iadd C dL_law_611 ?_
  refine h_sld C S (lw_in hi (J := 3) (by decide)) dL_law_612 ?_
  refine h_aload_n C 4 dL_law_613 rfl rfl ?_
  refine h_iload C 0 dL_law_614 rfl ?_
  refine h_iconst C 4 dL_law_616 (by decide) ?_
  refine h_iadd C dL_law_617 ?_
  refine h_sld C S (lw_in hi (J := 4) (by decide)) dL_law_618 ?_
  refine h_callV C (m_X11_held J.1 J.2.1) caL_86 kX11 (ty_44 J.1) ⟨by decide, by decide, lw_k2 hk (by decide), lw_k2 hn (by decide)⟩ rfl rfl (Nat.le_of_ble_eq_true rfl) dL_law_619 ?_
  rintro v σ2 ⟨r', rfl, m⟩
  have E := e_held I c m
  refine h_icmp_eq C 1432 dL_law_622 (by decide) (fun _ => h_widen (lw_k3 (by decide)) (lw_k3 (by decide)) (nx _ E.2)) (fun q => absurd E.1 q)
set_option maxRecDepth 100000 in
set_option maxHeartbeats 4000000 in
theorem law_11 {p : Program} {l : Launch} {e : Env} {s : State} {m0 : MethodId} {args : Array Value} {below : List Frame} {meth : Method} {c0 : Code} {Q : State → Prop} {G : ha_G} {ret : Option FieldType} {b L : Nat} {xs : Nat → Int32} {σ : ha_St} {k n : Nat} {i : Int32} (C : hX p s m0 args meth c0 G cL_law RL 8 ret) (hth : hTh G s s.heap) (hl : l.stackTraces = false) (S : lwS s G b L xs) (I : Inv σ) (hi : lwI i L) (hk : k + 1 ≤ 601024) (hn : n + 60 ≤ 7293033) (nx : ∀ σ', Inv σ' → hW p l e room_1 s m0 args below meth c0 Q G 8 1432 [(4, .int i), (3, .ref (ad G 73)), (2, .ref (ad G 44)), (1, .ref (ad G 0)), (0, .ref b)] [] σ' (k + 1) (n + 60)) : hW p l e room_1 s m0 args below meth c0 Q G 8 627 [(4, .int i), (3, .ref (ad G 73)), (2, .ref (ad G 44)), (1, .ref (ad G 0)), (0, .ref b)] [] σ k n := by
  refine h_aload_n C 3 dL_law_627 rfl rfl ?_
  refine h_aload_n C 4 dL_law_628 rfl rfl ?_
  refine h_iload C 0 dL_law_629 rfl ?_
  refine h_iconst C 1 dL_law_631 (by decide) ?_
  refine h_iadd C dL_law_632 ?_
  refine h_sld C S (lw_in hi (J := 1) (by decide)) dL_law_633 ?_
  refine h_aload_n C 4 dL_law_634 rfl rfl ?_
  refine h_iload C 0 dL_law_635 rfl ?_
  refine h_iconst C 2 dL_law_637 (by decide) ?_
  refine h_iadd C dL_law_638 ?_
  refine h_sld C S (lw_in hi (J := 2) (by decide)) dL_law_639 ?_
  refine h_aload_n C 4 dL_law_640 rfl rfl ?_
  refine h_iload C 0 dL_law_641 rfl ?_
  refine h_iconst C 3 dL_law_643 (by decide) ?_
  refine h_iadd C dL_law_644 ?_
  refine h_sld C S (lw_in hi (J := 3) (by decide)) dL_law_645 ?_
  refine h_callV C (m_X10_load I.1 I.s17.1) caL_87 kX10 (ty_0 I.1) ⟨by decide, by decide, lw_k hk (by decide), lw_k hn (by decide)⟩ rfl rfl (Nat.le_of_ble_eq_true rfl) dL_law_646 ?_
  rintro v σ1 ⟨r, rfl, c⟩
  have J : IM σ1 := im_load I c
  refine h_aload_n C 2 dL_law_649 rfl rfl ?_
  refine h_aload_n C 4 dL_law_650 rfl rfl ?_
  refine h_iload C 0 dL_law_651 rfl ?_
  refine h_iconst C 1 dL_law_653 (by decide) ?_
  refine h_iadd C dL_law_654 ?_
  refine h_sld C S (lw_in hi (J := 1) (by decide)) dL_law_655 ?_
  refine h_aload_n C 4 dL_law_656 rfl rfl ?_
  refine h_iload C 0 dL_law_657 rfl ?_
  refine h_iconst C 2 dL_law_659 (by decide) ?_
  refine h_iadd C dL_law_660 ?_
  refine h_sld C S (lw_in hi (J := 2) (by decide)) dL_law_661 ?_
  refine h_aload_n C 4 dL_law_662 rfl rfl ?_
  refine h_iload C 0 dL_law_663 rfl ?_
  refine h_iconst C 3 dL_law_665 (by decide) ?_
  refine h_iadd C dL_law_666 ?_
  refine h_sld C S (lw_in hi (J := 3) (by decide)) dL_law_667 ?_
  refine h_callV C (m_X11_load J.1 J.2.2.1.1 J.2.2.1.2) caL_90 kX11 (ty_44 J.1) ⟨by decide, by decide, lw_k2 hk (by decide), lw_k2 hn (by decide)⟩ rfl rfl (Nat.le_of_ble_eq_true rfl) dL_law_668 ?_
  rintro v σ2 ⟨r', rfl, m⟩
  have E := e_load I c m
  refine h_icmp_eq C 1432 dL_law_671 (by decide) (fun _ => h_widen (lw_k3 (by decide)) (lw_k3 (by decide)) (nx _ E.2)) (fun q => absurd E.1.symm q)
set_option maxRecDepth 100000 in
set_option maxHeartbeats 4000000 in
theorem law_12 {p : Program} {l : Launch} {e : Env} {s : State} {m0 : MethodId} {args : Array Value} {below : List Frame} {meth : Method} {c0 : Code} {Q : State → Prop} {G : ha_G} {ret : Option FieldType} {b L : Nat} {xs : Nat → Int32} {σ : ha_St} {k n : Nat} {i : Int32} (C : hX p s m0 args meth c0 G cL_law RL 8 ret) (hth : hTh G s s.heap) (hl : l.stackTraces = false) (S : lwS s G b L xs) (I : Inv σ) (hi : lwI i L) (hk : k + 1 ≤ 601024) (hn : n + 60 ≤ 7293033) (nx : ∀ σ', Inv σ' → hW p l e room_1 s m0 args below meth c0 Q G 8 1432 [(4, .int i), (3, .ref (ad G 73)), (2, .ref (ad G 44)), (1, .ref (ad G 0)), (0, .ref b)] [] σ' (k + 1) (n + 60)) : hW p l e room_1 s m0 args below meth c0 Q G 8 676 [(4, .int i), (3, .ref (ad G 73)), (2, .ref (ad G 44)), (1, .ref (ad G 0)), (0, .ref b)] [] σ k n := by
  refine h_aload_n C 3 dL_law_676 rfl rfl ?_
  refine h_callV C (m_X10_unload I.1) caL_91 kX10 (ty_0 I.1) ⟨by decide, by decide, lw_k hk (by decide), lw_k hn (by decide)⟩ rfl rfl (Nat.le_of_ble_eq_true rfl) dL_law_677 ?_
  rintro v σ1 ⟨rfl, h2⟩; rw [h2]; clear h2
  have J : IM (sI σ 17 3 0) := im_unload I
  refine h_aload_n C 2 dL_law_680 rfl rfl ?_
  refine h_callV C (m_X11_unload J.1) caL_94 kX11 (ty_44 J.1) ⟨by decide, by decide, lw_k2 hk (by decide), lw_k2 hn (by decide)⟩ rfl rfl (Nat.le_of_ble_eq_true rfl) dL_law_681 ?_
  rintro v σ2 ⟨rfl, h2⟩; rw [h2]; clear h2
  have E := e_unload I
  refine h_icmp_eq C 1432 dL_law_684 (by decide) (fun _ => h_widen (lw_k3 (by decide)) (lw_k3 (by decide)) (nx _ E.2)) (fun q => absurd E.1.symm q)
set_option maxRecDepth 100000 in
set_option maxHeartbeats 4000000 in
theorem law_13 {p : Program} {l : Launch} {e : Env} {s : State} {m0 : MethodId} {args : Array Value} {below : List Frame} {meth : Method} {c0 : Code} {Q : State → Prop} {G : ha_G} {ret : Option FieldType} {b L : Nat} {xs : Nat → Int32} {σ : ha_St} {k n : Nat} {i : Int32} (C : hX p s m0 args meth c0 G cL_law RL 8 ret) (hth : hTh G s s.heap) (hl : l.stackTraces = false) (S : lwS s G b L xs) (I : Inv σ) (hi : lwI i L) (hk : k + 1 ≤ 601024) (hn : n + 60 ≤ 7293033) (nx : ∀ σ', Inv σ' → hW p l e room_1 s m0 args below meth c0 Q G 8 1432 [(4, .int i), (3, .ref (ad G 73)), (2, .ref (ad G 44)), (1, .ref (ad G 0)), (0, .ref b)] [] σ' (k + 1) (n + 60)) : hW p l e room_1 s m0 args below meth c0 Q G 8 689 [(4, .int i), (3, .ref (ad G 73)), (2, .ref (ad G 44)), (1, .ref (ad G 0)), (0, .ref b)] [] σ k n := by
  refine h_aload_n C 3 dL_law_689 rfl rfl ?_
  refine h_aload_n C 4 dL_law_690 rfl rfl ?_
  refine h_iload C 0 dL_law_691 rfl ?_
  refine h_iconst C 1 dL_law_693 (by decide) ?_
  refine h_iadd C dL_law_694 ?_
  refine h_sld C S (lw_in hi (J := 1) (by decide)) dL_law_695 ?_
  refine h_callV C (m_X10_loads I.1 I.2.2.2.1.P I.2.2.1 I.s17.1 I.s17.2) caL_95 kX10 (ty_0 I.1) ⟨by decide, by decide, lw_k hk (by decide), lw_k hn (by decide)⟩ rfl rfl (Nat.le_of_ble_eq_true rfl) dL_law_696 ?_
  rintro v σ1 ⟨r, rfl, c⟩
  have J : IM σ1 := (loads_fC I c).M
  refine h_aload_n C 2 dL_law_699 rfl rfl ?_
  refine h_aload_n C 4 dL_law_700 rfl rfl ?_
  refine h_iload C 0 dL_law_701 rfl ?_
  refine h_iconst C 1 dL_law_703 (by decide) ?_
  refine h_iadd C dL_law_704 ?_
  refine h_sld C S (lw_in hi (J := 1) (by decide)) dL_law_705 ?_
  refine h_callV C (m_X11_loads J.1 J.2.1 J.2.2.1.1 J.2.2.1.2) caL_98 kX11 (ty_44 J.1) ⟨by decide, by decide, lw_k2 hk (by decide), lw_k2 hn (by decide)⟩ rfl rfl (Nat.le_of_ble_eq_true rfl) dL_law_706 ?_
  rintro v σ2 ⟨r', rfl, m⟩
  have E := e_loads I c m
  refine h_icmp_eq C 1432 dL_law_709 (by decide) (fun _ => h_widen (lw_k3 (by decide)) (lw_k3 (by decide)) (nx _ E.2)) (fun q => absurd E.1 q)
set_option maxRecDepth 100000 in
set_option maxHeartbeats 4000000 in
theorem law_14 {p : Program} {l : Launch} {e : Env} {s : State} {m0 : MethodId} {args : Array Value} {below : List Frame} {meth : Method} {c0 : Code} {Q : State → Prop} {G : ha_G} {ret : Option FieldType} {b L : Nat} {xs : Nat → Int32} {σ : ha_St} {k n : Nat} {i : Int32} (C : hX p s m0 args meth c0 G cL_law RL 8 ret) (hth : hTh G s s.heap) (hl : l.stackTraces = false) (S : lwS s G b L xs) (I : Inv σ) (hi : lwI i L) (hk : k + 1 ≤ 601024) (hn : n + 60 ≤ 7293033) (nx : ∀ σ', Inv σ' → hW p l e room_1 s m0 args below meth c0 Q G 8 1432 [(4, .int i), (3, .ref (ad G 73)), (2, .ref (ad G 44)), (1, .ref (ad G 0)), (0, .ref b)] [] σ' (k + 1) (n + 60)) : hW p l e room_1 s m0 args below meth c0 Q G 8 714 [(4, .int i), (3, .ref (ad G 73)), (2, .ref (ad G 44)), (1, .ref (ad G 0)), (0, .ref b)] [] σ k n := by
  refine h_aload_n C 3 dL_law_714 rfl rfl ?_
  refine h_callV C (m_X10_pull I.1 I.2.2.2.1.P I.2.2.1 I.s17.1 I.s17.2) caL_99 kX10 (ty_0 I.1) ⟨by decide, by decide, lw_k hk (by decide), lw_k hn (by decide)⟩ rfl rfl (Nat.le_of_ble_eq_true rfl) dL_law_715 ?_
  rintro v σ1 ⟨r, rfl, c⟩
  have J : IM σ1 := im_pull I c
  refine h_aload_n C 2 dL_law_718 rfl rfl ?_
  refine h_callV C (m_X11_pull J.1 J.2.1 J.2.2.1.1 J.2.2.1.2) caL_102 kX11 (ty_44 J.1) ⟨by decide, by decide, lw_k2 hk (by decide), lw_k2 hn (by decide)⟩ rfl rfl (Nat.le_of_ble_eq_true rfl) dL_law_719 ?_
  rintro v σ2 ⟨r', rfl, m⟩
  have E := e_pull I c m
  refine h_icmp_eq C 1432 dL_law_722 (by decide) (fun _ => h_widen (lw_k3 (by decide)) (lw_k3 (by decide)) (nx _ E.2.1)) (fun q => absurd E.1 q)
set_option maxRecDepth 100000 in
set_option maxHeartbeats 4000000 in
theorem law_15 {p : Program} {l : Launch} {e : Env} {s : State} {m0 : MethodId} {args : Array Value} {below : List Frame} {meth : Method} {c0 : Code} {Q : State → Prop} {G : ha_G} {ret : Option FieldType} {b L : Nat} {xs : Nat → Int32} {σ : ha_St} {k n : Nat} {i : Int32} (C : hX p s m0 args meth c0 G cL_law RL 8 ret) (hth : hTh G s s.heap) (hl : l.stackTraces = false) (S : lwS s G b L xs) (I : Inv σ) (hi : lwI i L) (hk : k + 1 ≤ 601024) (hn : n + 60 ≤ 7293033) (nx : ∀ σ', Inv σ' → hW p l e room_1 s m0 args below meth c0 Q G 8 1432 [(4, .int i), (3, .ref (ad G 73)), (2, .ref (ad G 44)), (1, .ref (ad G 0)), (0, .ref b)] [] σ' (k + 1) (n + 60)) : hW p l e room_1 s m0 args below meth c0 Q G 8 727 [(4, .int i), (3, .ref (ad G 73)), (2, .ref (ad G 44)), (1, .ref (ad G 0)), (0, .ref b)] [] σ k n := by
  by_cases z : xs (i + 5).toNatClampNeg = 0
  · refine h_aload_n C 3 dL_law_727 rfl rfl ?_
    refine h_aload_n C 4 dL_law_728 rfl rfl ?_
    refine h_iload C 0 dL_law_729 rfl ?_
    refine h_iconst C 1 dL_law_731 (by decide) ?_
    refine h_iadd C dL_law_732 ?_
    refine h_sld C S (lw_in hi (J := 1) (by decide)) dL_law_733 ?_
    refine h_aload_n C 4 dL_law_734 rfl rfl ?_
    refine h_iload C 0 dL_law_735 rfl ?_
    refine h_iconst C 2 dL_law_737 (by decide) ?_
    refine h_iadd C dL_law_738 ?_
    refine h_sld C S (lw_in hi (J := 2) (by decide)) dL_law_739 ?_
    refine h_aload_n C 4 dL_law_740 rfl rfl ?_
    refine h_iload C 0 dL_law_741 rfl ?_
    refine h_iconst C 3 dL_law_743 (by decide) ?_
    refine h_iadd C dL_law_744 ?_
    refine h_sld C S (lw_in hi (J := 3) (by decide)) dL_law_745 ?_
    refine h_aload_n C 4 dL_law_746 rfl rfl ?_
    refine h_iload C 0 dL_law_747 rfl ?_
    refine h_iconst C 4 dL_law_749 (by decide) ?_
    refine h_iadd C dL_law_750 ?_
    refine h_sld C S (lw_in hi (J := 4) (by decide)) dL_law_751 ?_
    refine h_aload_n C 4 dL_law_752 rfl rfl ?_
    refine h_iload C 0 dL_law_753 rfl ?_
    refine h_iconst C 5 dL_law_755 (by decide) ?_
    refine h_iadd C dL_law_756 ?_
    refine h_sld C S (lw_in hi (J := 5) (by decide)) dL_law_757 ?_
    refine h_if_eq C 765 dL_law_758 (by decide) (fun _ => ?_) (fun q => absurd z q)
    refine h_iconst C 0 dL_law_765 (by decide) ?_
    refine h_aload_n C 1 dL_law_766 rfl rfl ?_
    refine h_callSW C hth (m_L_worst hl I.1 I.2.2.2.1.P (fun x1 s1 c => (lawO_s (r := 0) (σ1 := sL s1 73 0 x1) (Or.inl ⟨rfl, x1, s1, c, rfl⟩)).1)) cwL_103 ⟨by decide, by decide, lw_k hk (by decide), lw_k hn (by decide)⟩ rfl rfl (Nat.le_of_ble_eq_true rfl) dL_law_767 ?_
    rintro v σ1 ⟨r, rfl, c⟩
    have J : IM σ1 := (I.ag (lawO_s c)).M
    refine h_istore C [(5, .int r), (4, .int i), (3, .ref (ad G 73)), (2, .ref (ad G 44)), (1, .ref (ad G 0)), (0, .ref b)] dL_law_770 (by decide) rfl ?_
    refine h_aload_n C 3 dL_law_772 rfl rfl ?_
    refine h_aload_n C 5 dL_law_773 rfl rfl ?_
    refine h_iload C 1 dL_law_774 rfl ?_
    refine h_iconst C 1 dL_law_776 (by decide) ?_
    refine h_iadd C dL_law_777 ?_
    refine h_sld C S (lw_in hi (J := 1) (by decide)) dL_law_778 ?_
    refine h_aload_n C 5 dL_law_779 rfl rfl ?_
    refine h_iload C 1 dL_law_780 rfl ?_
    refine h_iconst C 2 dL_law_782 (by decide) ?_
    refine h_iadd C dL_law_783 ?_
    refine h_sld C S (lw_in hi (J := 2) (by decide)) dL_law_784 ?_
    refine h_aload_n C 5 dL_law_785 rfl rfl ?_
    refine h_iload C 1 dL_law_786 rfl ?_
    refine h_iconst C 3 dL_law_788 (by decide) ?_
    refine h_iadd C dL_law_789 ?_
    refine h_sld C S (lw_in hi (J := 3) (by decide)) dL_law_790 ?_
    refine h_aload_n C 5 dL_law_791 rfl rfl ?_
    refine h_iload C 1 dL_law_792 rfl ?_
    refine h_iconst C 4 dL_law_794 (by decide) ?_
    refine h_iadd C dL_law_795 ?_
    refine h_sld C S (lw_in hi (J := 4) (by decide)) dL_law_796 ?_
    refine h_aload_n C 5 dL_law_797 rfl rfl ?_
    refine h_iload C 1 dL_law_798 rfl ?_
    refine h_iconst C 5 dL_law_800 (by decide) ?_
    refine h_iadd C dL_law_801 ?_
    refine h_sld C S (lw_in hi (J := 5) (by decide)) dL_law_802 ?_
    refine h_if_eq C 810 dL_law_803 (by decide) (fun _ => ?_) (fun q => absurd z q)
    refine h_iconst C 0 dL_law_810 (by decide) ?_
    refine h_callV C (m_X11_worst J.1 J.2.1) caL_106 kX11 (ty_44 J.1) ⟨by decide, by decide, lw_k2 hk (by decide), lw_k2 hn (by decide)⟩ rfl rfl (Nat.le_of_ble_eq_true rfl) dL_law_811 ?_
    rintro v σ2 ⟨x, rfl, m⟩
    have E := e_worst I c m
    refine h_lstore C [(6, .long x), (5, .int r), (4, .int i), (3, .ref (ad G 73)), (2, .ref (ad G 44)), (1, .ref (ad G 0)), (0, .ref b)] dL_law_814 (by decide) rfl ?_
    refine h_aload_n C 4 dL_law_816 rfl rfl ?_
    refine h_callV C (m_X11_thrown E.2.2.1) caL_63 kX11 (ty_44 E.2.2.1) ⟨by decide, by decide, lw_k4 hk (by decide), lw_k4 hn (by decide)⟩ rfl rfl (Nat.le_of_ble_eq_true rfl) dL_law_817 ?_
    rintro v σ3 ⟨rfl, h2⟩; rw [h2]; clear h2
    refine h_iload C 1 dL_law_820 rfl ?_
    refine h_icmp_eq C 827 dL_law_822 (by decide) (fun _ => ?_) (fun q => absurd E.1 q)
    refine h_iload C 1 dL_law_827 rfl ?_
    have fin : hW p l e room_1 s m0 args below meth c0 Q G 8 843 [(6, .long x), (5, .int r), (4, .int i), (3, .ref (ad G 73)), (2, .ref (ad G 44)), (1, .ref (ad G 0)), (0, .ref b)] [] σ2 (k + 1) (n + 60) := by
      refine h_goto C 1432 dL_law_843 (by decide) ?_
      refine h_sub [2, 3, 4, 5, 6] rfl ?_
      exact nx _ E.2.2
    refine h_widen (k' := k + 1) (n' := n + 60) (lw_k5 (by decide)) (lw_k5 (by decide)) ?_
    refine h_if_ne C 843 dL_law_829 (by decide) (fun _ => fin) (fun q => ?_)
    refine h_aload_n C 3 dL_law_832 rfl rfl ?_
    refine h_iconst C 0 dL_law_833 (by decide) ?_
    refine h_lald C (ty_73 E.2.2.1) (vp32 (N := 1) (by decide) (by decide) (by decide)) dL_law_834 ?_
    refine h_lload C 0 dL_law_835 rfl ?_
    refine h_lcmp C dL_law_837 ?_
    refine h_if_eq C 843 dL_law_838 (by decide) (fun _ => fin) (fun w => absurd ?_ w)
    rw [tn_0, E.2.1 q]
    exact lg_self
  · refine h_aload_n C 3 dL_law_727 rfl rfl ?_
    refine h_aload_n C 4 dL_law_728 rfl rfl ?_
    refine h_iload C 0 dL_law_729 rfl ?_
    refine h_iconst C 1 dL_law_731 (by decide) ?_
    refine h_iadd C dL_law_732 ?_
    refine h_sld C S (lw_in hi (J := 1) (by decide)) dL_law_733 ?_
    refine h_aload_n C 4 dL_law_734 rfl rfl ?_
    refine h_iload C 0 dL_law_735 rfl ?_
    refine h_iconst C 2 dL_law_737 (by decide) ?_
    refine h_iadd C dL_law_738 ?_
    refine h_sld C S (lw_in hi (J := 2) (by decide)) dL_law_739 ?_
    refine h_aload_n C 4 dL_law_740 rfl rfl ?_
    refine h_iload C 0 dL_law_741 rfl ?_
    refine h_iconst C 3 dL_law_743 (by decide) ?_
    refine h_iadd C dL_law_744 ?_
    refine h_sld C S (lw_in hi (J := 3) (by decide)) dL_law_745 ?_
    refine h_aload_n C 4 dL_law_746 rfl rfl ?_
    refine h_iload C 0 dL_law_747 rfl ?_
    refine h_iconst C 4 dL_law_749 (by decide) ?_
    refine h_iadd C dL_law_750 ?_
    refine h_sld C S (lw_in hi (J := 4) (by decide)) dL_law_751 ?_
    refine h_aload_n C 4 dL_law_752 rfl rfl ?_
    refine h_iload C 0 dL_law_753 rfl ?_
    refine h_iconst C 5 dL_law_755 (by decide) ?_
    refine h_iadd C dL_law_756 ?_
    refine h_sld C S (lw_in hi (J := 5) (by decide)) dL_law_757 ?_
    refine h_if_eq C 765 dL_law_758 (by decide) (fun q => absurd q z) (fun _ => ?_)
    refine h_iconst C 1 dL_law_761 (by decide) ?_
    refine h_goto C 766 dL_law_762 (by decide) ?_
    refine h_aload_n C 1 dL_law_766 rfl rfl ?_
    refine h_callSW C hth (m_L_worst hl I.1 I.2.2.2.1.P (fun x1 s1 c => (lawO_s (r := 0) (σ1 := sL s1 73 0 x1) (Or.inl ⟨rfl, x1, s1, c, rfl⟩)).1)) cwL_103 ⟨by decide, by decide, lw_k hk (by decide), lw_k hn (by decide)⟩ rfl rfl (Nat.le_of_ble_eq_true rfl) dL_law_767 ?_
    rintro v σ1 ⟨r, rfl, c⟩
    have J : IM σ1 := (I.ag (lawO_s c)).M
    refine h_istore C [(5, .int r), (4, .int i), (3, .ref (ad G 73)), (2, .ref (ad G 44)), (1, .ref (ad G 0)), (0, .ref b)] dL_law_770 (by decide) rfl ?_
    refine h_aload_n C 3 dL_law_772 rfl rfl ?_
    refine h_aload_n C 5 dL_law_773 rfl rfl ?_
    refine h_iload C 1 dL_law_774 rfl ?_
    refine h_iconst C 1 dL_law_776 (by decide) ?_
    refine h_iadd C dL_law_777 ?_
    refine h_sld C S (lw_in hi (J := 1) (by decide)) dL_law_778 ?_
    refine h_aload_n C 5 dL_law_779 rfl rfl ?_
    refine h_iload C 1 dL_law_780 rfl ?_
    refine h_iconst C 2 dL_law_782 (by decide) ?_
    refine h_iadd C dL_law_783 ?_
    refine h_sld C S (lw_in hi (J := 2) (by decide)) dL_law_784 ?_
    refine h_aload_n C 5 dL_law_785 rfl rfl ?_
    refine h_iload C 1 dL_law_786 rfl ?_
    refine h_iconst C 3 dL_law_788 (by decide) ?_
    refine h_iadd C dL_law_789 ?_
    refine h_sld C S (lw_in hi (J := 3) (by decide)) dL_law_790 ?_
    refine h_aload_n C 5 dL_law_791 rfl rfl ?_
    refine h_iload C 1 dL_law_792 rfl ?_
    refine h_iconst C 4 dL_law_794 (by decide) ?_
    refine h_iadd C dL_law_795 ?_
    refine h_sld C S (lw_in hi (J := 4) (by decide)) dL_law_796 ?_
    refine h_aload_n C 5 dL_law_797 rfl rfl ?_
    refine h_iload C 1 dL_law_798 rfl ?_
    refine h_iconst C 5 dL_law_800 (by decide) ?_
    refine h_iadd C dL_law_801 ?_
    refine h_sld C S (lw_in hi (J := 5) (by decide)) dL_law_802 ?_
    refine h_if_eq C 810 dL_law_803 (by decide) (fun q => absurd q z) (fun _ => ?_)
    refine h_iconst C 1 dL_law_806 (by decide) ?_
    refine h_goto C 811 dL_law_807 (by decide) ?_
    refine h_callV C (m_X11_worst J.1 J.2.1) caL_106 kX11 (ty_44 J.1) ⟨by decide, by decide, lw_k2 hk (by decide), lw_k2 hn (by decide)⟩ rfl rfl (Nat.le_of_ble_eq_true rfl) dL_law_811 ?_
    rintro v σ2 ⟨x, rfl, m⟩
    have E := e_worst I c m
    refine h_lstore C [(6, .long x), (5, .int r), (4, .int i), (3, .ref (ad G 73)), (2, .ref (ad G 44)), (1, .ref (ad G 0)), (0, .ref b)] dL_law_814 (by decide) rfl ?_
    refine h_aload_n C 4 dL_law_816 rfl rfl ?_
    refine h_callV C (m_X11_thrown E.2.2.1) caL_63 kX11 (ty_44 E.2.2.1) ⟨by decide, by decide, lw_k4 hk (by decide), lw_k4 hn (by decide)⟩ rfl rfl (Nat.le_of_ble_eq_true rfl) dL_law_817 ?_
    rintro v σ3 ⟨rfl, h2⟩; rw [h2]; clear h2
    refine h_iload C 1 dL_law_820 rfl ?_
    refine h_icmp_eq C 827 dL_law_822 (by decide) (fun _ => ?_) (fun q => absurd E.1 q)
    refine h_iload C 1 dL_law_827 rfl ?_
    have fin : hW p l e room_1 s m0 args below meth c0 Q G 8 843 [(6, .long x), (5, .int r), (4, .int i), (3, .ref (ad G 73)), (2, .ref (ad G 44)), (1, .ref (ad G 0)), (0, .ref b)] [] σ2 (k + 1) (n + 60) := by
      refine h_goto C 1432 dL_law_843 (by decide) ?_
      refine h_sub [2, 3, 4, 5, 6] rfl ?_
      exact nx _ E.2.2
    refine h_widen (k' := k + 1) (n' := n + 60) (lw_k5 (by decide)) (lw_k5 (by decide)) ?_
    refine h_if_ne C 843 dL_law_829 (by decide) (fun _ => fin) (fun q => ?_)
    refine h_aload_n C 3 dL_law_832 rfl rfl ?_
    refine h_iconst C 0 dL_law_833 (by decide) ?_
    refine h_lald C (ty_73 E.2.2.1) (vp32 (N := 1) (by decide) (by decide) (by decide)) dL_law_834 ?_
    refine h_lload C 0 dL_law_835 rfl ?_
    refine h_lcmp C dL_law_837 ?_
    refine h_if_eq C 843 dL_law_838 (by decide) (fun _ => fin) (fun w => absurd ?_ w)
    rw [tn_0, E.2.1 q]
    exact lg_self
set_option maxRecDepth 100000 in
set_option maxHeartbeats 4000000 in
theorem law_16 {p : Program} {l : Launch} {e : Env} {s : State} {m0 : MethodId} {args : Array Value} {below : List Frame} {meth : Method} {c0 : Code} {Q : State → Prop} {G : ha_G} {ret : Option FieldType} {b L : Nat} {xs : Nat → Int32} {σ : ha_St} {k n : Nat} {i : Int32} (C : hX p s m0 args meth c0 G cL_law RL 8 ret) (hth : hTh G s s.heap) (hl : l.stackTraces = false) (S : lwS s G b L xs) (I : Inv σ) (hi : lwI i L) (hk : k + 1 ≤ 601024) (hn : n + 60 ≤ 7293033) (nx : ∀ σ', Inv σ' → hW p l e room_1 s m0 args below meth c0 Q G 8 1432 [(4, .int i), (3, .ref (ad G 73)), (2, .ref (ad G 44)), (1, .ref (ad G 0)), (0, .ref b)] [] σ' (k + 1) (n + 60)) : hW p l e room_1 s m0 args below meth c0 Q G 8 846 [(4, .int i), (3, .ref (ad G 73)), (2, .ref (ad G 44)), (1, .ref (ad G 0)), (0, .ref b)] [] σ k n := by
  refine h_aload_n C 3 dL_law_846 rfl rfl ?_
  refine h_aload_n C 4 dL_law_847 rfl rfl ?_
  refine h_iload C 0 dL_law_848 rfl ?_
  refine h_iconst C 1 dL_law_850 (by decide) ?_
  refine h_iadd C dL_law_851 ?_
  refine h_sld C S (lw_in hi (J := 1) (by decide)) dL_law_852 ?_
  refine h_aload_n C 4 dL_law_853 rfl rfl ?_
  refine h_iload C 0 dL_law_854 rfl ?_
  refine h_iconst C 2 dL_law_856 (by decide) ?_
  refine h_iadd C dL_law_857 ?_
  refine h_sld C S (lw_in hi (J := 2) (by decide)) dL_law_858 ?_
  refine h_aload_n C 4 dL_law_859 rfl rfl ?_
  refine h_iload C 0 dL_law_860 rfl ?_
  refine h_iconst C 3 dL_law_862 (by decide) ?_
  refine h_iadd C dL_law_863 ?_
  refine h_sld C S (lw_in hi (J := 3) (by decide)) dL_law_864 ?_
  refine h_callV C (m_X10_best I.1 I.2.2.2.1.P) caL_107 kX10 (ty_0 I.1) ⟨by decide, by decide, lw_k hk (by decide), lw_k hn (by decide)⟩ rfl rfl (Nat.le_of_ble_eq_true rfl) dL_law_865 ?_
  rintro v σ1 ⟨r, rfl, c⟩
  have J : IM σ1 := (I.ag (bestQ_s c)).M
  refine h_aload_n C 2 dL_law_868 rfl rfl ?_
  refine h_aload_n C 4 dL_law_869 rfl rfl ?_
  refine h_iload C 0 dL_law_870 rfl ?_
  refine h_iconst C 1 dL_law_872 (by decide) ?_
  refine h_iadd C dL_law_873 ?_
  refine h_sld C S (lw_in hi (J := 1) (by decide)) dL_law_874 ?_
  refine h_aload_n C 4 dL_law_875 rfl rfl ?_
  refine h_iload C 0 dL_law_876 rfl ?_
  refine h_iconst C 2 dL_law_878 (by decide) ?_
  refine h_iadd C dL_law_879 ?_
  refine h_sld C S (lw_in hi (J := 2) (by decide)) dL_law_880 ?_
  refine h_aload_n C 4 dL_law_881 rfl rfl ?_
  refine h_iload C 0 dL_law_882 rfl ?_
  refine h_iconst C 3 dL_law_884 (by decide) ?_
  refine h_iadd C dL_law_885 ?_
  refine h_sld C S (lw_in hi (J := 3) (by decide)) dL_law_886 ?_
  refine h_callV C (m_X11_best J.1 J.2.1) caL_110 kX11 (ty_44 J.1) ⟨by decide, by decide, lw_k2 hk (by decide), lw_k2 hn (by decide)⟩ rfl rfl (Nat.le_of_ble_eq_true rfl) dL_law_887 ?_
  rintro v σ2 ⟨r', rfl, m⟩
  have E := e_best I c m
  refine h_icmp_eq C 1432 dL_law_890 (by decide) (fun _ => h_widen (lw_k3 (by decide)) (lw_k3 (by decide)) (nx _ E.2)) (fun q => absurd E.1.symm q)
set_option maxRecDepth 100000 in
set_option maxHeartbeats 4000000 in
theorem law_17 {p : Program} {l : Launch} {e : Env} {s : State} {m0 : MethodId} {args : Array Value} {below : List Frame} {meth : Method} {c0 : Code} {Q : State → Prop} {G : ha_G} {ret : Option FieldType} {b L : Nat} {xs : Nat → Int32} {σ : ha_St} {k n : Nat} {i : Int32} (C : hX p s m0 args meth c0 G cL_law RL 8 ret) (hth : hTh G s s.heap) (hl : l.stackTraces = false) (S : lwS s G b L xs) (I : Inv σ) (hi : lwI i L) (hk : k + 1 ≤ 601024) (hn : n + 60 ≤ 7293033) (nx : ∀ σ', Inv σ' → hW p l e room_1 s m0 args below meth c0 Q G 8 1432 [(4, .int i), (3, .ref (ad G 73)), (2, .ref (ad G 44)), (1, .ref (ad G 0)), (0, .ref b)] [] σ' (k + 1) (n + 60)) : hW p l e room_1 s m0 args below meth c0 Q G 8 895 [(4, .int i), (3, .ref (ad G 73)), (2, .ref (ad G 44)), (1, .ref (ad G 0)), (0, .ref b)] [] σ k n := by
  refine h_aload_n C 3 dL_law_895 rfl rfl ?_
  refine h_aload_n C 4 dL_law_896 rfl rfl ?_
  refine h_iload C 0 dL_law_897 rfl ?_
  refine h_iconst C 1 dL_law_899 (by decide) ?_
  refine h_iadd C dL_law_900 ?_
  refine h_sld C S (lw_in hi (J := 1) (by decide)) dL_law_901 ?_
  refine h_aload_n C 4 dL_law_902 rfl rfl ?_
  refine h_iload C 0 dL_law_903 rfl ?_
  refine h_iconst C 2 dL_law_905 (by decide) ?_
  refine h_iadd C dL_law_906 ?_
  refine h_sld C S (lw_in hi (J := 2) (by decide)) dL_law_907 ?_
  refine h_callV C (m_X10_step I.1 I.s26.1) caL_111 kX10 (ty_0 I.1) ⟨by decide, by decide, lw_k hk (by decide), lw_k hn (by decide)⟩ rfl rfl (Nat.le_of_ble_eq_true rfl) dL_law_908 ?_
  rintro v σ1 ⟨r, rfl, c⟩
  have J : IM σ1 := im_step I c
  refine h_aload_n C 2 dL_law_911 rfl rfl ?_
  refine h_aload_n C 4 dL_law_912 rfl rfl ?_
  refine h_iload C 0 dL_law_913 rfl ?_
  refine h_iconst C 1 dL_law_915 (by decide) ?_
  refine h_iadd C dL_law_916 ?_
  refine h_sld C S (lw_in hi (J := 1) (by decide)) dL_law_917 ?_
  refine h_aload_n C 4 dL_law_918 rfl rfl ?_
  refine h_iload C 0 dL_law_919 rfl ?_
  refine h_iconst C 2 dL_law_921 (by decide) ?_
  refine h_iadd C dL_law_922 ?_
  refine h_sld C S (lw_in hi (J := 2) (by decide)) dL_law_923 ?_
  refine h_callV C (m_X11_step J.1 J.2.2.2.1.1.1 J.2.2.2.1.1.2) caL_114 kX11 (ty_44 J.1) ⟨by decide, by decide, lw_k2 hk (by decide), lw_k2 hn (by decide)⟩ rfl rfl (Nat.le_of_ble_eq_true rfl) dL_law_924 ?_
  rintro v σ2 ⟨r', rfl, m⟩
  have E := e_step I c m
  refine h_icmp_eq C 1432 dL_law_927 (by decide) (fun _ => h_widen (lw_k3 (by decide)) (lw_k3 (by decide)) (nx _ E.2)) (fun q => absurd E.1.symm q)
set_option maxRecDepth 100000 in
set_option maxHeartbeats 4000000 in
theorem law_18 {p : Program} {l : Launch} {e : Env} {s : State} {m0 : MethodId} {args : Array Value} {below : List Frame} {meth : Method} {c0 : Code} {Q : State → Prop} {G : ha_G} {ret : Option FieldType} {b L : Nat} {xs : Nat → Int32} {σ : ha_St} {k n : Nat} {i : Int32} (C : hX p s m0 args meth c0 G cL_law RL 8 ret) (hth : hTh G s s.heap) (hl : l.stackTraces = false) (S : lwS s G b L xs) (I : Inv σ) (hi : lwI i L) (hk : k + 1 ≤ 601024) (hn : n + 60 ≤ 7293033) (nx : ∀ σ', Inv σ' → hW p l e room_1 s m0 args below meth c0 Q G 8 1432 [(4, .int i), (3, .ref (ad G 73)), (2, .ref (ad G 44)), (1, .ref (ad G 0)), (0, .ref b)] [] σ' (k + 1) (n + 60)) : hW p l e room_1 s m0 args below meth c0 Q G 8 932 [(4, .int i), (3, .ref (ad G 73)), (2, .ref (ad G 44)), (1, .ref (ad G 0)), (0, .ref b)] [] σ k n := by
  refine h_aload_n C 3 dL_law_932 rfl rfl ?_
  refine h_callV C (m_X10_setups I.1 I.s26.1 I.s26.2) caL_115 kX10 (ty_0 I.1) ⟨by decide, by decide, lw_k hk (by decide), lw_k hn (by decide)⟩ rfl rfl (Nat.le_of_ble_eq_true rfl) dL_law_933 ?_
  rintro v σ1 ⟨rfl, c⟩
  have J : IM σ1 := (few_Inv I c).1.M
  refine h_aload_n C 2 dL_law_936 rfl rfl ?_
  refine h_callV C (m_X11_setups J.1 J.2.2.2.1.1.1 J.2.2.2.1.1.2 (mSt_WB J.2.2.2.1)) caL_118 kX11 (ty_44 J.1) ⟨by decide, by decide, lw_k2 hk (by decide), lw_k2 hn (by decide)⟩ rfl rfl (Nat.le_of_ble_eq_true rfl) dL_law_937 ?_
  rintro v σ2 ⟨rfl, m⟩
  have E := e_setups I c m
  refine h_icmp_eq C 1432 dL_law_940 (by decide) (fun _ => h_widen (lw_k3 (by decide)) (lw_k3 (by decide)) (nx _ E.2)) (fun q => absurd E.1 q)
set_option maxRecDepth 100000 in
set_option maxHeartbeats 4000000 in
theorem law_19 {p : Program} {l : Launch} {e : Env} {s : State} {m0 : MethodId} {args : Array Value} {below : List Frame} {meth : Method} {c0 : Code} {Q : State → Prop} {G : ha_G} {ret : Option FieldType} {b L : Nat} {xs : Nat → Int32} {σ : ha_St} {k n : Nat} {i : Int32} (C : hX p s m0 args meth c0 G cL_law RL 8 ret) (hth : hTh G s s.heap) (hl : l.stackTraces = false) (S : lwS s G b L xs) (I : Inv σ) (hi : lwI i L) (hk : k + 1 ≤ 601024) (hn : n + 60 ≤ 7293033) (nx : ∀ σ', Inv σ' → hW p l e room_1 s m0 args below meth c0 Q G 8 1432 [(4, .int i), (3, .ref (ad G 73)), (2, .ref (ad G 44)), (1, .ref (ad G 0)), (0, .ref b)] [] σ' (k + 1) (n + 60)) : hW p l e room_1 s m0 args below meth c0 Q G 8 945 [(4, .int i), (3, .ref (ad G 73)), (2, .ref (ad G 44)), (1, .ref (ad G 0)), (0, .ref b)] [] σ k n := by
  refine h_aload_n C 3 dL_law_945 rfl rfl ?_
  refine h_aload_n C 4 dL_law_946 rfl rfl ?_
  refine h_iload C 0 dL_law_947 rfl ?_
  refine h_iconst C 1 dL_law_949 (by decide) ?_
  refine h_iadd C dL_law_950 ?_
  refine h_sld C S (lw_in hi (J := 1) (by decide)) dL_law_951 ?_
  refine h_aload_n C 4 dL_law_952 rfl rfl ?_
  refine h_iload C 0 dL_law_953 rfl ?_
  refine h_iconst C 2 dL_law_955 (by decide) ?_
  refine h_iadd C dL_law_956 ?_
  refine h_sld C S (lw_in hi (J := 2) (by decide)) dL_law_957 ?_
  refine h_callV C (m_X10_setup I.1 I.s26.1 I.s26.2) caL_119 kX10 (ty_0 I.1) ⟨by decide, by decide, lw_k hk (by decide), lw_k hn (by decide)⟩ rfl rfl (Nat.le_of_ble_eq_true rfl) dL_law_958 ?_
  rintro v σ1 ⟨r, rfl, c⟩
  have J : IM σ1 := (setup_Inv I c).M
  refine h_aload_n C 2 dL_law_961 rfl rfl ?_
  refine h_aload_n C 4 dL_law_962 rfl rfl ?_
  refine h_iload C 0 dL_law_963 rfl ?_
  refine h_iconst C 1 dL_law_965 (by decide) ?_
  refine h_iadd C dL_law_966 ?_
  refine h_sld C S (lw_in hi (J := 1) (by decide)) dL_law_967 ?_
  refine h_aload_n C 4 dL_law_968 rfl rfl ?_
  refine h_iload C 0 dL_law_969 rfl ?_
  refine h_iconst C 2 dL_law_971 (by decide) ?_
  refine h_iadd C dL_law_972 ?_
  refine h_sld C S (lw_in hi (J := 2) (by decide)) dL_law_973 ?_
  refine h_callV C (m_X11_setup J.1 J.2.2.2.1.1.1 J.2.2.2.1.1.2 (mSt_WB J.2.2.2.1) (mSt_PLN J.2.2.2.1 _ ⟨rfl, rfl, rfl⟩).2.1) caL_122 kX11 (ty_44 J.1) ⟨by decide, by decide, lw_k2 hk (by decide), lw_k2 hn (by decide)⟩ rfl rfl (Nat.le_of_ble_eq_true rfl) dL_law_974 ?_
  rintro v σ2 ⟨r', rfl, m⟩
  have E := e_setup I c m
  refine h_icmp_eq C 1432 dL_law_977 (by decide) (fun _ => h_widen (lw_k3 (by decide)) (lw_k3 (by decide)) (nx _ E.2)) (fun q => absurd E.1 q)
set_option maxRecDepth 100000 in
set_option maxHeartbeats 4000000 in
theorem law_20 {p : Program} {l : Launch} {e : Env} {s : State} {m0 : MethodId} {args : Array Value} {below : List Frame} {meth : Method} {c0 : Code} {Q : State → Prop} {G : ha_G} {ret : Option FieldType} {b L : Nat} {xs : Nat → Int32} {σ : ha_St} {k n : Nat} {i : Int32} (C : hX p s m0 args meth c0 G cL_law RL 8 ret) (hth : hTh G s s.heap) (hl : l.stackTraces = false) (S : lwS s G b L xs) (I : Inv σ) (hi : lwI i L) (hk : k + 1 ≤ 601024) (hn : n + 60 ≤ 7293033) (nx : ∀ σ', Inv σ' → hW p l e room_1 s m0 args below meth c0 Q G 8 1432 [(4, .int i), (3, .ref (ad G 73)), (2, .ref (ad G 44)), (1, .ref (ad G 0)), (0, .ref b)] [] σ' (k + 1) (n + 60)) : hW p l e room_1 s m0 args below meth c0 Q G 8 982 [(4, .int i), (3, .ref (ad G 73)), (2, .ref (ad G 44)), (1, .ref (ad G 0)), (0, .ref b)] [] σ k n := by
  refine h_aload_n C 3 dL_law_982 rfl rfl ?_
  refine h_aload_n C 4 dL_law_983 rfl rfl ?_
  refine h_iload C 0 dL_law_984 rfl ?_
  refine h_iconst C 1 dL_law_986 (by decide) ?_
  refine h_iadd C dL_law_987 ?_
  refine h_sld C S (lw_in hi (J := 1) (by decide)) dL_law_988 ?_
  refine h_aload_n C 4 dL_law_989 rfl rfl ?_
  refine h_iload C 0 dL_law_990 rfl ?_
  refine h_iconst C 2 dL_law_992 (by decide) ?_
  refine h_iadd C dL_law_993 ?_
  refine h_sld C S (lw_in hi (J := 2) (by decide)) dL_law_994 ?_
  refine h_callV C (m_X10_told I.1 I.s26.1 I.s26.2) caL_123 kX10 (ty_0 I.1) ⟨by decide, by decide, lw_k hk (by decide), lw_k hn (by decide)⟩ rfl rfl (Nat.le_of_ble_eq_true rfl) dL_law_995 ?_
  rintro v σ1 ⟨⟨r, rfl, c⟩, h2⟩; rw [h2]; clear h2
  have J : IM σ := I.M
  refine h_aload_n C 2 dL_law_998 rfl rfl ?_
  refine h_aload_n C 4 dL_law_999 rfl rfl ?_
  refine h_iload C 0 dL_law_1000 rfl ?_
  refine h_iconst C 1 dL_law_1002 (by decide) ?_
  refine h_iadd C dL_law_1003 ?_
  refine h_sld C S (lw_in hi (J := 1) (by decide)) dL_law_1004 ?_
  refine h_aload_n C 4 dL_law_1005 rfl rfl ?_
  refine h_iload C 0 dL_law_1006 rfl ?_
  refine h_iconst C 2 dL_law_1008 (by decide) ?_
  refine h_iadd C dL_law_1009 ?_
  refine h_sld C S (lw_in hi (J := 2) (by decide)) dL_law_1010 ?_
  refine h_callV C (m_X11_told J.1 J.2.2.2.1.1.1 J.2.2.2.1.1.2) caL_126 kX11 (ty_44 J.1) ⟨by decide, by decide, lw_k2 hk (by decide), lw_k2 hn (by decide)⟩ rfl rfl (Nat.le_of_ble_eq_true rfl) dL_law_1011 ?_
  rintro v σ2 ⟨⟨r', rfl, m⟩, h2⟩; rw [h2]; clear h2
  have E := (⟨e_told I c m, I⟩ : _ ∧ Inv σ)
  refine h_icmp_eq C 1432 dL_law_1014 (by decide) (fun _ => h_widen (lw_k3 (by decide)) (lw_k3 (by decide)) (nx _ E.2)) (fun q => absurd E.1 q)
set_option maxRecDepth 100000 in
set_option maxHeartbeats 4000000 in
theorem law_21 {p : Program} {l : Launch} {e : Env} {s : State} {m0 : MethodId} {args : Array Value} {below : List Frame} {meth : Method} {c0 : Code} {Q : State → Prop} {G : ha_G} {ret : Option FieldType} {b L : Nat} {xs : Nat → Int32} {σ : ha_St} {k n : Nat} {i : Int32} (C : hX p s m0 args meth c0 G cL_law RL 8 ret) (hth : hTh G s s.heap) (hl : l.stackTraces = false) (S : lwS s G b L xs) (I : Inv σ) (hi : lwI i L) (hk : k + 1 ≤ 601024) (hn : n + 60 ≤ 7293033) (nx : ∀ σ', Inv σ' → hW p l e room_1 s m0 args below meth c0 Q G 8 1432 [(4, .int i), (3, .ref (ad G 73)), (2, .ref (ad G 44)), (1, .ref (ad G 0)), (0, .ref b)] [] σ' (k + 1) (n + 60)) : hW p l e room_1 s m0 args below meth c0 Q G 8 1019 [(4, .int i), (3, .ref (ad G 73)), (2, .ref (ad G 44)), (1, .ref (ad G 0)), (0, .ref b)] [] σ k n := by
  refine h_aload_n C 3 dL_law_1019 rfl rfl ?_
  refine h_aload_n C 4 dL_law_1020 rfl rfl ?_
  refine h_iload C 0 dL_law_1021 rfl ?_
  refine h_iconst C 1 dL_law_1023 (by decide) ?_
  refine h_iadd C dL_law_1024 ?_
  refine h_sld C S (lw_in hi (J := 1) (by decide)) dL_law_1025 ?_
  refine h_aload_n C 4 dL_law_1026 rfl rfl ?_
  refine h_iload C 0 dL_law_1027 rfl ?_
  refine h_iconst C 2 dL_law_1029 (by decide) ?_
  refine h_iadd C dL_law_1030 ?_
  refine h_sld C S (lw_in hi (J := 2) (by decide)) dL_law_1031 ?_
  refine h_callV C (m_X10_point I.1 I.s32.1) caL_127 kX10 (ty_0 I.1) ⟨by decide, by decide, lw_k hk (by decide), lw_k hn (by decide)⟩ rfl rfl (Nat.le_of_ble_eq_true rfl) dL_law_1032 ?_
  rintro v σ1 ⟨r, rfl, c⟩
  have J : IM σ1 := im_point I c
  refine h_aload_n C 2 dL_law_1035 rfl rfl ?_
  refine h_aload_n C 4 dL_law_1036 rfl rfl ?_
  refine h_iload C 0 dL_law_1037 rfl ?_
  refine h_iconst C 1 dL_law_1039 (by decide) ?_
  refine h_iadd C dL_law_1040 ?_
  refine h_sld C S (lw_in hi (J := 1) (by decide)) dL_law_1041 ?_
  refine h_aload_n C 4 dL_law_1042 rfl rfl ?_
  refine h_iload C 0 dL_law_1043 rfl ?_
  refine h_iconst C 2 dL_law_1045 (by decide) ?_
  refine h_iadd C dL_law_1046 ?_
  refine h_sld C S (lw_in hi (J := 2) (by decide)) dL_law_1047 ?_
  refine h_callV C (m_X11_point J.1 J.2.2.2.2.1.1 J.2.2.2.2.1.2) caL_130 kX11 (ty_44 J.1) ⟨by decide, by decide, lw_k2 hk (by decide), lw_k2 hn (by decide)⟩ rfl rfl (Nat.le_of_ble_eq_true rfl) dL_law_1048 ?_
  rintro v σ2 ⟨r', rfl, m⟩
  have E := e_point I c m
  refine h_icmp_eq C 1432 dL_law_1051 (by decide) (fun _ => h_widen (lw_k3 (by decide)) (lw_k3 (by decide)) (nx _ E.2)) (fun q => absurd E.1.symm q)
set_option maxRecDepth 100000 in
set_option maxHeartbeats 4000000 in
theorem law_22 {p : Program} {l : Launch} {e : Env} {s : State} {m0 : MethodId} {args : Array Value} {below : List Frame} {meth : Method} {c0 : Code} {Q : State → Prop} {G : ha_G} {ret : Option FieldType} {b L : Nat} {xs : Nat → Int32} {σ : ha_St} {k n : Nat} {i : Int32} (C : hX p s m0 args meth c0 G cL_law RL 8 ret) (hth : hTh G s s.heap) (hl : l.stackTraces = false) (S : lwS s G b L xs) (I : Inv σ) (hi : lwI i L) (hk : k + 1 ≤ 601024) (hn : n + 60 ≤ 7293033) (nx : ∀ σ', Inv σ' → hW p l e room_1 s m0 args below meth c0 Q G 8 1432 [(4, .int i), (3, .ref (ad G 73)), (2, .ref (ad G 44)), (1, .ref (ad G 0)), (0, .ref b)] [] σ' (k + 1) (n + 60)) : hW p l e room_1 s m0 args below meth c0 Q G 8 1056 [(4, .int i), (3, .ref (ad G 73)), (2, .ref (ad G 44)), (1, .ref (ad G 0)), (0, .ref b)] [] σ k n := by
  refine h_aload_n C 3 dL_law_1056 rfl rfl ?_
  refine h_aload_n C 4 dL_law_1057 rfl rfl ?_
  refine h_iload C 0 dL_law_1058 rfl ?_
  refine h_iconst C 1 dL_law_1060 (by decide) ?_
  refine h_iadd C dL_law_1061 ?_
  refine h_sld C S (lw_in hi (J := 1) (by decide)) dL_law_1062 ?_
  refine h_callV C (m_X10_tool I.1) caL_131 kX10 (ty_0 I.1) ⟨by decide, by decide, lw_k hk (by decide), lw_k hn (by decide)⟩ rfl rfl (Nat.le_of_ble_eq_true rfl) dL_law_1063 ?_
  rintro v σ1 ⟨r, rfl, c⟩
  have J : IM σ1 := im_tool I c
  refine h_aload_n C 2 dL_law_1066 rfl rfl ?_
  refine h_aload_n C 4 dL_law_1067 rfl rfl ?_
  refine h_iload C 0 dL_law_1068 rfl ?_
  refine h_iconst C 1 dL_law_1070 (by decide) ?_
  refine h_iadd C dL_law_1071 ?_
  refine h_sld C S (lw_in hi (J := 1) (by decide)) dL_law_1072 ?_
  refine h_callV C (m_X11_tool J.1) caL_134 kX11 (ty_44 J.1) ⟨by decide, by decide, lw_k2 hk (by decide), lw_k2 hn (by decide)⟩ rfl rfl (Nat.le_of_ble_eq_true rfl) dL_law_1073 ?_
  rintro v σ2 ⟨r', rfl, m⟩
  have E := e_tool I c m
  refine h_icmp_eq C 1432 dL_law_1076 (by decide) (fun _ => h_widen (lw_k3 (by decide)) (lw_k3 (by decide)) (nx _ E.2)) (fun q => absurd E.1.symm q)
set_option maxRecDepth 100000 in
set_option maxHeartbeats 4000000 in
theorem law_23 {p : Program} {l : Launch} {e : Env} {s : State} {m0 : MethodId} {args : Array Value} {below : List Frame} {meth : Method} {c0 : Code} {Q : State → Prop} {G : ha_G} {ret : Option FieldType} {b L : Nat} {xs : Nat → Int32} {σ : ha_St} {k n : Nat} {i : Int32} (C : hX p s m0 args meth c0 G cL_law RL 8 ret) (hth : hTh G s s.heap) (hl : l.stackTraces = false) (S : lwS s G b L xs) (I : Inv σ) (hi : lwI i L) (hk : k + 1 ≤ 601024) (hn : n + 60 ≤ 7293033) (nx : ∀ σ', Inv σ' → hW p l e room_1 s m0 args below meth c0 Q G 8 1432 [(4, .int i), (3, .ref (ad G 73)), (2, .ref (ad G 44)), (1, .ref (ad G 0)), (0, .ref b)] [] σ' (k + 1) (n + 60)) : hW p l e room_1 s m0 args below meth c0 Q G 8 1081 [(4, .int i), (3, .ref (ad G 73)), (2, .ref (ad G 44)), (1, .ref (ad G 0)), (0, .ref b)] [] σ k n := by
  refine h_aload_n C 3 dL_law_1081 rfl rfl ?_
  refine h_aload_n C 4 dL_law_1082 rfl rfl ?_
  refine h_iload C 0 dL_law_1083 rfl ?_
  refine h_iconst C 1 dL_law_1085 (by decide) ?_
  refine h_iadd C dL_law_1086 ?_
  refine h_sld C S (lw_in hi (J := 1) (by decide)) dL_law_1087 ?_
  refine h_callV C (m_X10_meets I.1 I.2.2.2.1.P I.s32.1 I.s32.2) caL_135 kX10 (ty_0 I.1) ⟨by decide, by decide, lw_k hk (by decide), lw_k hn (by decide)⟩ rfl rfl (Nat.le_of_ble_eq_true rfl) dL_law_1088 ?_
  rintro v σ1 ⟨⟨r, rfl, c⟩, h2⟩; rw [h2]; clear h2
  have J : IM σ := I.M
  refine h_aload_n C 2 dL_law_1091 rfl rfl ?_
  refine h_aload_n C 4 dL_law_1092 rfl rfl ?_
  refine h_iload C 0 dL_law_1093 rfl ?_
  refine h_iconst C 1 dL_law_1095 (by decide) ?_
  refine h_iadd C dL_law_1096 ?_
  refine h_sld C S (lw_in hi (J := 1) (by decide)) dL_law_1097 ?_
  refine h_callV C (m_X11_meets J.1 J.2.1 J.2.2.2.2.1.1 J.2.2.2.2.1.2) caL_138 kX11 (ty_44 J.1) ⟨by decide, by decide, lw_k2 hk (by decide), lw_k2 hn (by decide)⟩ rfl rfl (Nat.le_of_ble_eq_true rfl) dL_law_1098 ?_
  rintro v σ2 ⟨⟨r', rfl, m⟩, h2⟩; rw [h2]; clear h2
  have E := (⟨e_meets I c m, I⟩ : _ ∧ Inv σ)
  refine h_icmp_eq C 1432 dL_law_1101 (by decide) (fun _ => h_widen (lw_k3 (by decide)) (lw_k3 (by decide)) (nx _ E.2)) (fun q => absurd E.1 q)
set_option maxRecDepth 100000 in
set_option maxHeartbeats 4000000 in
theorem law_24 {p : Program} {l : Launch} {e : Env} {s : State} {m0 : MethodId} {args : Array Value} {below : List Frame} {meth : Method} {c0 : Code} {Q : State → Prop} {G : ha_G} {ret : Option FieldType} {b L : Nat} {xs : Nat → Int32} {σ : ha_St} {k n : Nat} {i : Int32} (C : hX p s m0 args meth c0 G cL_law RL 8 ret) (hth : hTh G s s.heap) (hl : l.stackTraces = false) (S : lwS s G b L xs) (I : Inv σ) (hi : lwI i L) (hk : k + 1 ≤ 601024) (hn : n + 60 ≤ 7293033) (nx : ∀ σ', Inv σ' → hW p l e room_1 s m0 args below meth c0 Q G 8 1432 [(4, .int i), (3, .ref (ad G 73)), (2, .ref (ad G 44)), (1, .ref (ad G 0)), (0, .ref b)] [] σ' (k + 1) (n + 60)) : hW p l e room_1 s m0 args below meth c0 Q G 8 1106 [(4, .int i), (3, .ref (ad G 73)), (2, .ref (ad G 44)), (1, .ref (ad G 0)), (0, .ref b)] [] σ k n := by
  refine h_aload_n C 3 dL_law_1106 rfl rfl ?_
  refine h_callV C (m_X10_met I.1 I.2.2.2.1.P I.s32.1 I.s32.2) caL_139 kX10 (ty_0 I.1) ⟨by decide, by decide, lw_k hk (by decide), lw_k hn (by decide)⟩ rfl rfl (Nat.le_of_ble_eq_true rfl) dL_law_1107 ?_
  rintro v σ1 ⟨⟨r, rfl, c⟩, h2⟩; rw [h2]; clear h2
  have J : IM σ := I.M
  refine h_aload_n C 2 dL_law_1110 rfl rfl ?_
  refine h_callV C (m_X11_met J.1 J.2.1 J.2.2.2.2.1.1 J.2.2.2.2.1.2) caL_142 kX11 (ty_44 J.1) ⟨by decide, by decide, lw_k2 hk (by decide), lw_k2 hn (by decide)⟩ rfl rfl (Nat.le_of_ble_eq_true rfl) dL_law_1111 ?_
  rintro v σ2 ⟨⟨r', rfl, m⟩, h2⟩; rw [h2]; clear h2
  have E := (⟨e_met I c m, I⟩ : _ ∧ Inv σ)
  refine h_icmp_eq C 1432 dL_law_1114 (by decide) (fun _ => h_widen (lw_k3 (by decide)) (lw_k3 (by decide)) (nx _ E.2)) (fun q => absurd E.1 q)
set_option maxRecDepth 100000 in
set_option maxHeartbeats 4000000 in
theorem law_25 {p : Program} {l : Launch} {e : Env} {s : State} {m0 : MethodId} {args : Array Value} {below : List Frame} {meth : Method} {c0 : Code} {Q : State → Prop} {G : ha_G} {ret : Option FieldType} {b L : Nat} {xs : Nat → Int32} {σ : ha_St} {k n : Nat} {i : Int32} (C : hX p s m0 args meth c0 G cL_law RL 8 ret) (hth : hTh G s s.heap) (hl : l.stackTraces = false) (S : lwS s G b L xs) (I : Inv σ) (hi : lwI i L) (hk : k + 1 ≤ 601024) (hn : n + 60 ≤ 7293033) (nx : ∀ σ', Inv σ' → hW p l e room_1 s m0 args below meth c0 Q G 8 1432 [(4, .int i), (3, .ref (ad G 73)), (2, .ref (ad G 44)), (1, .ref (ad G 0)), (0, .ref b)] [] σ' (k + 1) (n + 60)) : hW p l e room_1 s m0 args below meth c0 Q G 8 1119 [(4, .int i), (3, .ref (ad G 73)), (2, .ref (ad G 44)), (1, .ref (ad G 0)), (0, .ref b)] [] σ k n := by
  refine h_aload_n C 3 dL_law_1119 rfl rfl ?_
  refine h_aload_n C 4 dL_law_1120 rfl rfl ?_
  refine h_iload C 0 dL_law_1121 rfl ?_
  refine h_iconst C 1 dL_law_1123 (by decide) ?_
  refine h_iadd C dL_law_1124 ?_
  refine h_sld C S (lw_in hi (J := 1) (by decide)) dL_law_1125 ?_
  refine h_callV C (m_X10_count I.1) caL_143 kX10 (ty_0 I.1) ⟨by decide, by decide, lw_k hk (by decide), lw_k hn (by decide)⟩ rfl rfl (Nat.le_of_ble_eq_true rfl) dL_law_1126 ?_
  rintro v σ1 ⟨rfl, h2⟩; rw [h2]; clear h2
  have J : IM σ := I.M
  refine h_aload_n C 2 dL_law_1129 rfl rfl ?_
  refine h_aload_n C 4 dL_law_1130 rfl rfl ?_
  refine h_iload C 0 dL_law_1131 rfl ?_
  refine h_iconst C 1 dL_law_1133 (by decide) ?_
  refine h_iadd C dL_law_1134 ?_
  refine h_sld C S (lw_in hi (J := 1) (by decide)) dL_law_1135 ?_
  refine h_callV C (m_X11_count J.1) caL_146 kX11 (ty_44 J.1) ⟨by decide, by decide, lw_k2 hk (by decide), lw_k2 hn (by decide)⟩ rfl rfl (Nat.le_of_ble_eq_true rfl) dL_law_1136 ?_
  rintro v σ2 ⟨rfl, h2⟩; rw [h2]; clear h2
  have E := (⟨e_count I (w := xs (i + 1).toNatClampNeg), I⟩ : _ ∧ Inv σ)
  refine h_icmp_eq C 1432 dL_law_1139 (by decide) (fun _ => h_widen (lw_k3 (by decide)) (lw_k3 (by decide)) (nx _ E.2)) (fun q => absurd E.1 q)
set_option maxRecDepth 100000 in
set_option maxHeartbeats 4000000 in
theorem law_26 {p : Program} {l : Launch} {e : Env} {s : State} {m0 : MethodId} {args : Array Value} {below : List Frame} {meth : Method} {c0 : Code} {Q : State → Prop} {G : ha_G} {ret : Option FieldType} {b L : Nat} {xs : Nat → Int32} {σ : ha_St} {k n : Nat} {i : Int32} (C : hX p s m0 args meth c0 G cL_law RL 8 ret) (hth : hTh G s s.heap) (hl : l.stackTraces = false) (S : lwS s G b L xs) (I : Inv σ) (hi : lwI i L) (hk : k + 1 ≤ 601024) (hn : n + 60 ≤ 7293033) (nx : ∀ σ', Inv σ' → hW p l e room_1 s m0 args below meth c0 Q G 8 1432 [(4, .int i), (3, .ref (ad G 73)), (2, .ref (ad G 44)), (1, .ref (ad G 0)), (0, .ref b)] [] σ' (k + 1) (n + 60)) : hW p l e room_1 s m0 args below meth c0 Q G 8 1144 [(4, .int i), (3, .ref (ad G 73)), (2, .ref (ad G 44)), (1, .ref (ad G 0)), (0, .ref b)] [] σ k n := by
  refine h_aload_n C 3 dL_law_1144 rfl rfl ?_
  refine h_aload_n C 4 dL_law_1145 rfl rfl ?_
  refine h_iload C 0 dL_law_1146 rfl ?_
  refine h_iconst C 1 dL_law_1148 (by decide) ?_
  refine h_iadd C dL_law_1149 ?_
  refine h_sld C S (lw_in hi (J := 1) (by decide)) dL_law_1150 ?_
  refine h_aload_n C 4 dL_law_1151 rfl rfl ?_
  refine h_iload C 0 dL_law_1152 rfl ?_
  refine h_iconst C 2 dL_law_1154 (by decide) ?_
  refine h_iadd C dL_law_1155 ?_
  refine h_sld C S (lw_in hi (J := 2) (by decide)) dL_law_1156 ?_
  refine h_aload_n C 4 dL_law_1157 rfl rfl ?_
  refine h_iload C 0 dL_law_1158 rfl ?_
  refine h_iconst C 3 dL_law_1160 (by decide) ?_
  refine h_iadd C dL_law_1161 ?_
  refine h_sld C S (lw_in hi (J := 3) (by decide)) dL_law_1162 ?_
  refine h_callV C (m_X10_keep I.1 I.2.2.2.1.P I.SH I.fresh I.dir I.s26.1 I.s26.2) caL_147 kX10 (ty_0 I.1) ⟨by decide, by decide, lw_k hk (by decide), lw_k hn (by decide)⟩ rfl rfl (Nat.le_of_ble_eq_true rfl) dL_law_1163 ?_
  rintro v σ1 ⟨r, rfl, c⟩
  have J : IM σ1 := im_keep I c
  refine h_aload_n C 2 dL_law_1166 rfl rfl ?_
  refine h_aload_n C 4 dL_law_1167 rfl rfl ?_
  refine h_iload C 0 dL_law_1168 rfl ?_
  refine h_iconst C 1 dL_law_1170 (by decide) ?_
  refine h_iadd C dL_law_1171 ?_
  refine h_sld C S (lw_in hi (J := 1) (by decide)) dL_law_1172 ?_
  refine h_aload_n C 4 dL_law_1173 rfl rfl ?_
  refine h_iload C 0 dL_law_1174 rfl ?_
  refine h_iconst C 2 dL_law_1176 (by decide) ?_
  refine h_iadd C dL_law_1177 ?_
  refine h_sld C S (lw_in hi (J := 2) (by decide)) dL_law_1178 ?_
  refine h_aload_n C 4 dL_law_1179 rfl rfl ?_
  refine h_iload C 0 dL_law_1180 rfl ?_
  refine h_iconst C 3 dL_law_1182 (by decide) ?_
  refine h_iadd C dL_law_1183 ?_
  refine h_sld C S (lw_in hi (J := 3) (by decide)) dL_law_1184 ?_
  refine h_callV C (m_X11_keep J.1 J.2.2.2.1.1.1 J.2.2.2.1.1.2 J.2.1 (mSt_PLN J.2.2.2.1)) caL_150 kX11 (ty_44 J.1) ⟨by decide, by decide, lw_k2 hk (by decide), lw_k2 hn (by decide)⟩ rfl rfl (Nat.le_of_ble_eq_true rfl) dL_law_1185 ?_
  rintro v σ2 ⟨r', rfl, m⟩
  have E := e_keep I c m
  refine h_icmp_eq C 1432 dL_law_1188 (by decide) (fun _ => h_widen (lw_k3 (by decide)) (lw_k3 (by decide)) (nx _ E.2)) (fun q => absurd E.1.symm q)
set_option maxRecDepth 100000 in
set_option maxHeartbeats 4000000 in
theorem law_27 {p : Program} {l : Launch} {e : Env} {s : State} {m0 : MethodId} {args : Array Value} {below : List Frame} {meth : Method} {c0 : Code} {Q : State → Prop} {G : ha_G} {ret : Option FieldType} {b L : Nat} {xs : Nat → Int32} {σ : ha_St} {k n : Nat} {i : Int32} (C : hX p s m0 args meth c0 G cL_law RL 8 ret) (hth : hTh G s s.heap) (hl : l.stackTraces = false) (S : lwS s G b L xs) (I : Inv σ) (hi : lwI i L) (hk : k + 1 ≤ 601024) (hn : n + 60 ≤ 7293033) (nx : ∀ σ', Inv σ' → hW p l e room_1 s m0 args below meth c0 Q G 8 1432 [(4, .int i), (3, .ref (ad G 73)), (2, .ref (ad G 44)), (1, .ref (ad G 0)), (0, .ref b)] [] σ' (k + 1) (n + 60)) : hW p l e room_1 s m0 args below meth c0 Q G 8 1193 [(4, .int i), (3, .ref (ad G 73)), (2, .ref (ad G 44)), (1, .ref (ad G 0)), (0, .ref b)] [] σ k n := by
  refine h_aload_n C 3 dL_law_1193 rfl rfl ?_
  refine h_aload_n C 4 dL_law_1194 rfl rfl ?_
  refine h_iload C 0 dL_law_1195 rfl ?_
  refine h_iconst C 1 dL_law_1197 (by decide) ?_
  refine h_iadd C dL_law_1198 ?_
  refine h_sld C S (lw_in hi (J := 1) (by decide)) dL_law_1199 ?_
  refine h_aload_n C 4 dL_law_1200 rfl rfl ?_
  refine h_iload C 0 dL_law_1201 rfl ?_
  refine h_iconst C 2 dL_law_1203 (by decide) ?_
  refine h_iadd C dL_law_1204 ?_
  refine h_sld C S (lw_in hi (J := 2) (by decide)) dL_law_1205 ?_
  refine h_aload_n C 4 dL_law_1206 rfl rfl ?_
  refine h_iload C 0 dL_law_1207 rfl ?_
  refine h_iconst C 3 dL_law_1209 (by decide) ?_
  refine h_iadd C dL_law_1210 ?_
  refine h_sld C S (lw_in hi (J := 3) (by decide)) dL_law_1211 ?_
  refine h_callV C (m_X10_make I.1 I.2.2.2.1.P I.SH) caL_151 kX10 (ty_0 I.1) ⟨by decide, by decide, lw_k hk (by decide), lw_k hn (by decide)⟩ rfl rfl (Nat.le_of_ble_eq_true rfl) dL_law_1212 ?_
  rintro v σ1 ⟨r, rfl, c⟩
  have J : IM σ1 := im_make I c
  refine h_aload_n C 2 dL_law_1215 rfl rfl ?_
  refine h_aload_n C 4 dL_law_1216 rfl rfl ?_
  refine h_iload C 0 dL_law_1217 rfl ?_
  refine h_iconst C 1 dL_law_1219 (by decide) ?_
  refine h_iadd C dL_law_1220 ?_
  refine h_sld C S (lw_in hi (J := 1) (by decide)) dL_law_1221 ?_
  refine h_aload_n C 4 dL_law_1222 rfl rfl ?_
  refine h_iload C 0 dL_law_1223 rfl ?_
  refine h_iconst C 2 dL_law_1225 (by decide) ?_
  refine h_iadd C dL_law_1226 ?_
  refine h_sld C S (lw_in hi (J := 2) (by decide)) dL_law_1227 ?_
  refine h_aload_n C 4 dL_law_1228 rfl rfl ?_
  refine h_iload C 0 dL_law_1229 rfl ?_
  refine h_iconst C 3 dL_law_1231 (by decide) ?_
  refine h_iadd C dL_law_1232 ?_
  refine h_sld C S (lw_in hi (J := 3) (by decide)) dL_law_1233 ?_
  refine h_callV C (m_X11_make J.1) caL_154 kX11 (ty_44 J.1) ⟨by decide, by decide, lw_k2 hk (by decide), lw_k2 hn (by decide)⟩ rfl rfl (Nat.le_of_ble_eq_true rfl) dL_law_1234 ?_
  rintro v σ2 ⟨r', rfl, m⟩
  have E := e_make I c m
  refine h_icmp_eq C 1432 dL_law_1237 (by decide) (fun _ => h_widen (lw_k3 (by decide)) (lw_k3 (by decide)) (nx _ E.2)) (fun q => absurd E.1.symm q)
set_option maxRecDepth 100000 in
set_option maxHeartbeats 4000000 in
theorem law_28 {p : Program} {l : Launch} {e : Env} {s : State} {m0 : MethodId} {args : Array Value} {below : List Frame} {meth : Method} {c0 : Code} {Q : State → Prop} {G : ha_G} {ret : Option FieldType} {b L : Nat} {xs : Nat → Int32} {σ : ha_St} {k n : Nat} {i : Int32} (C : hX p s m0 args meth c0 G cL_law RL 8 ret) (hth : hTh G s s.heap) (hl : l.stackTraces = false) (S : lwS s G b L xs) (I : Inv σ) (hi : lwI i L) (hk : k + 1 ≤ 601024) (hn : n + 60 ≤ 7293033) (nx : ∀ σ', Inv σ' → hW p l e room_1 s m0 args below meth c0 Q G 8 1432 [(4, .int i), (3, .ref (ad G 73)), (2, .ref (ad G 44)), (1, .ref (ad G 0)), (0, .ref b)] [] σ' (k + 1) (n + 60)) : hW p l e room_1 s m0 args below meth c0 Q G 8 1242 [(4, .int i), (3, .ref (ad G 73)), (2, .ref (ad G 44)), (1, .ref (ad G 0)), (0, .ref b)] [] σ k n := by
  refine h_aload_n C 3 dL_law_1242 rfl rfl ?_
  refine h_aload_n C 4 dL_law_1243 rfl rfl ?_
  refine h_iload C 0 dL_law_1244 rfl ?_
  refine h_iconst C 1 dL_law_1246 (by decide) ?_
  refine h_iadd C dL_law_1247 ?_
  refine h_sld C S (lw_in hi (J := 1) (by decide)) dL_law_1248 ?_
  refine h_aload_n C 4 dL_law_1249 rfl rfl ?_
  refine h_iload C 0 dL_law_1250 rfl ?_
  refine h_iconst C 2 dL_law_1252 (by decide) ?_
  refine h_iadd C dL_law_1253 ?_
  refine h_sld C S (lw_in hi (J := 2) (by decide)) dL_law_1254 ?_
  refine h_aload_n C 1 dL_law_1255 rfl rfl ?_
  refine h_callSW C hth (m_L_element hl I.1 I.2.2.2.1.P I.SH (fun x1 s1 c => (lawE_s (r := 0) (σ1 := sL s1 73 0 x1) (Or.inl ⟨rfl, x1, s1, c, rfl⟩)).1)) cwL_155 ⟨by decide, by decide, lw_k hk (by decide), lw_k hn (by decide)⟩ rfl rfl (Nat.le_of_ble_eq_true rfl) dL_law_1256 ?_
  rintro v σ1 ⟨r, rfl, c⟩
  have J : IM σ1 := (I.ag (lawE_s c)).M
  refine h_istore C [(5, .int r), (4, .int i), (3, .ref (ad G 73)), (2, .ref (ad G 44)), (1, .ref (ad G 0)), (0, .ref b)] dL_law_1259 (by decide) rfl ?_
  refine h_aload_n C 3 dL_law_1261 rfl rfl ?_
  refine h_aload_n C 5 dL_law_1262 rfl rfl ?_
  refine h_iload C 1 dL_law_1263 rfl ?_
  refine h_iconst C 1 dL_law_1265 (by decide) ?_
  refine h_iadd C dL_law_1266 ?_
  refine h_sld C S (lw_in hi (J := 1) (by decide)) dL_law_1267 ?_
  refine h_aload_n C 5 dL_law_1268 rfl rfl ?_
  refine h_iload C 1 dL_law_1269 rfl ?_
  refine h_iconst C 2 dL_law_1271 (by decide) ?_
  refine h_iadd C dL_law_1272 ?_
  refine h_sld C S (lw_in hi (J := 2) (by decide)) dL_law_1273 ?_
  refine h_callV C (m_X11_element J.1 J.2.2.2.2.2) caL_158 kX11 (ty_44 J.1) ⟨by decide, by decide, lw_k2 hk (by decide), lw_k2 hn (by decide)⟩ rfl rfl (Nat.le_of_ble_eq_true rfl) dL_law_1274 ?_
  rintro v σ2 ⟨x, rfl, m⟩
  have E := e_element I c m
  refine h_lstore C [(6, .long x), (5, .int r), (4, .int i), (3, .ref (ad G 73)), (2, .ref (ad G 44)), (1, .ref (ad G 0)), (0, .ref b)] dL_law_1277 (by decide) rfl ?_
  refine h_aload_n C 4 dL_law_1279 rfl rfl ?_
  refine h_callV C (m_X11_thrown E.2.2.1) caL_63 kX11 (ty_44 E.2.2.1) ⟨by decide, by decide, lw_k4 hk (by decide), lw_k4 hn (by decide)⟩ rfl rfl (Nat.le_of_ble_eq_true rfl) dL_law_1280 ?_
  rintro v σ3 ⟨rfl, h2⟩; rw [h2]; clear h2
  refine h_iload C 1 dL_law_1283 rfl ?_
  refine h_icmp_eq C 1290 dL_law_1285 (by decide) (fun _ => ?_) (fun q => absurd E.1 q)
  refine h_iload C 1 dL_law_1290 rfl ?_
  have fin : hW p l e room_1 s m0 args below meth c0 Q G 8 1306 [(6, .long x), (5, .int r), (4, .int i), (3, .ref (ad G 73)), (2, .ref (ad G 44)), (1, .ref (ad G 0)), (0, .ref b)] [] σ2 (k + 1) (n + 60) := by
    refine h_goto C 1432 dL_law_1306 (by decide) ?_
    refine h_sub [2, 3, 4, 5, 6] rfl ?_
    exact nx _ E.2.2
  refine h_widen (k' := k + 1) (n' := n + 60) (lw_k5 (by decide)) (lw_k5 (by decide)) ?_
  refine h_if_ne C 1306 dL_law_1292 (by decide) (fun _ => fin) (fun q => ?_)
  refine h_aload_n C 3 dL_law_1295 rfl rfl ?_
  refine h_iconst C 0 dL_law_1296 (by decide) ?_
  refine h_lald C (ty_73 E.2.2.1) (vp32 (N := 1) (by decide) (by decide) (by decide)) dL_law_1297 ?_
  refine h_lload C 0 dL_law_1298 rfl ?_
  refine h_lcmp C dL_law_1300 ?_
  refine h_if_eq C 1306 dL_law_1301 (by decide) (fun _ => fin) (fun w => absurd ?_ w)
  rw [tn_0, E.2.1 q]
  exact lg_self
set_option maxRecDepth 100000 in
set_option maxHeartbeats 4000000 in
theorem law_29 {p : Program} {l : Launch} {e : Env} {s : State} {m0 : MethodId} {args : Array Value} {below : List Frame} {meth : Method} {c0 : Code} {Q : State → Prop} {G : ha_G} {ret : Option FieldType} {b L : Nat} {xs : Nat → Int32} {σ : ha_St} {k n : Nat} {i : Int32} (C : hX p s m0 args meth c0 G cL_law RL 8 ret) (hth : hTh G s s.heap) (hl : l.stackTraces = false) (S : lwS s G b L xs) (I : Inv σ) (hi : lwI i L) (hk : k + 1 ≤ 601024) (hn : n + 60 ≤ 7293033) (nx : ∀ σ', Inv σ' → hW p l e room_1 s m0 args below meth c0 Q G 8 1432 [(4, .int i), (3, .ref (ad G 73)), (2, .ref (ad G 44)), (1, .ref (ad G 0)), (0, .ref b)] [] σ' (k + 1) (n + 60)) : hW p l e room_1 s m0 args below meth c0 Q G 8 1309 [(4, .int i), (3, .ref (ad G 73)), (2, .ref (ad G 44)), (1, .ref (ad G 0)), (0, .ref b)] [] σ k n := by
  refine h_aload_n C 3 dL_law_1309 rfl rfl ?_
  refine h_aload_n C 4 dL_law_1310 rfl rfl ?_
  refine h_iload C 0 dL_law_1311 rfl ?_
  refine h_iconst C 1 dL_law_1313 (by decide) ?_
  refine h_iadd C dL_law_1314 ?_
  refine h_sld C S (lw_in hi (J := 1) (by decide)) dL_law_1315 ?_
  refine h_aload_n C 4 dL_law_1316 rfl rfl ?_
  refine h_iload C 0 dL_law_1317 rfl ?_
  refine h_iconst C 2 dL_law_1319 (by decide) ?_
  refine h_iadd C dL_law_1320 ?_
  refine h_sld C S (lw_in hi (J := 2) (by decide)) dL_law_1321 ?_
  refine h_aload_n C 4 dL_law_1322 rfl rfl ?_
  refine h_iload C 0 dL_law_1323 rfl ?_
  refine h_iconst C 3 dL_law_1325 (by decide) ?_
  refine h_iadd C dL_law_1326 ?_
  refine h_sld C S (lw_in hi (J := 3) (by decide)) dL_law_1327 ?_
  refine h_aload_n C 4 dL_law_1328 rfl rfl ?_
  refine h_iload C 0 dL_law_1329 rfl ?_
  refine h_iconst C 4 dL_law_1331 (by decide) ?_
  refine h_iadd C dL_law_1332 ?_
  refine h_sld C S (lw_in hi (J := 4) (by decide)) dL_law_1333 ?_
  refine h_aload_n C 4 dL_law_1334 rfl rfl ?_
  refine h_iload C 0 dL_law_1335 rfl ?_
  refine h_iconst C 5 dL_law_1337 (by decide) ?_
  refine h_iadd C dL_law_1338 ?_
  refine h_sld C S (lw_in hi (J := 5) (by decide)) dL_law_1339 ?_
  refine h_callV C (m_X10_copy I.1 I.2.2.2.1.P I.SH) caL_159 kX10 (ty_0 I.1) ⟨by decide, by decide, lw_k hk (by decide), lw_k hn (by decide)⟩ rfl rfl (Nat.le_of_ble_eq_true rfl) dL_law_1340 ?_
  rintro v σ1 ⟨r, rfl, c⟩
  have J : IM σ1 := im_copy I c
  refine h_aload_n C 2 dL_law_1343 rfl rfl ?_
  refine h_aload_n C 4 dL_law_1344 rfl rfl ?_
  refine h_iload C 0 dL_law_1345 rfl ?_
  refine h_iconst C 1 dL_law_1347 (by decide) ?_
  refine h_iadd C dL_law_1348 ?_
  refine h_sld C S (lw_in hi (J := 1) (by decide)) dL_law_1349 ?_
  refine h_aload_n C 4 dL_law_1350 rfl rfl ?_
  refine h_iload C 0 dL_law_1351 rfl ?_
  refine h_iconst C 2 dL_law_1353 (by decide) ?_
  refine h_iadd C dL_law_1354 ?_
  refine h_sld C S (lw_in hi (J := 2) (by decide)) dL_law_1355 ?_
  refine h_aload_n C 4 dL_law_1356 rfl rfl ?_
  refine h_iload C 0 dL_law_1357 rfl ?_
  refine h_iconst C 3 dL_law_1359 (by decide) ?_
  refine h_iadd C dL_law_1360 ?_
  refine h_sld C S (lw_in hi (J := 3) (by decide)) dL_law_1361 ?_
  refine h_aload_n C 4 dL_law_1362 rfl rfl ?_
  refine h_iload C 0 dL_law_1363 rfl ?_
  refine h_iconst C 4 dL_law_1365 (by decide) ?_
  refine h_iadd C dL_law_1366 ?_
  refine h_sld C S (lw_in hi (J := 4) (by decide)) dL_law_1367 ?_
  refine h_aload_n C 4 dL_law_1368 rfl rfl ?_
  refine h_iload C 0 dL_law_1369 rfl ?_
  refine h_iconst C 5 dL_law_1371 (by decide) ?_
  refine h_iadd C dL_law_1372 ?_
  refine h_sld C S (lw_in hi (J := 5) (by decide)) dL_law_1373 ?_
  refine h_callV C (m_X11_copy J.1 J.2.2.2.2.2) caL_163 kX11 (ty_44 J.1) ⟨by decide, by decide, lw_k2 hk (by decide), lw_k2 hn (by decide)⟩ rfl rfl (Nat.le_of_ble_eq_true rfl) dL_law_1374 ?_
  rintro v σ2 ⟨r', rfl, m⟩
  have E := e_copy I c m
  refine h_icmp_eq C 1432 dL_law_1377 (by decide) (fun _ => h_widen (lw_k3 (by decide)) (lw_k3 (by decide)) (nx _ E.2)) (fun q => absurd E.1.symm q)
set_option maxRecDepth 100000 in
set_option maxHeartbeats 4000000 in
theorem law_30 {p : Program} {l : Launch} {e : Env} {s : State} {m0 : MethodId} {args : Array Value} {below : List Frame} {meth : Method} {c0 : Code} {Q : State → Prop} {G : ha_G} {ret : Option FieldType} {b L : Nat} {xs : Nat → Int32} {σ : ha_St} {k n : Nat} {i : Int32} (C : hX p s m0 args meth c0 G cL_law RL 8 ret) (hth : hTh G s s.heap) (hl : l.stackTraces = false) (S : lwS s G b L xs) (I : Inv σ) (hi : lwI i L) (hk : k + 1 ≤ 601024) (hn : n + 60 ≤ 7293033) (nx : ∀ σ', Inv σ' → hW p l e room_1 s m0 args below meth c0 Q G 8 1432 [(4, .int i), (3, .ref (ad G 73)), (2, .ref (ad G 44)), (1, .ref (ad G 0)), (0, .ref b)] [] σ' (k + 1) (n + 60)) : hW p l e room_1 s m0 args below meth c0 Q G 8 1382 [(4, .int i), (3, .ref (ad G 73)), (2, .ref (ad G 44)), (1, .ref (ad G 0)), (0, .ref b)] [] σ k n := by
  refine h_aload_n C 3 dL_law_1382 rfl rfl ?_
  refine h_aload_n C 4 dL_law_1383 rfl rfl ?_
  refine h_iload C 0 dL_law_1384 rfl ?_
  refine h_iconst C 1 dL_law_1386 (by decide) ?_
  refine h_iadd C dL_law_1387 ?_
  refine h_sld C S (lw_in hi (J := 1) (by decide)) dL_law_1388 ?_
  refine h_callV C (m_X10_weight I.1 I.2.2.2.1.P I.SH) caL_164 kX10 (ty_0 I.1) ⟨by decide, by decide, lw_k hk (by decide), lw_k hn (by decide)⟩ rfl rfl (Nat.le_of_ble_eq_true rfl) dL_law_1389 ?_
  rintro v σ1 ⟨rfl, h2⟩; rw [h2]; clear h2
  have J : IM σ := I.M
  refine h_aload_n C 2 dL_law_1392 rfl rfl ?_
  refine h_aload_n C 4 dL_law_1393 rfl rfl ?_
  refine h_iload C 0 dL_law_1394 rfl ?_
  refine h_iconst C 1 dL_law_1396 (by decide) ?_
  refine h_iadd C dL_law_1397 ?_
  refine h_sld C S (lw_in hi (J := 1) (by decide)) dL_law_1398 ?_
  refine h_callV C (m_X11_weight J.1) caL_167 kX11 (ty_44 J.1) ⟨by decide, by decide, lw_k2 hk (by decide), lw_k2 hn (by decide)⟩ rfl rfl (Nat.le_of_ble_eq_true rfl) dL_law_1399 ?_
  rintro v σ2 ⟨rfl, h2⟩; rw [h2]; clear h2
  have E := (⟨e_weight I (d := xs (i + 1).toNatClampNeg), I⟩ : _ ∧ Inv σ)
  refine h_icmp_eq C 1432 dL_law_1402 (by decide) (fun _ => h_widen (lw_k3 (by decide)) (lw_k3 (by decide)) (nx _ E.2)) (fun q => absurd E.1.symm q)
set_option maxRecDepth 100000 in
set_option maxHeartbeats 4000000 in
theorem law_31 {p : Program} {l : Launch} {e : Env} {s : State} {m0 : MethodId} {args : Array Value} {below : List Frame} {meth : Method} {c0 : Code} {Q : State → Prop} {G : ha_G} {ret : Option FieldType} {b L : Nat} {xs : Nat → Int32} {σ : ha_St} {k n : Nat} {i : Int32} (C : hX p s m0 args meth c0 G cL_law RL 8 ret) (hth : hTh G s s.heap) (hl : l.stackTraces = false) (S : lwS s G b L xs) (I : Inv σ) (hi : lwI i L) (hk : k + 1 ≤ 601024) (hn : n + 60 ≤ 7293033) (nx : ∀ σ', Inv σ' → hW p l e room_1 s m0 args below meth c0 Q G 8 1432 [(4, .int i), (3, .ref (ad G 73)), (2, .ref (ad G 44)), (1, .ref (ad G 0)), (0, .ref b)] [] σ' (k + 1) (n + 60)) : hW p l e room_1 s m0 args below meth c0 Q G 8 1407 [(4, .int i), (3, .ref (ad G 73)), (2, .ref (ad G 44)), (1, .ref (ad G 0)), (0, .ref b)] [] σ k n := by
  refine h_aload_n C 3 dL_law_1407 rfl rfl ?_
  refine h_aload_n C 4 dL_law_1408 rfl rfl ?_
  refine h_iload C 0 dL_law_1409 rfl ?_
  refine h_iconst C 1 dL_law_1411 (by decide) ?_
  refine h_iadd C dL_law_1412 ?_
  refine h_sld C S (lw_in hi (J := 1) (by decide)) dL_law_1413 ?_
  refine h_callVT C hth (m_X10_toss hl I.1 I.2.2.2.1.P I.SH) caL_168 kX10 (ty_0 I.1) ⟨by decide, by decide, lw_k hk (by decide), lw_k hn (by decide)⟩ rfl rfl (Nat.le_of_ble_eq_true rfl) dL_law_1414 ?_
  rintro v σ1 ⟨rfl, c⟩
  have J : IM σ1 := (I.ag (sagr_G c)).M
  refine h_aload_n C 2 dL_law_1417 rfl rfl ?_
  refine h_aload_n C 4 dL_law_1418 rfl rfl ?_
  refine h_iload C 0 dL_law_1419 rfl ?_
  refine h_iconst C 1 dL_law_1421 (by decide) ?_
  refine h_iadd C dL_law_1422 ?_
  refine h_sld C S (lw_in hi (J := 1) (by decide)) dL_law_1423 ?_
  refine h_callV C (m_X11_toss J.1) caL_171 kX11 (ty_44 J.1) ⟨by decide, by decide, lw_k2 hk (by decide), lw_k2 hn (by decide)⟩ rfl rfl (Nat.le_of_ble_eq_true rfl) dL_law_1424 ?_
  rintro v σ2 ⟨rfl, h2⟩; rw [h2]; clear h2
  have E := e_toss I c (d := xs (i + 1).toNatClampNeg)
  refine h_icmp_eq C 1432 dL_law_1427 (by decide) (fun _ => h_widen (lw_k3 (by decide)) (lw_k3 (by decide)) (nx _ E.2)) (fun q => absurd E.1.symm q)
