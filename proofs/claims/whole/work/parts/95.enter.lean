/-! ===== the law's first instructions ===== -/
set_option maxRecDepth 100000 in
set_option maxHeartbeats 4000000 in
theorem law_enter {p : Program} {l : Launch} {e : Env} {s : State} {m0 : MethodId} {below : List Frame} {meth : Method} {c0 : Code} {G : ha_G} {b L : Nat} {xs : Nat → Int32} (C : hX p s m0 #[Value.ref b] meth c0 G cL_law RL 8 ret) (hth : hTh G s s.heap) (hl : l.stackTraces = false) (S : lwS s G b L xs) (hL : L ≤ 3072) (hG : G.2.1 = s.heap.size) : hW p l e room_1 s m0 #[Value.ref b] below meth c0 (lw_Z below #[Value.ref b] s) G 8 0 [(0, .ref b)] [] s00 0 0 := by
  refine h_new C kX10 clL_8 isX10 iniX10 dfX10 (by decide) (by decide) dL_law_0 ?_
  refine h_dup C dL_law_3 rfl ?_
  refine h_callI C (m_X10_init sN_T (Nat.lt_succ_self _)) caL_29 ⟨by decide, by decide, by decide, by decide⟩ rfl rfl (Nat.le_of_ble_eq_true rfl) dL_law_4 ?_
  rintro v σ1 ⟨rfl, h2⟩
  rw [show heldI (sN s00 (10 + 1) 0) (gn s00) = s01 from rfl] at h2
  rw [h2]; clear h2
  show hW _ _ _ _ _ _ _ _ _ _ _ _ _ 7 [(0, .ref b)] [.ref (ad G 0)] s01 (0 + 1 + 43) (0 + 11 + 4750)
  refine h_astore_n C [(1, .ref (ad G 0)), (0, .ref b)] dL_law_7 rfl (by decide) rfl ?_
  refine h_new C kX11 clL_30 isX11 iniX11 dfX11 (by decide) (by decide) dL_law_8 ?_
  refine h_dup C dL_law_11 rfl ?_
  rw [s01_n]
  have hT : gT (sN s01 (11 + 1) 0) 44 = (12, 0) := by rw [gT_sN, s01_n, if_pos rfl]
  have ha : 44 < gn (sN s01 (11 + 1) 0) := by rw [gn_sN, s01_n]; omega
  refine h_callI C (m_X11_init hT ha) caL_32 ⟨by decide, by decide, by decide, by decide⟩ rfl rfl (Nat.le_of_ble_eq_true rfl) dL_law_12 ?_
  rintro v σ1 ⟨rfl, h2⟩
  rw [show modI (sN s01 (11 + 1) 0) 44 = s02 from rfl] at h2
  rw [h2]; clear h2
  show hW _ _ _ _ _ _ _ _ _ _ _ _ _ 15 [(1, .ref (ad G 0)), (0, .ref b)] [.ref (ad G 44)] s02 (0 + 1 + 43 + 1 + 28) (0 + 11 + 4750 + 39 + 7717)
  refine h_astore_n C [(2, .ref (ad G 44)), (1, .ref (ad G 0)), (0, .ref b)] dL_law_15 rfl (by decide) rfl ?_
  refine h_iconst C 1 dL_law_16 (by decide) ?_
  refine h_newaL C (N := 1) acL (by decide) (by decide) (by decide) (by decide) (by decide) dL_law_17 ?_
  rw [s02_n]
  refine h_astore_n C [(3, .ref (ad G 73)), (2, .ref (ad G 44)), (1, .ref (ad G 0)), (0, .ref b)] dL_law_19 rfl (by decide) rfl ?_
  refine h_iconst C 0 dL_law_20 (by decide) ?_
  refine h_istore C [(4, .int 0), (3, .ref (ad G 73)), (2, .ref (ad G 44)), (1, .ref (ad G 0)), (0, .ref b)] dL_law_21 (by decide) rfl ?_
  intro H locs ls h1 h2 h3
  have I : Inv s03 := s03_Inv (fun a q => (h1.2 a q).1)
  exact law_loop C hth hl S hL hG (L + 7) 0 s03 (by omega) (by omega) I H locs ls h1 h2 h3
