/-! ===== the law's loop ===== -/
theorem law_end {p : Program} {l : Launch} {e : Env} {s : State} {m0 : MethodId} {below : List Frame} {meth : Method} {c0 : Code} {G : ha_G} {b k n : Nat} {lv : List (Nat × Value)} {σ : ha_St} (C : hX p s m0 #[Value.ref b] meth c0 G cL_law RL 8 ret) (hG : G.2.1 = s.heap.size) (hk : k ≤ 601024) (hn : n ≤ 7293033) : hW p l e room_1 s m0 #[Value.ref b] below meth c0 (lw_Z below #[Value.ref b] s) G 8 1438 lv [] σ k n := by
  refine h_iconst C 1 dL_law_1438 (by decide) ?_
  intro H locs ls h1 h2 h3
  refine va_forget (fun q hq => ?_) ?_
  · have := h2.2.2 q hq
    unfold gA at this
    omega
  · exact W.widen hk hn (lw_ret C.1 C.2.1 C.2.2.2.2.2.2.2.2 C.2.2.2.2.2.2.2.1 dL_law_1439)
theorem and31 (x : Int32) : 0 ≤ (x &&& 31).toInt ∧ (x &&& 31).toInt < 32 := by
  have e : (x &&& 31).toInt = (x.toBitVec &&& 31#32).toInt := rfl
  have t : (x.toBitVec &&& 31#32).toNat < 32 := by
    rw [BitVec.toNat_and]
    exact Nat.lt_of_le_of_lt Nat.and_le_right (by decide)
  rw [e, BitVec.toInt_eq_toNat_of_lt (by omega)]
  omega
theorem oN_i {t : Nat} (h : t ≤ 4000) : (Int32.ofNat t).toInt = t := by
  rw [Int32.toInt_ofNat', show Int32.size = 4294967296 by rfl, Int.bmod_eq_of_le (by omega) (by omega)]
theorem oN_6 {t : Nat} (h : 6 * t ≤ 3072) : Int32.ofNat (6 * t) + Int32.ofInt 6 = Int32.ofNat (6 * (t + 1)) := by
  rw [← Int32.toInt_inj, Int32.toInt_add, oN_i (by omega), oN_i (by omega), show (Int32.ofInt 6).toInt = 6 by decide, Int.bmod_eq_of_le (by omega) (by omega)]
  omega
theorem lw_go {L t : Nat} (hL : L ≤ 3072) (ht : 6 * t ≤ L) (h : ¬ (Int32.ofNat L - 6 < Int32.ofNat (6 * t))) : lwI (Int32.ofNat (6 * t)) L := by
  rw [Int32.lt_iff_toInt_lt, Int32.toInt_sub, oN_i (by omega), oN_i (by omega), show (6 : Int32).toInt = 6 by decide, Int.bmod_eq_of_le (by omega) (by omega)] at h
  refine ⟨?_, ?_, hL⟩
  · rw [Int32.le_iff_toInt_le, oN_i (by omega), Int32.toInt_zero]; omega
  · rw [oN_i (by omega)]; omega
set_option maxRecDepth 100000 in
set_option maxHeartbeats 4000000 in
theorem law_loop {p : Program} {l : Launch} {e : Env} {s : State} {m0 : MethodId} {below : List Frame} {meth : Method} {c0 : Code} {G : ha_G} {b L : Nat} {xs : Nat → Int32} (C : hX p s m0 #[Value.ref b] meth c0 G cL_law RL 8 ret) (hth : hTh G s s.heap) (hl : l.stackTraces = false) (S : lwS s G b L xs) (hL : L ≤ 3072) (hG : G.2.1 = s.heap.size) : ∀ (f t : Nat) (σ : ha_St), L + 7 ≤ 6 * t + f → 6 * t ≤ L → Inv σ → hW p l e room_1 s m0 #[Value.ref b] below meth c0 (lw_Z below #[Value.ref b] s) G 8 23 [(4, .int (Int32.ofNat (6 * t))), (3, .ref (ad G 73)), (2, .ref (ad G 44)), (1, .ref (ad G 0)), (0, .ref b)] [] σ (74 + t) (12518 + 60 * t) := by
  intro f
  induction f with
  | zero => intro t σ h1 h2; omega
  | succ f ih =>
    intro t σ h1 h2 I
    refine h_iload C 0 dL_law_23 rfl ?_
    refine h_aload_n C 4 dL_law_25 rfl rfl ?_
    refine h_slen C S dL_law_26 ?_
    refine h_bipush C 6 dL_law_27 (by decide) ?_
    refine h_isub C dL_law_29 ?_
    refine h_icmp_gt C 1438 dL_law_30 (by decide) (fun _ => law_end C hG (by omega) (by omega)) (fun q => ?_)
    have hi := lw_go hL h2 q
    have h6 : 6 * (t + 1) ≤ L := by
      have := hi.2.1
      rw [oN_i (by omega)] at this
      omega
    have hk : (74 + t) + 1 ≤ 601024 := by omega
    have hn : (12518 + 60 * t) + 60 ≤ 7293033 := by omega
    have nx : ∀ σ', Inv σ' → hW p l e room_1 s m0 #[Value.ref b] below meth c0 (lw_Z below #[Value.ref b] s) G 8 1432 [(4, .int (Int32.ofNat (6 * t))), (3, .ref (ad G 73)), (2, .ref (ad G 44)), (1, .ref (ad G 0)), (0, .ref b)] [] σ' ((74 + t) + 1) ((12518 + 60 * t) + 60) := by
      intro σ' I'
      refine h_iinc C [(4, .int (Int32.ofNat (6 * (t + 1)))), (3, .ref (ad G 73)), (2, .ref (ad G 44)), (1, .ref (ad G 0)), (0, .ref b)] 0 (Int32.ofNat (6 * (t + 1))) dL_law_1432 rfl (oN_6 (by omega)) (by decide) rfl ?_
      refine h_goto C 23 dL_law_1435 (by decide) ?_
      have g := ih (t + 1) σ' (by omega) h6 I'
      rw [show 74 + (t + 1) = 74 + t + 1 by omega, show 12518 + 60 * (t + 1) = 12518 + 60 * t + 60 by omega] at g
      exact g
    have h0 : vp_in (Int32.ofNat (6 * t)) L := by
      have := lw_in hi (J := 0) (by decide)
      rw [Int32.add_zero] at this
      exact this
    refine h_aload_n C 4 dL_law_33 rfl rfl ?_
    refine h_iload C 0 dL_law_34 rfl ?_
    refine h_sld C S h0 dL_law_36 ?_
    refine h_bipush C 31 dL_law_37 (by decide) ?_
    refine h_iand C dL_law_39 ?_
    have a31 := and31 (xs (Int32.ofNat (6 * t)).toNatClampNeg)
    generalize xs (Int32.ofNat (6 * t)).toNatClampNeg &&& 31 = w at a31
    by_cases q_0 : w = 0
    · refine h_tableIn C 184 dL_law_40 (by rw [q_0]; decide) (by rw [q_0]; decide) (by rw [q_0]; rfl) (by decide) ?_
      exact law_0 C hth hl S I hi hk hn nx
    by_cases q_1 : w = 1
    · refine h_tableIn C 245 dL_law_40 (by rw [q_1]; decide) (by rw [q_1]; decide) (by rw [q_1]; rfl) (by decide) ?_
      exact law_1 C hth hl S I hi hk hn nx
    by_cases q_2 : w = 2
    · refine h_tableIn C 258 dL_law_40 (by rw [q_2]; decide) (by rw [q_2]; decide) (by rw [q_2]; rfl) (by decide) ?_
      exact law_2 C hth hl S I hi hk hn nx
    by_cases q_3 : w = 3
    · refine h_tableIn C 307 dL_law_40 (by rw [q_3]; decide) (by rw [q_3]; decide) (by rw [q_3]; rfl) (by decide) ?_
      exact law_3 C hth hl S I hi hk hn nx
    by_cases q_4 : w = 4
    · refine h_tableIn C 344 dL_law_40 (by rw [q_4]; decide) (by rw [q_4]; decide) (by rw [q_4]; rfl) (by decide) ?_
      exact law_4 C hth hl S I hi hk hn nx
    by_cases q_5 : w = 5
    · refine h_tableIn C 381 dL_law_40 (by rw [q_5]; decide) (by rw [q_5]; decide) (by rw [q_5]; rfl) (by decide) ?_
      exact law_5 C hth hl S I hi hk hn nx
    by_cases q_6 : w = 6
    · refine h_tableIn C 460 dL_law_40 (by rw [q_6]; decide) (by rw [q_6]; decide) (by rw [q_6]; rfl) (by decide) ?_
      exact law_6 C hth hl S I hi hk hn nx
    by_cases q_7 : w = 7
    · refine h_tableIn C 473 dL_law_40 (by rw [q_7]; decide) (by rw [q_7]; decide) (by rw [q_7]; rfl) (by decide) ?_
      exact law_7 C hth hl S I hi hk hn nx
    by_cases q_8 : w = 8
    · refine h_tableIn C 528 dL_law_40 (by rw [q_8]; decide) (by rw [q_8]; decide) (by rw [q_8]; rfl) (by decide) ?_
      exact law_8 C hth hl S I hi hk hn nx
    by_cases q_9 : w = 9
    · refine h_tableIn C 541 dL_law_40 (by rw [q_9]; decide) (by rw [q_9]; decide) (by rw [q_9]; rfl) (by decide) ?_
      exact law_9 C hth hl S I hi hk hn nx
    by_cases q_10 : w = 10
    · refine h_tableIn C 566 dL_law_40 (by rw [q_10]; decide) (by rw [q_10]; decide) (by rw [q_10]; rfl) (by decide) ?_
      exact law_10 C hth hl S I hi hk hn nx
    by_cases q_11 : w = 11
    · refine h_tableIn C 627 dL_law_40 (by rw [q_11]; decide) (by rw [q_11]; decide) (by rw [q_11]; rfl) (by decide) ?_
      exact law_11 C hth hl S I hi hk hn nx
    by_cases q_12 : w = 12
    · refine h_tableIn C 676 dL_law_40 (by rw [q_12]; decide) (by rw [q_12]; decide) (by rw [q_12]; rfl) (by decide) ?_
      exact law_12 C hth hl S I hi hk hn nx
    by_cases q_13 : w = 13
    · refine h_tableIn C 689 dL_law_40 (by rw [q_13]; decide) (by rw [q_13]; decide) (by rw [q_13]; rfl) (by decide) ?_
      exact law_13 C hth hl S I hi hk hn nx
    by_cases q_14 : w = 14
    · refine h_tableIn C 714 dL_law_40 (by rw [q_14]; decide) (by rw [q_14]; decide) (by rw [q_14]; rfl) (by decide) ?_
      exact law_14 C hth hl S I hi hk hn nx
    by_cases q_15 : w = 15
    · refine h_tableIn C 727 dL_law_40 (by rw [q_15]; decide) (by rw [q_15]; decide) (by rw [q_15]; rfl) (by decide) ?_
      exact law_15 C hth hl S I hi hk hn nx
    by_cases q_16 : w = 16
    · refine h_tableIn C 846 dL_law_40 (by rw [q_16]; decide) (by rw [q_16]; decide) (by rw [q_16]; rfl) (by decide) ?_
      exact law_16 C hth hl S I hi hk hn nx
    by_cases q_17 : w = 17
    · refine h_tableIn C 895 dL_law_40 (by rw [q_17]; decide) (by rw [q_17]; decide) (by rw [q_17]; rfl) (by decide) ?_
      exact law_17 C hth hl S I hi hk hn nx
    by_cases q_18 : w = 18
    · refine h_tableIn C 932 dL_law_40 (by rw [q_18]; decide) (by rw [q_18]; decide) (by rw [q_18]; rfl) (by decide) ?_
      exact law_18 C hth hl S I hi hk hn nx
    by_cases q_19 : w = 19
    · refine h_tableIn C 945 dL_law_40 (by rw [q_19]; decide) (by rw [q_19]; decide) (by rw [q_19]; rfl) (by decide) ?_
      exact law_19 C hth hl S I hi hk hn nx
    by_cases q_20 : w = 20
    · refine h_tableIn C 982 dL_law_40 (by rw [q_20]; decide) (by rw [q_20]; decide) (by rw [q_20]; rfl) (by decide) ?_
      exact law_20 C hth hl S I hi hk hn nx
    by_cases q_21 : w = 21
    · refine h_tableIn C 1019 dL_law_40 (by rw [q_21]; decide) (by rw [q_21]; decide) (by rw [q_21]; rfl) (by decide) ?_
      exact law_21 C hth hl S I hi hk hn nx
    by_cases q_22 : w = 22
    · refine h_tableIn C 1056 dL_law_40 (by rw [q_22]; decide) (by rw [q_22]; decide) (by rw [q_22]; rfl) (by decide) ?_
      exact law_22 C hth hl S I hi hk hn nx
    by_cases q_23 : w = 23
    · refine h_tableIn C 1081 dL_law_40 (by rw [q_23]; decide) (by rw [q_23]; decide) (by rw [q_23]; rfl) (by decide) ?_
      exact law_23 C hth hl S I hi hk hn nx
    by_cases q_24 : w = 24
    · refine h_tableIn C 1106 dL_law_40 (by rw [q_24]; decide) (by rw [q_24]; decide) (by rw [q_24]; rfl) (by decide) ?_
      exact law_24 C hth hl S I hi hk hn nx
    by_cases q_25 : w = 25
    · refine h_tableIn C 1119 dL_law_40 (by rw [q_25]; decide) (by rw [q_25]; decide) (by rw [q_25]; rfl) (by decide) ?_
      exact law_25 C hth hl S I hi hk hn nx
    by_cases q_26 : w = 26
    · refine h_tableIn C 1144 dL_law_40 (by rw [q_26]; decide) (by rw [q_26]; decide) (by rw [q_26]; rfl) (by decide) ?_
      exact law_26 C hth hl S I hi hk hn nx
    by_cases q_27 : w = 27
    · refine h_tableIn C 1193 dL_law_40 (by rw [q_27]; decide) (by rw [q_27]; decide) (by rw [q_27]; rfl) (by decide) ?_
      exact law_27 C hth hl S I hi hk hn nx
    by_cases q_28 : w = 28
    · refine h_tableIn C 1242 dL_law_40 (by rw [q_28]; decide) (by rw [q_28]; decide) (by rw [q_28]; rfl) (by decide) ?_
      exact law_28 C hth hl S I hi hk hn nx
    by_cases q_29 : w = 29
    · refine h_tableIn C 1309 dL_law_40 (by rw [q_29]; decide) (by rw [q_29]; decide) (by rw [q_29]; rfl) (by decide) ?_
      exact law_29 C hth hl S I hi hk hn nx
    by_cases q_30 : w = 30
    · refine h_tableIn C 1382 dL_law_40 (by rw [q_30]; decide) (by rw [q_30]; decide) (by rw [q_30]; rfl) (by decide) ?_
      exact law_30 C hth hl S I hi hk hn nx
    by_cases q_31 : w = 31
    · refine h_tableIn C 1407 dL_law_40 (by rw [q_31]; decide) (by rw [q_31]; decide) (by rw [q_31]; rfl) (by decide) ?_
      exact law_31 C hth hl S I hi hk hn nx
    exfalso
    have e_0 := lv_neT q_0 (a := 0) (by decide)
    have e_1 := lv_neT q_1 (a := 1) (by decide)
    have e_2 := lv_neT q_2 (a := 2) (by decide)
    have e_3 := lv_neT q_3 (a := 3) (by decide)
    have e_4 := lv_neT q_4 (a := 4) (by decide)
    have e_5 := lv_neT q_5 (a := 5) (by decide)
    have e_6 := lv_neT q_6 (a := 6) (by decide)
    have e_7 := lv_neT q_7 (a := 7) (by decide)
    have e_8 := lv_neT q_8 (a := 8) (by decide)
    have e_9 := lv_neT q_9 (a := 9) (by decide)
    have e_10 := lv_neT q_10 (a := 10) (by decide)
    have e_11 := lv_neT q_11 (a := 11) (by decide)
    have e_12 := lv_neT q_12 (a := 12) (by decide)
    have e_13 := lv_neT q_13 (a := 13) (by decide)
    have e_14 := lv_neT q_14 (a := 14) (by decide)
    have e_15 := lv_neT q_15 (a := 15) (by decide)
    have e_16 := lv_neT q_16 (a := 16) (by decide)
    have e_17 := lv_neT q_17 (a := 17) (by decide)
    have e_18 := lv_neT q_18 (a := 18) (by decide)
    have e_19 := lv_neT q_19 (a := 19) (by decide)
    have e_20 := lv_neT q_20 (a := 20) (by decide)
    have e_21 := lv_neT q_21 (a := 21) (by decide)
    have e_22 := lv_neT q_22 (a := 22) (by decide)
    have e_23 := lv_neT q_23 (a := 23) (by decide)
    have e_24 := lv_neT q_24 (a := 24) (by decide)
    have e_25 := lv_neT q_25 (a := 25) (by decide)
    have e_26 := lv_neT q_26 (a := 26) (by decide)
    have e_27 := lv_neT q_27 (a := 27) (by decide)
    have e_28 := lv_neT q_28 (a := 28) (by decide)
    have e_29 := lv_neT q_29 (a := 29) (by decide)
    have e_30 := lv_neT q_30 (a := 30) (by decide)
    have e_31 := lv_neT q_31 (a := 31) (by decide)
    omega
