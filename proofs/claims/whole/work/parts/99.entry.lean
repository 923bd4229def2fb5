/-! ===== the law's entry ===== -/
theorem str_of {s : State} {args : Array Value} {own tx : String} {k N : Nat} (hi : (Cond.instantiable own N).before args s = true) (h : (Cond.stringRef own k tx).before args s = true) : ∃ sa, vk_R own k tx sa s := by
  obtain ⟨cC, kC, hfc, -⟩ := Cond.instantiable_spec hi
  obtain ⟨kk, cf, i, a, -, -, -, -, -, he⟩ := Cond.stringRef_spec hfc h
  exact ⟨a, vk_R.of h he⟩
set_option maxRecDepth 100000 in
theorem th_of {G : ha_G} {s : State} {args : Array Value} (hts : ∀ w ∈ lw_tbl, w.before args s = true) (hgv : (Jvm.Cond.and given_1 narrow_1).before args s = true) (hA : ∀ a : Nat, a < s.heap.size → ¬ gA G a) : hTh G s s.heap := by
  have hs := flat_of_before _ hgv
  have hg := gt_of hts
  refine ⟨vx_Zqof (hts _ (by decide +kernel)) (hts _ (by decide +kernel)) (hs _ (by decide +kernel)) hA, vx_Zqof (hts _ (by decide +kernel)) (hts _ (by decide +kernel)) (hs _ (by decide +kernel)) hA, ?_, dt_of hts, va_Nc.of (hs _ (by decide +kernel))⟩
  have iP : (Cond.instantiable "HeldPart$Pad" 9).before args s = true := hg _ isX5
  have iH : (Cond.instantiable "HeldPart" 11).before args s = true := hg _ isX10
  unfold strT
  simp only [List.forall_mem_cons]
  refine ⟨str_of iP (hts _ (by decide +kernel)), str_of iH (hts _ (by decide +kernel)), str_of iH (hts _ (by decide +kernel)), str_of iH (hts _ (by decide +kernel)), str_of iH (hts _ (by decide +kernel)), str_of iH (hts _ (by decide +kernel)), str_of iH (hts _ (by decide +kernel)), str_of iH (hts _ (by decide +kernel)), str_of iH (hts _ (by decide +kernel)), ?_⟩
  intro q h
  exact absurd h List.not_mem_nil
set_option maxRecDepth 100000 in
theorem whole_start {p : Program} {e : Env} {s : State} {m : MethodId} {below : List Frame} {meth : Method} {c : Code} (l : Launch) (hst : l.stackTraces = false) {b L : Nat} {xs : Nat → Int32} (hL : L ≤ 3072) (C0 : lw_At p s m meth c b L xs) : W p l e room_1 s m #[Value.ref b] below meth c s.heap [] 0 0 (lw_Z below #[Value.ref b] s) (entryFrame m ([Value.ref b] : List Value).toArray 8) := by
  obtain ⟨hx, hb, hr, hml, hown, hts, hX0, hbl, hlocks, hgv⟩ := id C0
  have hg := gt_of hts
  obtain ⟨dC, dI, hKn⟩ := kn_all hg
  have aP : va_AO "HeldPart$Pin" s := va_AO.of (hts _ (by decide +kernel))
  have aS : va_AO "HeldPart$Shelf" s := va_AO.of (hts _ (by decide +kernel))
  obtain ⟨a0, b0, d0'⟩ := ar_of (ty := .int) (hg _ acI) (fun _ h => h)
  obtain ⟨a1, b1, d1'⟩ := ar_of (ty := .long) (hg _ acL) (fun _ h => h)
  obtain ⟨a2, b2, d2'⟩ := ar_of (ty := .byte) (hg _ acB) (fun _ h => h)
  obtain ⟨a3, b3, d3'⟩ := ao_of aP
  obtain ⟨a4, b4, d4'⟩ := ao_of aS
  have hA0 : ∀ a : Nat, a < s.heap.size → ¬ (fun q : Nat => s.heap.size ≤ q) a := fun a h q => absurd h (Nat.not_lt.mpr q)
  obtain ⟨tX, zX, rX⟩ := dir_X (A := fun q : Nat => s.heap.size ≤ q) hgv (hts _ (by decide +kernel)) (hg _ iniX10) hA0
  obtain ⟨tY, zY, rY⟩ := dir_Y (A := fun q : Nat => s.heap.size ≤ q) hgv (hts _ (by decide +kernel)) (hg _ iniX10) hA0
  obtain ⟨G, eG⟩ : ∃ G : ha_G, G = ((dC, dI), s.heap.size, (fun k => if k = 0 then a0 else if k = 1 then a1 else if k = 2 then a2 else if k = 3 then a3 else a4), tX, tY) := ⟨_, rfl⟩
  have eA : gA G = fun q : Nat => s.heap.size ≤ q := by rw [eG]; rfl
  have hK0 : hK G s s.heap := by
    refine ⟨⟨?_, ?_⟩, nt_of hts, aP, aS, ?_, ?_, ?_, ?_⟩
    · rw [eG]; exact hKn
    · intro k q hk
      rw [eG] at hk
      match k, hk with
      | 0, hk => cases hk; exact ⟨b0, d0'⟩
      | 1, hk => cases hk; exact ⟨b1, d1'⟩
      | 2, hk => cases hk; exact ⟨b2, d2'⟩
      | 3, hk => cases hk; exact ⟨b3, d3'⟩
      | 4, hk => cases hk; exact ⟨b4, d4'⟩
      | k + 5, hk => simp [hTy] at hk
    · rw [eA, eG]; exact zX
    · rw [eA, eG]; exact rX
    · rw [eA, eG]; exact zY
    · rw [eA, eG]; exact rY
  have hG : G.2.1 = s.heap.size := by rw [eG]
  have C : hX p s m #[Value.ref b] meth c G cL_law RL 8 ret := ⟨hx, hb, hml, hown, hg, hK0, by rw [hG]; exact Nat.le_refl _, hlocks, hr⟩
  have S : lwS s G b L xs := ⟨hX0, hbl, by rw [eA]; exact Nat.not_le.mpr hbl⟩
  have hl := lv_entry ([.ref b]) (n := 8) (Nat.le_of_ble_eq_true rfl)
  rw [lg_entry_eq]
  generalize (lg_sl ([.ref b]) ++ List.replicate (8 - (lg_sl ([.ref b])).length) Slot.unset).toArray = ls at hl ⊢
  have hl : lv_has ls 8 [(0, .ref b)] := hl
  refine law_enter C (th_of hts hgv (by rw [eA]; exact hA0)) hst S hL hG s.heap [] ls ⟨?_, fun a ha => absurd rfl ha⟩ va_S.rf hl
  rw [hG]
  rfl
