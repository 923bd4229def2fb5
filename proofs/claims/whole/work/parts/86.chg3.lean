/-! ===== calls that change: a new contact ===== -/
theorem dg_nn {t n : Int32} (hn : n = 10 ∨ n = 100) (h : 0 ≤ t) : 0 ≤ t - t / n * n ∧ 0 ≤ t / n := by
  have h0 : 0 ≤ t.toInt := by have := Int32.le_iff_toInt_le.mp h; rw [Int32.toInt_zero] at this; exact this
  have hl := Int32.toInt_lt t
  have nn : n.toInt = 10 ∨ n.toInt = 100 := by rcases hn with rfl | rfl <;> decide
  have e : (t / n).toInt = t.toInt / n.toInt := by
    rw [Int32.toInt_div, Int.tdiv_eq_ediv_of_nonneg h0]
    rcases nn with q | q <;> rw [q] <;> exact Int.bmod_eq_of_le (by omega) (by omega)
  have e2 : (t / n * n).toInt = t.toInt / n.toInt * n.toInt := by
    rw [Int32.toInt_mul, e]
    rcases nn with q | q <;> rw [q] <;> exact Int.bmod_eq_of_le (by omega) (by omega)
  have e3 : (t - t / n * n).toInt = t.toInt - t.toInt / n.toInt * n.toInt := by
    rw [Int32.toInt_sub, e2]
    rcases nn with q | q <;> rw [q] <;> exact Int.bmod_eq_of_le (by omega) (by omega)
  rw [Int32.le_iff_toInt_le, Int32.le_iff_toInt_le, e3, e, Int32.toInt_zero]
  rcases nn with q | q <;> rw [q] <;> omega
theorem okC_M {told x y more : Int32} : okC told x y more ↔ okM told x y more := by
  unfold okC okM
  rw [Ne, plcV_n, Ne, inV_iff, Decidable.not_not, Decidable.not_not]
  unfold hgV
  constructor
  · rintro ⟨h1, h2, h3, h4, h5, h6, h7⟩
    exact ⟨h1, by grind, h5.2, h3, h2, by grind, h6⟩
  · rintro ⟨h1, h2, h3, h4, h5, h6, h7⟩
    exact ⟨h1, h5, h4, by grind, ⟨(dg_nn (Or.inl rfl) h1).1, h3⟩, h7, by grind⟩
theorem k4 {k : Int32} (h0 : 0 ≤ k) (h1 : k ≤ 3) : k = 0 ∨ k = 1 ∨ k = 2 ∨ k = 3 := by grind
theorem tag_k {k : Int32} (h0 : 0 ≤ k) (h1 : k ≤ 3) : pT (mkTag k) ∧ kindOf (mkTag k) = k ∧ ((mkTag k = 6 ∨ mkTag k = 1) ↔ (k = 1 ∨ k = 3)) := by
  rcases k4 h0 h1 with rfl | rfl | rfl | rfl <;> unfold pT <;> decide
theorem pin_v {s : ha_St} {g : Nat} {d x y b : Int32} : gI (pinIni s g d x y b) g 0 = d ∧ gI (pinIni s g d x y b) g 1 = dirX d.toNatClampNeg ∧ gI (pinIni s g d x y b) g 2 = dirY d.toNatClampNeg ∧ gI (pinIni s g d x y b) g 3 = b ∧ gI (pinIni s g d x y b) g 5 = x ∧ gI (pinIni s g d x y b) g 6 = y ∧ gI (pinIni s g d x y b) g 7 = 0 := by
  unfold pinIni
  refine ⟨?_, ?_, ?_, ?_, ?_, ?_, ?_⟩
  · rw [sI_o (by omega), sI_o (by omega), sI_o (by omega), sI_o (by omega), sI_o (by omega), sI_y]
  · rw [sI_o (by omega), sI_o (by omega), sI_o (by omega), sI_o (by omega), sI_y]
  · rw [sI_o (by omega), sI_o (by omega), sI_o (by omega), sI_y]
  · rw [sI_y]
  · rw [sI_o (by omega), sI_o (by omega), sI_y]
  · rw [sI_o (by omega), sI_y]
  · rw [sI_o (by omega), sI_o (by omega), sI_o (by omega), sI_o (by omega), sI_o (by omega), sI_o (by omega), sI_y]
theorem mk_v {σ : ha_St} {kind d x y g b : Int32} : gI (mkPin σ kind d x y g b) (gn σ) 0 = d ∧ gI (mkPin σ kind d x y g b) (gn σ) 1 = dirX d.toNatClampNeg ∧ gI (mkPin σ kind d x y g b) (gn σ) 2 = dirY d.toNatClampNeg ∧ gI (mkPin σ kind d x y g b) (gn σ) 3 = b ∧ gI (mkPin σ kind d x y g b) (gn σ) 5 = x ∧ gI (mkPin σ kind d x y g b) (gn σ) 6 = y ∧ gI (mkPin σ kind d x y g b) (gn σ) 7 = 0 ∧ ((kind = 1 ∨ kind = 3) → gI (mkPin σ kind d x y g b) (gn σ) 8 = g) := by
  have p := pin_v (s := sN σ (mkTag kind) 0) (g := gn σ) (d := d) (x := x) (y := y) (b := b)
  unfold mkPin
  by_cases q : kind = 1 ∨ kind = 3
  · rw [if_pos q, sI_o (by omega), sI_o (by omega), sI_o (by omega), sI_o (by omega), sI_o (by omega), sI_o (by omega), sI_o (by omega), sI_y]
    exact ⟨p.1, p.2.1, p.2.2.1, p.2.2.2.1, p.2.2.2.2.1, p.2.2.2.2.2.1, p.2.2.2.2.2.2, fun _ => rfl⟩
  · rw [if_neg q]
    exact ⟨p.1, p.2.1, p.2.2.1, p.2.2.2.1, p.2.2.2.2.1, p.2.2.2.2.2.1, p.2.2.2.2.2.2, fun z => absurd z q⟩
theorem rf_1 : ∀ q ∈ rfA, q.1 ≠ 1 ∧ q.1 < 74 := by decide
theorem s10 {v : Int32} (h0 : 0 ≤ v) (h1 : v < 10) : 0 ≤ v + 1 ∧ v + 1 ≤ 10 := by grind
set_option maxHeartbeats 4000000 in
theorem e_contact {σ σ1 σ2 : ha_St} {told x y more r r' : Int32} (h : Inv σ) (c : contQ σ told x y more r σ1) (k : mContQ σ1 told x y more r' σ2) : r' = r ∧ Inv σ2 := by
  have hC := h.2.2.2.1
  rcases c with ⟨c1, c2, c3⟩ | ⟨c1, c2, c3, c4⟩ | ⟨c1, c2, c3, c4⟩
  · rw [okC_M] at c1
    rcases k with ⟨-, k2, k3⟩ | ⟨k1, -⟩ | ⟨k1, -⟩
    · exact ⟨k2.trans c2.symm, by rw [k3, c3]; exact h⟩
    · exact absurd k1 c1
    · exact absurd k1 c1
  · rw [okC_M] at c1
    rw [c4] at k
    rw [hC.1] at c2
    rcases k with ⟨k1, -⟩ | ⟨-, -, k2, k3⟩ | ⟨-, k1, -⟩
    · exact absurd c1 k1
    · exact ⟨k2.trans c3.symm, by rw [k3]; exact h⟩
    · exact absurd (by have := hC.2.1.2; grind) k1
  · have ok := c1
    rw [okC_M] at c1
    have g74 := h.1.2.2
    have o1 : ∀ z j, z ≠ gn σ → ¬ (z = 0 ∧ j = 1) → ¬ (z = 0 ∧ j = 5) → gI σ1 z j = gI σ z j := fun z j p q w => by
      rw [c4]; unfold contF; rw [sI_o w, sI_o q, gI_sR, sI_o (by omega), mkPin_I p]
    have e1 : gI σ1 44 1 = gI σ 44 1 := o1 44 1 (by omega) (by omega) (by omega)
    rw [hC.1] at c2 c3
    unfold mContQ at k
    rw [e1] at k
    rcases k with ⟨k1, -⟩ | ⟨-, k1, -⟩ | ⟨-, -, k2, k3⟩
    · exact absurd c1 k1
    · rw [k1] at c2; exact absurd c2 (by decide)
    · refine ⟨k2.trans c3.symm, ?_⟩
      have ts := tn_succ hC.2.1.1 c2
      have nl : nC σ < 10 := by
        have := tn_lt hC.2.1.1 c2
        rw [show (10 : Int32).toNatClampNeg = 10 by decide] at this
        exact this
      have ee : σ2 = sI (sI (sI (sI (sI (sI (sI (sI σ1 45 (nC σ) (told / 10)) 46 (nC σ) (told - told / 10 * 10)) 47 (nC σ) x) 48 (nC σ) y) 49 (nC σ) (if hgV (told / 10) = 0 then 0 else more / 100)) 50 (nC σ) (more - more / 100 * 100)) 51 (nC σ) 0) 44 1 (gI σ 44 1 + 1) := by
        rw [k3]; unfold mCont; rw [e1]; rfl
      have oo : ∀ z j, z ≠ gn σ → ¬ (z = 0 ∧ j = 1) → ¬ (z = 0 ∧ j = 5) → ¬ (z = 44 ∧ j = 1) → ¬ (45 ≤ z ∧ z ≤ 51 ∧ j = nC σ) → gI σ2 z j = gI σ z j := fun z j p q w u v => by
        rw [ee, sI_o u, sI_o (by omega), sI_o (by omega), sI_o (by omega), sI_o (by omega), sI_o (by omega), sI_o (by omega), sI_o (by omega)]
        exact o1 z j p q w
      have og : ∀ j, gI σ2 (gn σ) j = gI σ1 (gn σ) j := fun j => by
        rw [ee, sI_o (by omega), sI_o (by omega), sI_o (by omega), sI_o (by omega), sI_o (by omega), sI_o (by omega), sI_o (by omega), sI_o (by omega)]
      have hT1 : gT σ1 = gT (sN σ (mkTag (told / 10)) 0) := by rw [c4]; unfold contF; exact mkPin_T
      have hT2 : gT σ2 = gT (sN σ (mkTag (told / 10)) 0) := by rw [ee]; exact hT1
      have hn2 : gn σ2 = gn σ + 1 := by rw [ee]; show gn σ1 = _; rw [c4]; unfold contF; exact mkPin_n
      have hR2 : ∀ z j, z ≠ gn σ → gR σ2 z j = if z = 1 ∧ j = nC σ then some (gn σ) else gR σ z j := fun z j p => by
        rw [ee]
        show gR σ1 z j = _
        rw [c4]
        unfold contF
        show gR (sR _ 1 (gI σ 0 1).toNatClampNeg (some (gn σ))) z j = _
        rw [gR_sR, hC.1]
        show (if z = 1 ∧ j = nC σ then some (gn σ) else gR (mkPin _ _ _ _ _ _ _) z j) = _
        rw [mkPin_R, gR_sN, if_neg p]
      have hTo : ∀ z, z ≠ gn σ → gT σ2 z = gT σ z := fun z p => by rw [hT2, gT_sN, if_neg p]
      have fr : ∀ z, (gT σ z).1 ≠ 0 → z ≠ gn σ := fun z hz => Nat.ne_of_lt (h.2.1 z hz)
      have g44 : gI σ2 44 1 = gI σ 44 1 + 1 := by rw [ee, sI_y]
      have en : nC σ2 = nC σ + 1 := by unfold nC; rw [g44, ts]
      have cf : ∀ i a, i < nC σ → gR σ 1 i = some a → (gT σ a).1 ≠ 0 := fun i a hi ha => by
        obtain ⟨a', a1, t, t1, t2, -⟩ := hC.2.2.1 i hi
        cases a1.symm.trans ha
        rw [t1]; exact pT_nz t2
      obtain ⟨q1, q2, q3, q4, q5, q6, q7⟩ := ok
      have kk := (dg_nn (Or.inl rfl) q1).2
      have tk := tag_k kk q4
      have mv := mk_v (σ := σ) (kind := told / 10) (d := told - told / 10 * 10) (x := x) (y := y) (g := more / 100) (b := more - more / 100 * 100)
      have gg : ∀ j, j ≠ 4 → gI σ2 (gn σ) j = gI (mkPin σ (told / 10) (told - told / 10 * 10) x y (more / 100) (more - more / 100 * 100)) (gn σ) j := fun j p => by
        rw [og, c4]; unfold contF; rw [sI_o (by omega), sI_o (by omega), gI_sR, sI_o (by omega)]
      have g4 : gI σ2 (gn σ) 4 = gI σ 0 1 := by
        rw [og, c4]; unfold contF; rw [sI_o (by omega), sI_o (by omega), gI_sR, sI_y]
      have m45 : gI σ2 45 (nC σ) = told / 10 := by rw [ee, sI_o (by omega), sI_o (by omega), sI_o (by omega), sI_o (by omega), sI_o (by omega), sI_o (by omega), sI_o (by omega), sI_y]
      have m46 : gI σ2 46 (nC σ) = told - told / 10 * 10 := by rw [ee, sI_o (by omega), sI_o (by omega), sI_o (by omega), sI_o (by omega), sI_o (by omega), sI_o (by omega), sI_y]
      have m47 : gI σ2 47 (nC σ) = x := by rw [ee, sI_o (by omega), sI_o (by omega), sI_o (by omega), sI_o (by omega), sI_o (by omega), sI_y]
      have m48 : gI σ2 48 (nC σ) = y := by rw [ee, sI_o (by omega), sI_o (by omega), sI_o (by omega), sI_o (by omega), sI_y]
      have m49 : gI σ2 49 (nC σ) = if hgV (told / 10) = 0 then 0 else more / 100 := by rw [ee, sI_o (by omega), sI_o (by omega), sI_o (by omega), sI_y]
      have m50 : gI σ2 50 (nC σ) = more - more / 100 * 100 := by rw [ee, sI_o (by omega), sI_o (by omega), sI_y]
      have m51 : gI σ2 51 (nC σ) = 0 := by rw [ee, sI_o (by omega), sI_y]
      have hY2 : LY σ2 := by
        have l := h.1
        unfold LY at *
        refine ⟨fun a ha => by rw [hTo a (by omega)]; exact l.1 a ha, fun q hq => ?_, by rw [hn2]; omega⟩
        have rn := rf_1 q hq
        rw [hR2 _ _ (by omega), if_neg (fun z => rn.1 z.1)]
        exact l.2.1 q hq
      refine Inv.ct h hY2 (fun z hz => ?_) (fun z j nd => ?_) ⟨?_, ?_, fun i hi => ?_, fun i j a hi hj => ?_⟩ ?_ ?_
      · rw [hn2]
        by_cases e : z = gn σ
        · omega
        · rw [hTo z e] at hz
          have := h.2.1 z hz
          omega
      · unfold dCt at nd
        exact oo z j (by omega) (by omega) (by omega) (by omega) (by omega)
      · rw [g44, ee, sI_o (by omega), sI_o (by omega), sI_o (by omega), sI_o (by omega), sI_o (by omega), sI_o (by omega), sI_o (by omega), sI_o (by omega), c4]
        unfold contF
        rw [sI_o (by omega), sI_y, hC.1]
      · unfold MN
        rw [g44]
        exact s10 hC.2.1.1 c2
      · rw [en] at hi
        by_cases e : i = nC σ
        · refine ⟨gn σ, by rw [hR2 1 i (by omega), if_pos ⟨rfl, e⟩], mkTag (told / 10), ?_, tk.1, g74, ?_⟩
          · rw [hT2, gT_sN, if_pos rfl]
          · rw [e, m45, m46, m47, m48, m49, m50, m51, gg 0 (by omega), gg 1 (by omega), gg 2 (by omega), gg 3 (by omega), g4, gg 5 (by omega), gg 6 (by omega), gg 7 (by omega), mv.1, mv.2.1, mv.2.2.1, mv.2.2.2.1, mv.2.2.2.2.1, mv.2.2.2.2.2.1, mv.2.2.2.2.2.2.1]
            refine ⟨tk.2.1, rfl, q5, rfl, rfl, rfl, ?_, rfl, rfl, rfl, ?_, q3, ?_, ⟨by decide, by decide⟩⟩
            · rw [hC.1]; exact (nI_tn hC.2.1.1).symm
            · unfold gripOf hgV
              by_cases w : told / 10 = 1 ∨ told / 10 = 3
              · rw [if_pos (tk.2.2.mpr w), if_pos w, if_neg (by decide), gg 8 (by omega), mv.2.2.2.2.2.2.2 w]
              · rw [if_neg (mt tk.2.2.mp w), if_neg w, if_pos rfl]
            · unfold hgV
              by_cases w : told / 10 = 1 ∨ told / 10 = 3
              · rw [if_pos w, if_neg (by decide)]
                exact ⟨(dg_nn (Or.inr rfl) q2).2, q6.2⟩
              · rw [if_neg w, if_pos rfl]
                exact ⟨by decide, by decide⟩
        · obtain ⟨a, a1, a2⟩ := hC.2.2.1 i (by omega)
          have na := fr a (cf i a (by omega) a1)
          refine ⟨a, by rw [hR2 1 i (by omega), if_neg (by omega)]; exact a1, a2.at' (hTo a na) (funext fun j => ?_) (fun z p q => oo z i (by omega) (by omega) (by omega) (by omega) (by omega))⟩
          obtain ⟨t, -, -, h74, -⟩ := a2
          exact oo a j na (by omega) (by omega) (by omega) (by omega)
      · rw [en] at hi hj
        rw [hR2 1 i (by omega), hR2 1 j (by omega)]
        by_cases ei : i = nC σ
        · rw [if_pos ⟨rfl, ei⟩]
          by_cases ej : j = nC σ
          · exact fun _ _ => ei.trans ej.symm
          · rw [if_neg (by omega)]
            intro p q
            cases p
            exact absurd rfl (fr _ (cf j _ (by omega) q))
        · rw [if_neg (by omega)]
          by_cases ej : j = nC σ
          · rw [if_pos ⟨rfl, ej⟩]
            intro p q
            cases q
            exact absurd rfl (fr _ (cf i _ (by omega) p))
          · rw [if_neg (by omega)]
            exact hC.2.2.2 i j a (by omega) (by omega)
      · refine RS.ct h.2.2.2.2.2.2.2.1 (fun z hz => hTo z (fr z hz)) (fun z hz => funext fun j => by rw [hR2 _ _ (by omega), if_neg (by omega)]) (fun b nz q j hj => ?_) (fun z j p q => oo z j (by omega) (by omega) (by omega) (by omega) (by omega)) (fun z p nz q => funext fun j => oo z j (fr z nz) (by omega) (by omega) (by omega) (by omega))
        rw [en] at hj
        rw [hR2 _ _ (by omega)]
        by_cases e : j = nC σ
        · rw [if_pos ⟨rfl, e⟩]
          intro z
          cases z
          exact absurd rfl (fr _ nz)
        · rw [if_neg (by omega)]
          exact q j (by omega)
      · intro q
        rw [ee, sI_o (by omega), sI_o (by omega), sI_o (by omega), sI_o (by omega), sI_o (by omega), sI_o (by omega), sI_o (by omega), sI_o (by omega), c4] at q
        unfold contF at q
        rw [sI_y] at q
        exact absurd q (by decide)
