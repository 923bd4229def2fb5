/-! ===== the row of set-ups written ===== -/
def rowsP (W : Int32 → Int32 → Int32) (μ : Nat → Int32) (m : Nat) (s : ha_St) : Prop := ∀ j, j < m → ∃ d q, gPath W μ j d ∧ gsf W μ d q ∧ gI s 30 j = q ∧ gI s 31 j = W d q &&& (d ^^^ (-1))
theorem frW.tr {σ σ1 σ2 : ha_St} (h : frW σ σ1) (g : frW σ1 σ2) : frW σ σ2 := ⟨g.1.trans h.1, g.2.1.trans h.2.1, g.2.2.1.trans h.2.2.1, g.2.2.2.1.trans h.2.2.2.1, fun a h1 h2 => (g.2.2.2.2 a h1 h2).trans (h.2.2.2.2 a h1 h2)⟩
theorem frW_AFT {σ s : ha_St} (h : frW σ s) : AFT s = AFT σ := by rw [AFT_G, AFT_G, h.2.2.2.2 27 (by omega) (by omega), h.2.2.2.2 28 (by omega) (by omega), h.2.2.2.2 26 (by omega) (by omega)]
theorem frW_LB {σ s : ha_St} (h : frW σ s) : LB s = LB σ := by
  funext d
  unfold LB
  congr 1
  funext k x
  unfold lbS
  rw [frW_AFT h, h.2.2.2.2 29 (by omega) (by omega)]
theorem WR_sp {σ u : ha_St} {n : Nat} {μ ρ : Nat → Int32} (hS : stOK (gI σ 27) (gI σ 28) n) (hn : (gI σ 26 2).toNatClampNeg = n) (hT : gfT (GW (gI σ 27) (gI σ 28) n) (gAl n) μ)
    (cl : ∀ e, e < 2 ^ n - 1 → ρ e = 1 → ∀ k, k < 6 → ρ (AFT σ (Int32.ofNat e) (Int32.ofNat k)).toNatClampNeg = 1) (h0 : ρ 0 = 1) (hg : tgI σ μ ρ (2 ^ n - 1) 0 u) : ∀ (i : Nat) (d : Int32) (t : ha_St), i ≤ 12 → WR u (gAl n) i d t →
    frW u t ∧ gPath (GW (gI σ 27) (gI σ 28) n) μ i d ∧ (0 ≤ d ∧ d ≤ gAl n) ∧ ρ d.toNatClampNeg = 1 ∧ μ d.toNatClampNeg + Int32.ofNat i = μ 0 ∧ rowsP (GW (gI σ 27) (gI σ 28) n) μ i t
  | 0, d, t, _, h => by
    obtain ⟨e1, e2⟩ := h
    rw [e1, e2]
    refine ⟨frW.rf, rfl, ⟨by decide, (gAl_tn n hS.1).1.1⟩, by rw [tn_0]; exact h0, ?_, fun j hj => by omega⟩
    rw [tn_0, show Int32.ofNat 0 = 0 from rfl]
    grind
  | i + 1, d', t', hi, h => by
    obtain ⟨d, s, side, h1, hne, hon, e1, e2⟩ := h
    obtain ⟨fr, gp, hb, hr, hm, hro⟩ := WR_sp hS hn hT cl h0 hg i d s (by omega) h1
    have eA : AFT s = GW (gI σ 27) (gI σ 28) n := by rw [frW_AFT fr, frT_AFT hg.1, AFT_G, hn]
    have eA' : AFT σ = GW (gI σ 27) (gI σ 28) n := by rw [AFT_G, hn]
    have hlt : d < gAl n := by grind
    have hl := (lt_al hS.1 hb.1).mp hlt
    have ed : Int32.ofNat d.toNatClampNeg = d := nI_tn hb.1
    have L := LB_mu hS hn hT hg.1 cl (show d.toNatClampNeg < 2 ^ n - 1 by omega) hr (fun x _ q2 => (hg.2 x q2).1 (by omega))
    rw [ed] at L
    have cls : ∀ r : Int32, 0 ≤ r → r < 6 → ρ (GW (gI σ 27) (gI σ 28) n d r).toNatClampNeg = 1 := by
      intro r r0 r1
      have l : r.toNatClampNeg < 6 := by
        have := tn_lt r0 r1
        rw [show (6 : Int32).toNatClampNeg = 6 by decide] at this
        exact this
      have := cl d.toNatClampNeg (by omega) hr r.toNatClampNeg l
      rw [ed, nI_tn r0, eA'] at this
      exact this
    have good : ∀ r : Int32, 0 ≤ r → r < 6 → (onGood s d r ↔ gG (GW (gI σ 27) (gI σ 28) n) μ d r) := by
      intro r r0 r1
      have b := GW_b (s := r) hS hb.1 hb.2
      have bn := (in_al hS.1 b.2.2).mp b.2.1
      unfold onGood gG
      rw [eA, frW_LB fr, L, fr.2.2.2.2 29 (by omega) (by omega), (hg.2 _ (show (GW (gI σ 27) (gI σ 28) n d r).toNatClampNeg ≤ 2 ^ n - 1 by omega)).1 (Nat.zero_le _), if_pos (cls r r0 r1)]
      constructor
      · rintro ⟨z1, -, z3⟩
        exact ⟨fun y => by rw [y] at z1; exact absurd z1 Int32.lt_irrefl, by rw [← z3]; grind⟩
      · rintro ⟨z1, z2⟩
        exact ⟨by have := b.1; grind, Int32.lt_of_le_of_lt b.2.1 (gAl_tn n hS.1).1.2, by rw [← z2]; grind⟩
    have hq : gsf (GW (gI σ 27) (gI σ 28) n) μ d side := by
      rcases hon with ⟨r0, r1, r2, r3⟩ | ⟨-, r3⟩
      · exact ⟨⟨r0, r1⟩, (good side r0 r1).mp r2, fun x x0 x1 y => r3 x x0 x1 ((good x x0 (Int32.lt_trans x1 r1)).mpr y)⟩
      · obtain ⟨x, x0, x1, x2⟩ := (mu_ok hS hT hb.1 hb.2).2.2 hlt
        exact absurd ((good x x0.1 x0.2).mpr ⟨x1, x2⟩) (r3 x x0.1 x0.2)
    rw [eA] at e1
    have b := GW_b (s := side) hS hb.1 hb.2
    have fr' : frW u t' := by rw [e2]; exact fr.st
    refine ⟨fr', ⟨d, side, gp, hq, e1⟩, by rw [e1]; exact ⟨b.2.2, b.2.1⟩, by rw [e1]; exact cls side hq.1.1 hq.1.2, ?_, fun j hj => ?_⟩
    · rw [e1, ← (i32s i (by omega)).1]
      have := hq.2.1.2
      rw [← hm, ← this]
      grind
    · by_cases q : j = i
      · refine ⟨d, side, by rw [q]; exact gp, hq, ?_, ?_⟩
        · rw [e2, q, gI_sI, if_neg (fun z => by omega), gI_sI, if_pos ⟨rfl, rfl⟩]
        · rw [e2, q, gI_sI, if_pos ⟨rfl, rfl⟩, e1]
      · obtain ⟨dd, qq, a1, a2, a3, a4⟩ := hro j (by omega)
        refine ⟨dd, qq, a1, a2, ?_, ?_⟩
        · rw [e2, gI_sI, if_neg (fun z => by omega), gI_sI, if_neg (fun z => q z.2)]; exact a3
        · rw [e2, gI_sI, if_neg (fun z => q z.2), gI_sI, if_neg (fun z => by omega)]; exact a4
/-- what the class keeps of the plan -/
def PV (σ : ha_St) : Prop := gI σ 26 7 ≠ 0 → ∀ μ, gfT (GW (gI σ 27) (gI σ 28) (gI σ 26 2).toNatClampNeg) (gAl (gI σ 26 2).toNatClampNeg) μ → gI σ 26 6 = μ 0 ∧ rowsP (GW (gI σ 27) (gI σ 28) (gI σ 26 2).toNatClampNeg) μ (μ 0).toNatClampNeg σ
/-- only the plan's own reckoning has changed -/
def frP (σ σ' : ha_St) : Prop := gT σ' = gT σ ∧ gR σ' = gR σ ∧ gn σ' = gn σ ∧ gL σ' = gL σ ∧ ∀ a j, ¬ (29 ≤ a ∧ a ≤ 31) → ¬ (a = 26 ∧ 6 ≤ j) → gI σ' a j = gI σ a j
theorem frP.rf {σ : ha_St} : frP σ σ := ⟨rfl, rfl, rfl, rfl, fun _ _ _ _ => rfl⟩
theorem frP.tr {σ σ1 σ2 : ha_St} (h : frP σ σ1) (g : frP σ1 σ2) : frP σ σ2 := ⟨g.1.trans h.1, g.2.1.trans h.2.1, g.2.2.1.trans h.2.2.1, g.2.2.2.1.trans h.2.2.2.1, fun a j h1 h2 => (g.2.2.2.2 a j h1 h2).trans (h.2.2.2.2 a j h1 h2)⟩
theorem frP_T {σ σ' : ha_St} (h : frT σ σ') : frP σ σ' := ⟨h.1, h.2.1, h.2.2.1, h.2.2.2.1, fun a j h1 _ => by rw [h.2.2.2.2 a (by omega)]⟩
theorem frP_W {σ σ' : ha_St} (h : frW σ σ') : frP σ σ' := ⟨h.1, h.2.1, h.2.2.1, h.2.2.2.1, fun a j h1 _ => by rw [h.2.2.2.2 a (by omega) (by omega)]⟩
theorem frP_sI {σ : ha_St} {j : Nat} {v : Int32} (h : 6 ≤ j) : frP σ (sI σ 26 j v) := ⟨rfl, rfl, rfl, rfl, fun a i _ h2 => by rw [gI_sI, if_neg (fun q => h2 ⟨q.1, by omega⟩)]⟩
theorem frP.a {σ σ' : ha_St} (h : frP σ σ') {a : Nat} (h1 : ¬ (29 ≤ a ∧ a ≤ 31)) (h2 : a ≠ 26) : gI σ' a = gI σ a := funext fun j => h.2.2.2.2 a j h1 (fun q => h2 q.1)
def cSt (σ : ha_St) : Prop := (0 ≤ gI σ 26 2 ∧ gI σ 26 2 ≤ 12) ∧ stOK (gI σ 27) (gI σ 28) (gI σ 26 2).toNatClampNeg
theorem few_PV {σ σ' : ha_St} (hS : cSt σ) (hV : PV σ) (h : fewQ σ σ') : frP σ σ' ∧ gI σ' 26 7 ≠ 0 ∧ PV σ' := by
  rcases h with ⟨q, rfl⟩ | ⟨q, s, hr, e, hf⟩
  · exact ⟨frP.rf, q, hV⟩
  · have hal : allOf σ = gAl (gI σ 26 2).toNatClampNeg := by unfold allOf gAl; rw [nI_tn hS.1.1]
    obtain ⟨n', d, t, hn', hw, hend, es, ft⟩ := hr
    have fp : frP σ σ' := by rw [e, es]; exact (((frP_T hf).tr (frP_W ft)).tr (frP_sI (by omega))).tr (frP_sI (by omega))
    have g2 : gI σ' 26 2 = gI σ 26 2 := fp.2.2.2.2 26 2 (by omega) (by omega)
    have g27 : gI σ' 27 = gI σ 27 := fp.a (by omega) (by omega)
    have g28 : gI σ' 28 = gI σ 28 := fp.a (by omega) (by omega)
    refine ⟨fp, by rw [e, gI_sI, if_pos ⟨rfl, rfl⟩]; decide, fun _ μ hT => ?_⟩
    rw [g2, g27, g28] at hT ⊢
    have mk := mark_sp hS.2 rfl
    rw [← hal] at mk
    have ct := count_sp hS.2 rfl hT mk
    rw [← hal] at ct
    rw [hal] at hw hend ct mk
    have k := WR_sp hS.2 rfl hT mk.2.2.2 mk.2.2.1 ct n' d t hn' hw
    obtain ⟨k1, k2, k3, k4, k5, k6⟩ := k
    have m0 := mu_ok hS.2 hT (d := 0) (by decide) (gAl_tn _ hS.2.1).1.1
    rw [tn_0] at m0
    have md := mu_ok hS.2 hT k3.1 k3.2
    have hz : μ d.toNatClampNeg = 0 := by
      rcases hend with z | z
      · rw [z] at k5
        have a1 := m0.2.1
        have a2 := md.1
        have a3 := md.2.1
        rw [show Int32.ofNat 12 = 12 from rfl] at k5
        generalize μ d.toNatClampNeg = x at *
        generalize μ 0 = y at *
        clear k6 hT
        grind
      · rw [z]; exact hT.1
    have en : Int32.ofNat n' = μ 0 := by rw [← k5, hz]; grind
    refine ⟨?_, ?_⟩
    · rw [e, es, gI_sI, if_neg (by omega), gI_sI, if_pos ⟨rfl, rfl⟩]; exact en
    · rw [← en, oN_tn (by omega)]
      intro j hj
      obtain ⟨dd, qq, a1, a2, a3, a4⟩ := k6 j hj
      refine ⟨dd, qq, a1, a2, ?_, ?_⟩
      · rw [e, es, sI_g (by omega), sI_g (by omega)]; exact a3
      · rw [e, es, sI_g (by omega), sI_g (by omega)]; exact a4
