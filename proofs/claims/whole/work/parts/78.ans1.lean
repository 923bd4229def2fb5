/-! ===== answers: contacts, rank, hidden motion, form ===== -/
theorem ct_at {σ : ha_St} (h : RC σ) {i : Int32} {a : Nat} (hc : cAt σ i = some a) : (0 ≤ i ∧ i < gI σ 44 1) ∧ ctR σ i.toNatClampNeg a ∧ gR σ 1 i.toNatClampNeg = some a ∧ i.toNatClampNeg < nC σ := by
  obtain ⟨t, -, -, -, h0, h1, h2⟩ := cAt_some h.P hc
  rw [h.1] at h1
  have hl : i.toNatClampNeg < nC σ := tn_lt h0 h1
  obtain ⟨a', h3, h4⟩ := h.2.2.1 _ hl
  cases h3.symm.trans h2
  exact ⟨⟨h0, h1⟩, h4, h2, hl⟩
theorem ct_ex {σ : ha_St} (h : RC σ) {i : Int32} (hi : 0 ≤ i ∧ i < gI σ 44 1) : ∃ a, cAt σ i = some a := by
  obtain ⟨a, h1, -⟩ := h.2.2.1 i.toNatClampNeg (tn_lt hi.1 hi.2)
  exact ⟨a, by unfold cAt; rw [h.1, if_pos hi]; exact h1⟩
theorem ct_no {σ : ha_St} (h : RC σ) {i : Int32} : cAt σ i = none ↔ ¬ (0 ≤ i ∧ i < gI σ 44 1) := by
  constructor
  · intro q
    have := cAt_none h.P q
    rw [h.1] at this
    exact this
  · intro q
    unfold cAt
    rw [h.1, if_neg q]
theorem icV_0 {σ : ha_St} {c : Int32} : icV σ c = 0 ↔ ¬ (0 ≤ c ∧ c < gI σ 44 1) := by
  unfold icV
  by_cases q : 0 ≤ c ∧ c < gI σ 44 1
  · rw [if_pos q]; exact ⟨fun z => absurd z (by decide), fun z => absurd q z⟩
  · rw [if_neg q]; exact ⟨fun _ => q, fun _ => rfl⟩
theorem inV_iff {w lo hi : Int32} : inV w lo hi = 0 ↔ ¬ (lo ≤ w ∧ w ≤ hi) := ⟨inV_0, fun q => by unfold inV; rw [if_neg q]⟩
theorem mod_eq {σ τ : ha_St} (s : sagr σ τ) : gI τ 44 1 = gI σ 44 1 ∧ (∀ c, icV τ c = icV σ c) ∧ (∀ c, mPc τ c = mPc σ c) ∧ (∀ c k, dirV τ c k = dirV σ c k) ∧ ∀ c p k, psV τ c p k = psV σ c p k := by
  have m : ∀ x, 45 ≤ x → x ≤ 51 → gI τ x = gI σ x := fun x p q => funext fun j => s.2.2.2.1 x j (by unfold scr; omega)
  have n : gI τ 44 1 = gI σ 44 1 := s.2.2.2.1 44 1 (by unfold scr; omega)
  refine ⟨n, fun c => by unfold icV; rw [n], fun c => by unfold mPc; rw [m 45 (by omega) (by omega)], fun c k => dirV_c (m 46 (by omega) (by omega)) (m 47 (by omega) (by omega)) (m 48 (by omega) (by omega)), fun c p k => ?_⟩
  unfold psV
  rw [m 45 (by omega) (by omega), m 46 (by omega) (by omega), m 47 (by omega) (by omega), m 48 (by omega) (by omega), m 49 (by omega) (by omega)]
theorem e_look {σ : ha_St} (h : Inv σ) {c w r : Int32} (q : lookQ σ c w r) : r = mLook σ c w := by
  have hC := h.2.2.2.1
  unfold mLook
  rcases q with ⟨q, e⟩ | ⟨a, q, e⟩
  · rw [hC.1] at q
    rw [if_pos (Or.inl (icV_0.mpr q)), e]
  · obtain ⟨hi, ⟨t, hT, ht, -, hk, h0, -, -, -, h3, -, -, -, h7, hg, -⟩, -⟩ := ct_at hC q
    have ic : ¬ icV σ c = 0 := fun z => icV_0.mp z hi
    have kt := kind_tag ht
    rw [e]
    unfold lookV
    rw [hT]
    by_cases iw : 0 ≤ w ∧ w ≤ 5
    · rw [if_neg (show ¬ (icV σ c = 0 ∨ inV w 0 5 = 0) from fun z => z.elim ic (fun y => inV_iff.mp y iw))]
      by_cases w0 : w = 0
      · rw [if_pos w0, if_pos w0, hk]
      · rw [if_neg w0, if_neg w0]
        by_cases w1 : w = 1
        · rw [if_pos w1, if_pos w1, h0]
        · rw [if_neg w1, if_neg w1]
          by_cases w2 : w = 2
          · rw [if_pos w2, if_pos w2, hg]
          · rw [if_neg w2, if_neg w2]
            by_cases w3 : w = 3
            · rw [if_pos w3, if_pos w3, h3]
            · rw [if_neg w3, if_neg w3]
              by_cases w4 : w = 4
              · rw [if_pos w4, if_pos w4]
                by_cases t2 : t = 2
                · rw [if_pos t2, if_pos (by rw [← hk]; exact kt.1.mpr t2)]
                · rw [if_neg t2, if_neg (fun z => t2 (kt.1.mp (by rw [hk]; exact z))), h7]
              · rw [if_neg w4, if_neg w4, if_pos (by grind)]
                exact count_pc (a := a) hk ht
    · rw [if_pos (show icV σ c = 0 ∨ inV w 0 5 = 0 from Or.inr (inV_iff.mpr iw)), if_neg (by grind), if_neg (by grind), if_neg (by grind), if_neg (by grind), if_neg (by grind), if_neg (by grind)]
theorem e_count {σ : ha_St} (h : Inv σ) {w : Int32} : countV σ w = mCount σ w := by
  unfold countV mCount
  rw [h.2.2.2.1.1, h.2.2.2.2.1.1, h.2.2.2.2.2.1.1, h.2.2.2.2.2.2.1.1, h.2.2.2.2.2.2.1.2.2.1]
theorem IAE_ne : IAE ≠ ISE := by decide
/-- what the law's helper says of a wrench -/
def lawW (σ : ha_St) (i p k r : Int32) (σ1 : ha_St) : Prop := (r = 0 ∧ ∃ x1 s1, wrenQ σ i p k x1 s1 ∧ σ1 = sL s1 73 0 x1) ∨ (r = 1 ∧ wrenX σ i p k IAE σ1) ∨ (r = 2 ∧ wrenX σ i p k ISE σ1)
theorem lawW_s {σ σ1 : ha_St} {i p k r : Int32} (h : lawW σ i p k r σ1) : sagr σ σ1 := by
  rcases h with ⟨-, x, s, ⟨b, -, -, e⟩, rfl⟩ | ⟨-, -, -, g⟩ | ⟨-, e, -⟩
  · rw [e]; exact sagr_73
  · exact sagr_G g
  · exact absurd e.symm IAE_ne
theorem frJ_th {σ : ha_St} {v : Int32} : frJ σ (sI σ 44 0 v) := frJ_sI (by unfold scJ; omega)
theorem e_wrench {σ σ1 σ2 : ha_St} {i p k r : Int32} {x : Int64} (h : Inv σ) (c : lawW σ i p k r σ1) (m : mWrenQ σ1 i p k x σ2) : gI σ2 44 0 = r ∧ (r = 0 → gL σ2 73 0 = x) ∧ Inv σ2 := by
  have s := lawW_s c
  have me := mod_eq s
  have hC := h.2.2.2.1
  have ok : (∃ b, okW σ i p k b) ↔ wokM σ1 i p k := by
    unfold wokM okW
    rw [me.2.1, me.2.2.1]
    constructor
    · rintro ⟨b, hb, hp, hk⟩
      obtain ⟨hi, ⟨t, hT, ht, -, hkd, -⟩, -⟩ := ct_at hC hb
      rw [hT, count_pc (a := b) hkd ht] at hp
      exact ⟨fun z => icV_0.mp z hi, fun z => inV_iff.mp z hk, fun z => inV_iff.mp z ⟨hp.1, by have := hp.2; have := mPc_b (σ := σ) (c := i.toNatClampNeg); grind⟩⟩
    · rintro ⟨h1, h2, h3⟩
      have hi : 0 ≤ i ∧ i < gI σ 44 1 := Classical.byContradiction (fun z => h1 (icV_0.mpr z))
      obtain ⟨b, hb⟩ := ct_ex hC hi
      obtain ⟨-, ⟨t, hT, ht, -, hkd, -⟩, -⟩ := ct_at hC hb
      refine ⟨b, hb, ?_, inV_1 h2⟩
      rw [hT, count_pc (a := b) hkd ht]
      have h3' := inV_1 h3
      exact ⟨h3'.1, by have := h3'.2; have := mPc_b (σ := σ) (c := i.toNatClampNeg); grind⟩
  rcases m with ⟨nm, e⟩ | ⟨ym, e, ex⟩
  · have i2 : Inv σ2 := by rw [e]; exact (h.ag s).ag (sagr_J frJ_th)
    have t1 : gI σ2 44 0 = 1 := by rw [e, gI_sI, if_pos ⟨rfl, rfl⟩]
    rcases c with ⟨-, x1, s1, ⟨b, hb, -⟩, -⟩ | ⟨er, -⟩ | ⟨-, e2, -⟩
    · exact absurd (ok.mp ⟨b, hb⟩) nm
    · rw [er]; exact ⟨t1, fun z => absurd z (by decide), i2⟩
    · exact absurd e2.symm IAE_ne
  · have i2 : Inv σ2 := by rw [e]; exact (h.ag s).ag (sagr_J frJ_th)
    have t1 : gI σ2 44 0 = 0 := by rw [e, gI_sI, if_pos ⟨rfl, rfl⟩]
    rcases c with ⟨er, x1, s1, ⟨b, hb, hx, es⟩, e1⟩ | ⟨-, -, hno, -⟩ | ⟨-, e2, -⟩
    · refine ⟨by rw [er]; exact t1, fun _ => ?_, i2⟩
      rw [e, e1, gL_sI, gL_sL, if_pos ⟨rfl, rfl⟩, hx, ex, me.2.2.2.1, me.2.2.2.2]
      obtain ⟨hi, hct, -⟩ := ct_at hC hb.1
      have hct' := hct
      obtain ⟨t, hT, ht, -, hkd, -⟩ := hct'
      have hp := hb.2.1
      unfold wrL
      have hk3 : k = 0 ∨ k = 1 ∨ k = 2 := by have := hb.2.2; grind
      by_cases pn : p < 0
      · have p1 : p = -1 := by have := hp.1; grind
        rw [if_pos pn, p1]
        have rd := (row_dir hct).1
        have r1 := congrArg (fun z : I3 => z.1) rd
        have r2 := congrArg (fun z : I3 => z.2.1) rd
        have r3' := congrArg (fun z : I3 => z.2.2) rd
        rcases hk3 with k0 | k0 | k0 <;> rw [k0]
        · rw [if_pos rfl]; exact r1
        · rw [if_neg (by decide), if_pos rfl]; exact r2
        · rw [if_neg (by decide), if_neg (by decide)]; exact r3'
      · rw [if_neg pn]
        rw [hT, count_pc (a := b) hkd ht] at hp
        have rd := (row_psh hct (by grind) hp.2).1
        have r1 := congrArg (fun z : I3 => z.1) rd
        have r2 := congrArg (fun z : I3 => z.2.1) rd
        have r3' := congrArg (fun z : I3 => z.2.2) rd
        rcases hk3 with k0 | k0 | k0 <;> rw [k0]
        · rw [if_pos rfl]; exact r1
        · rw [if_neg (by decide), if_pos rfl]; exact r2
        · rw [if_neg (by decide), if_neg (by decide)]; exact r3'
    · obtain ⟨b, hb⟩ := ok.mpr ym
      exact absurd hb (hno b)
    · exact absurd e2.symm IAE_ne
/-! rank -/
theorem plR_s {σ τ : ha_St} (s : sagr σ τ) : plR τ = plR σ ∧ ∀ b, foR τ b = foR σ b := by
  have me := mod_eq s
  have h45 : gI τ 45 = gI σ 45 := funext fun j => s.2.2.2.1 45 j (by unfold scr; omega)
  have ha : ∀ (P : Nat → Prop) n, adL τ P n = adL σ P n := by
    intro P n
    induction n with
    | zero => rfl
    | succ n ih => unfold adL; rw [ih, me.2.2.2.1, me.2.2.2.1, me.2.2.2.1]
  have hp : ∀ b c, adP τ b c = adP σ b c := fun b c => by funext x; unfold adP; rw [h45]
  refine ⟨?_, fun b => ?_⟩
  · unfold plR; rw [hp, ha, me.1]
  · unfold foR; rw [hp, ha, me.1]
theorem rank_cR {σ σ1 : ha_St} {r : Int32} (h : Inv σ) (c : rankQ σ r σ1) : ∃ N, meaS (WL (plR σ)) (plR σ).length r N ∧ (r = 2 ∨ r = 3 → e3 (nrm σ1 2) N 72000000) ∧ ∀ k, k < (plR σ).length → WL (plR σ) k ≠ v0 := by
  obtain ⟨c1, -, c3, -⟩ := c
  have p := plac_R h.2.2.2.1
  have b := cR_b p.2.1 p.2.2
  obtain ⟨N, hN, he⟩ := rank_cls b.1.1 b.2.1 c1
  rw [b.1.2] at hN
  refine ⟨N, ?_, he, fun k hk => (p.2.2.2 k hk).2⟩
  have w := b.2.2
  rcases hN with ⟨e, z⟩ | ⟨e, z1, z2⟩ | ⟨e, ⟨j, j1, j2, j3⟩, z1, z2⟩ | ⟨e, ⟨j, j1, j2, j3⟩, z1, z2⟩
  · exact Or.inl ⟨e, z⟩
  · exact Or.inr (Or.inl ⟨e, z1, fun k h1 h2 => by rw [← w 0 z1, ← w k h2]; exact z2 k h1 h2⟩)
  · exact Or.inr (Or.inr (Or.inl ⟨e, ⟨j, j1, j2, by rw [← w 0 (by omega), ← w j j2]; exact j3⟩, z1, fun k hk => by rw [← w k hk]; exact z2 k hk⟩))
  · exact Or.inr (Or.inr (Or.inr ⟨e, ⟨j, j1, j2, by rw [← w 0 (by omega), ← w j j2]; exact j3⟩, z1, r3_i w z2⟩))
theorem rk_eq {σ σ1 : ha_St} {r r' : Int32} (h : Inv σ) (c : rankQ σ r σ1) (m : rkL (plR σ) r') : r = r' := by
  obtain ⟨N, hN, -, hW⟩ := rank_cR h c
  obtain ⟨ρ, hρ, q⟩ := m
  exact rank_eq hW hN (rk_S (plac_R h.2.2.2.1).2.2 hρ q)
theorem rank_s {σ σ1 : ha_St} {r : Int32} (c : rankQ σ r σ1) : sagr σ σ1 := sagr_X c.2.1
theorem e_rank {σ σ1 σ2 : ha_St} {r r' : Int32} (h : Inv σ) (c : rankQ σ r σ1) (m : frJ σ1 σ2 ∧ mR σ2 (plR σ1) ∧ rkQ (gL σ2 52) (gI σ2 44 9) r') : r = r' ∧ Inv σ2 := by
  have s := rank_s c
  have q := rkL_of m.2.1 m.2.2
  rw [(plR_s s).1] at q
  exact ⟨rk_eq h c q, (h.ag s).ag (sagr_J m.1)⟩
/-! form -/
theorem cnt_0 {σ : ha_St} {c : Nat} (h : nOK σ c) : nlS σ c = [] ↔ gI σ c 7 = 0 := by
  constructor
  · intro q
    have e := congrArg List.length q
    rw [nlS_len] at e
    have : gI σ c 7 = Int32.ofNat (cnt σ c) := (nI_tn h.1).symm
    rw [this, e]; rfl
  · intro q; exact (nl_0 q).1
theorem form_eq {σ σ1 : ha_St} {lo but r r' : Int32} (h : Inv σ) (hb : ∀ i : Nat, i < 10 → (Int32.ofNat i = lo ↔ Int32.ofNat i = but)) (c : formQ σ lo r σ1) (m : fmL (foR σ but) r') : r = r' := by
  obtain ⟨c1, -, c3, -⟩ := c
  have p := form_R h.2.2.2.1 hb
  have b := cR_b p.2.1 p.2.2
  have k := cone_cls b.1.1 (by rw [b.1.2]; exact p.2.2.1) b.2.1 c1
  have n := (bndQ_fr c1).2
  obtain ⟨ρ, hρ, q⟩ := m
  have e : (gI σ1 2 7 = 0) ↔ fmQ ρ (Int32.ofNat (foR σ but).length) := by
    rw [← cnt_0 n, k.2.2, b.1.2, form_i b.2.2, fm_P p.2.2 hρ]
  rcases c3 with ⟨e1, q1⟩ | ⟨e1, q1⟩ <;> rcases q with ⟨e2, q2⟩ | ⟨e2, q2⟩
  · rw [e1, e2]
  · exact absurd (e.mp q1) q2
  · exact absurd (e.mpr q2) q1
  · rw [e1, e2]
theorem e_form {σ σ1 σ2 : ha_St} {r r' : Int32} (h : Inv σ) (c : formQ σ 10 r σ1) (m : frJ σ1 σ2 ∧ fmL (foR σ1 (-1)) r') : r = r' ∧ Inv σ2 := by
  have s : sagr σ σ1 := sagr_X c.2.1
  have q := m.2
  rw [(plR_s s).2] at q
  refine ⟨form_eq h ?_ c q, (h.ag s).ag (sagr_J m.1)⟩
  decide
theorem e_without {σ σ1 σ2 : ha_St} {i r r' : Int32} (h : Inv σ) (c : (¬ (0 ≤ i ∧ i < gI σ 0 1) ∧ r = -1 ∧ σ1 = σ) ∨ ((0 ≤ i ∧ i < gI σ 0 1) ∧ formQ σ i r σ1)) (m : (icV σ1 i = 0 ∧ r' = -1 ∧ σ2 = σ1) ∨ (icV σ1 i ≠ 0 ∧ frJ σ1 σ2 ∧ fmL (foR σ1 i) r')) : r = r' ∧ Inv σ2 := by
  have s : sagr σ σ1 := by
    rcases c with ⟨-, -, e⟩ | ⟨-, c⟩
    · rw [e]; exact sagr.rf
    · exact sagr_X c.2.1
  have me := mod_eq s
  rw [h.2.2.2.1.1] at c
  rcases c with ⟨c1, c2, -⟩ | ⟨c1, c⟩ <;> rcases m with ⟨m1, m2, m3⟩ | ⟨m1, m2, m3⟩
  · rw [c2, m2, m3]; exact ⟨rfl, h.ag s⟩
  · rw [me.2.1] at m1; exact absurd (icV_0.mpr c1) m1
  · rw [me.2.1] at m1; exact absurd c1 (icV_0.mp m1)
  · rw [(plR_s s).2] at m3
    exact ⟨form_eq h (fun _ _ => Iff.rfl) c m3, (h.ag s).ag (sagr_J m2)⟩
/-! hidden -/
def lawH (σ : ha_St) (w r : Int32) (σ1 : ha_St) : Prop := (r = 0 ∧ ∃ x1 s1, hidQ σ w x1 s1 ∧ σ1 = sL s1 73 0 x1) ∨ (r = 1 ∧ hidX σ w IAE σ1) ∨ (r = 2 ∧ hidX σ w ISE σ1)
theorem redF_X {σ : ha_St} : frX 2 9 σ (redF σ) := by
  unfold redF
  split
  · exact frX.rf
  · exact ((frX_sL (by omega) (by omega)).tr (frX_sL (by omega) (by omega))).tr (frX_sL (by omega) (by omega))
theorem lawH_s {σ σ1 : ha_St} {w r : Int32} (h : lawH σ w r σ1) : sagr σ σ1 := by
  rcases h with ⟨-, x, s, ⟨-, t, ht, es, -⟩, rfl⟩ | ⟨-, ⟨-, -, g⟩ | ⟨e, -⟩⟩ | ⟨-, ⟨e, -⟩ | ⟨-, -, r', t, ht, -, g⟩⟩
  · rw [es]; exact ((sagr_X (ht.2.1)).tr (sagr_X redF_X)).tr sagr_73
  · exact sagr_G g
  · exact absurd e IAE_ne
  · exact absurd e.symm IAE_ne
  · exact (sagr_X ht.2.1).tr (sagr_G g)
theorem e_hidden {σ σ1 σ2 : ha_St} {w r : Int32} {x : Int64} (h : Inv σ) (c : lawH σ w r σ1) (m : mHidQ σ1 w x σ2) : gI σ2 44 0 = r ∧ (r = 0 → gL σ2 73 0 = x) ∧ Inv σ2 := by
  have s := lawH_s c
  have i2 : Inv σ2 := (h.ag s).ag (sagr_J m.1)
  have g73 : gL σ2 73 0 = gL σ1 73 0 := by rw [m.1.2.2.2.2 73 (by omega)]
  obtain ⟨mf, m⟩ := m
  rw [(plR_s s).1] at m
  rcases m with ⟨m1, m2⟩ | ⟨m1, r', mL, m⟩
  · rcases c with ⟨-, -, -, ⟨c1, -⟩, -⟩ | ⟨er, -⟩ | ⟨-, ⟨e, -⟩ | ⟨-, c1, -⟩⟩
    · exact absurd c1 m1
    · rw [er]; exact ⟨m2, fun z => absurd z (by decide), i2⟩
    · exact absurd e.symm IAE_ne
    · exact absurd c1 m1
  · rcases c with ⟨er, x1, s1, ⟨-, t, ht, es, ex⟩, e1⟩ | ⟨-, ⟨-, c1, -⟩ | ⟨e, -⟩⟩ | ⟨er, ⟨e, -⟩ | ⟨-, -, q, t, ht, hq, g⟩⟩
    · have re := rk_eq h ht mL
      rcases m with ⟨n2, -⟩ | ⟨-, m2, ρ, a, b, d, e, hρ, hab, hne, g1, g2, hx⟩
      · exact absurd re.symm n2
      · refine ⟨by rw [er]; exact m2, fun _ => ?_, i2⟩
        rw [g73, e1, gL_sL, if_pos ⟨rfl, rfl⟩, ex, hx, es]
        obtain ⟨N, hN, he, hW⟩ := rank_cR h ht
        have hB := (plac_R h.2.2.2.1).2.2
        rcases hN with ⟨z, -⟩ | ⟨z, -⟩ | ⟨-, ⟨j, j1, j2, j3⟩, z1, z2⟩ | ⟨z, -⟩ <;> try exact absurd z (by decide)
        have ha' : 0 ≤ a ∧ a < Int32.ofNat (plR σ).length := ⟨by grind, hab.2.2⟩
        have hb' : 0 ≤ b ∧ b < Int32.ofNat (plR σ).length := ⟨hab.1, by grind⟩
        have ec := crE hB hρ ha' hb'
        have hY0 : vc (WL (plR σ) a.toNatClampNeg) (WL (plR σ) b.toNatClampNeg) ≠ v0 := fun z => hne ((e3_0 ec).mpr z)
        have hp : vc N (vc (WL (plR σ) a.toNatClampNeg) (WL (plR σ) b.toNatClampNeg)) = v0 := par_of (z2 _ (tn_oN hB.1 ha'.1 ha'.2)) (z2 _ (tn_oN hB.1 hb'.1 hb'.2))
        exact hid_same m1 (he (Or.inl rfl)) ec z1 hY0 hp g1 g2
    · exact absurd m1 c1
    · exact absurd e IAE_ne
    · exact absurd e.symm IAE_ne
    · have re := rk_eq h ht mL
      rcases m with ⟨n2, m2⟩ | ⟨n2, -⟩
      · rw [er]; exact ⟨m2, fun z => absurd z (by decide), i2⟩
      · exact absurd (re.trans n2) hq
