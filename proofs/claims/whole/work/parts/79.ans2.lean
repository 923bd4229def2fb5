/-! ===== answers: held, loads, pull ===== -/
theorem clL_E {σ : ha_St} (h : RC σ) : ∀ i, i ≤ nC σ → e3 (clL σ i) (toV (clL σ i)) (200 * (i : Int))
  | 0, _ => by
    show e3 zer (toV zer) (200 * ((0 : Nat) : Int))
    exact ⟨⟨rfl, by decide⟩, ⟨rfl, by decide⟩, ⟨rfl, by decide⟩⟩
  | i + 1, hi => by
    have ih := clL_E h i (by omega)
    have hn := nC_le h.2.1
    unfold clL
    split
    · obtain ⟨a, -, hc⟩ := h.2.2.1 i (by omega)
      have k := (row_dir hc).2.1
      have e : (200 * ((i + 1 : Nat) : Int)) = 200 * (i : Int) + 200 := by omega
      rw [e]
      have a1 := eI_add ih.1 k.1 (by omega)
      have a2 := eI_add ih.2.1 k.2.1 (by omega)
      have a3 := eI_add ih.2.2 k.2.2 (by omega)
      exact ⟨⟨rfl, by rw [← a1.1] at a1; exact a1.2⟩, ⟨rfl, by rw [← a2.1] at a2; exact a2.2⟩, ⟨rfl, by rw [← a3.1] at a3; exact a3.2⟩⟩
    · exact ih.mono (by omega)
theorem clL_2 {σ : ha_St} (h : RC σ) : e3 (clL σ (nC σ)) (toV (clL σ (nC σ))) 2000 := (clL_E h _ (Nat.le_refl _)).mono (by have := nC_le h.2.1; omega)
/-- the pushes are fresh -/
theorem rfr_Inv {σ σ1 : ha_St} (h : Inv σ) (c : rfrQ σ σ1) : Inv σ1 ∧ gI σ1 0 5 = 0 ∧ (∀ a, 17 ≤ a → gI σ1 a = gI σ a) ∧ gT σ1 = gT σ ∧ gR σ1 = gR σ := by
  rcases c with ⟨q, rfl⟩ | ⟨q, s, hb, e, hf, -, -⟩
  · exact ⟨h, q, fun _ _ => rfl, rfl, rfl⟩
  · have p := push_R h.2.2.2.1
    have hB := puL_lB h.2.2.2.1
    have b := cR_b p.2.1 hB
    have k := cone_cls b.1.1 (by rw [b.1.2]; exact hB.1) b.2.1 hb
    have fr := bndQ_fr hb
    have fx : frX 9 17 σ s := hf.tr (fr.1.X.up (by omega) (by omega))
    have gi : ∀ a j, ¬ (9 ≤ a ∧ a < 17) → ¬ (a = 0 ∧ j = 5) → gI σ1 a j = gI σ a j := fun a j h1 h2 => by rw [e, gI_sI, if_neg h2, (fx.2.2.2 a (by omega)).1]
    have tT : gT σ1 = gT σ := by rw [e]; exact fx.1
    have tR : gR σ1 = gR σ := by rw [e]; exact fx.2.1
    have tn : gn σ1 = gn σ := by rw [e]; exact fx.2.2.1
    have kt : kT σ σ1 := fun a _ => by rw [tT]
    have ki : ∀ U : Nat → Nat → Prop, (∀ a j, U a j → ¬ (9 ≤ a ∧ a < 17) ∧ ¬ (a = 0 ∧ j = 5)) → kI U σ σ1 := fun U hU a j hu _ => gi a j (hU a j hu).1 (hU a j hu).2
    have z5 : gI σ1 0 5 = 0 := by rw [e, gI_sI, if_pos ⟨rfl, rfl⟩]
    have rc := h.2.2.2.1.ag kt (by rw [tR]) (ki _ (fun a j u => by unfold uRC at u; omega))
    refine ⟨⟨h.1.same tT tR tn, fun a ha => by rw [tn]; rw [tT] at ha; exact h.2.1 a ha, ?_, rc, h.2.2.2.2.1.ag (ki _ (fun a j u => by unfold uRL at u; omega)), h.2.2.2.2.2.1.ag (ki _ (fun a j u => by unfold uRP at u; omega)), h.2.2.2.2.2.2.1.ag (ki _ (fun a j u => by unfold uRT at u; omega)), h.2.2.2.2.2.2.2.1.ag kt (fun k _ => by rw [tR]) (by rw [tR]) (ki _ (fun a j u => by unfold uRS at u; omega)), fun _ => ?_, h.2.2.2.2.2.2.2.2.2.ag (ki _ (fun a j u => by unfold uPV at u; omega))⟩, z5, fun a ha => funext fun j => gi a j (by omega) (by omega), tT, tR⟩
    · unfold nOK
      rw [e, gI_sI, if_neg (by omega)]
      exact fr.2
    · have en : nC σ1 = nC σ := by unfold nC; rw [gi 44 1 (by omega) (by omega)]
      have ep := puL_c (σ := σ) (τ := σ1) (fun x p q => funext fun j => gi x j (by omega) (by omega)) (nC σ)
      have es : nlS σ1 9 = nlS s 9 := by rw [e]; rfl
      have eb : nlB σ1 9 = nlB s 9 := by rw [e]; rfl
      have ec : clI σ1 = clI (pushF σ) := by
        rw [e]
        show clI s = _
        unfold clI
        rw [(fr.1.2.2.2.1 16 (by omega)).2]
      rw [en, ep.1, ep.2, es, eb, ec]
      refine ⟨k.1, fun g => ?_, p.2.2⟩
      rw [k.2.1 g, b.1.2]
      exact cone_i b.2.2
theorem neg_64 {p : Int32} (h : -1000 ≤ p ∧ p ≤ 1000) : (-p).toInt64 = -p.toInt64 ∧ eI (-p.toInt64) (-p.toInt) 1000 := by
  have e := eJ_of (b := 1000) (B := 1000) h (by decide) (by decide)
  have n := eI_neg (eJ_64 e) (by decide)
  refine ⟨Int64.toInt_inj.mp ?_, n⟩
  rw [n.1, Int32.toInt_toInt64, Int32.toInt_neg]
  exact Int.bmod_eq_of_le (by have := e.2; omega) (by have := e.2; omega)
/-- the goal -/
def glV (p q m : Int32) (f : Int) (C : V3) : V3 := (-p.toInt - f * C.1, -q.toInt - f * C.2.1, -m.toInt - f * C.2.2)
theorem goal_E {p q m f : Int32} {c : I3} {C : V3} (hl : isLd p q m) (hf : 0 ≤ f ∧ f ≤ 200) (hc : e3 c C 2000) : e3 ((-p).toInt64 - f.toInt64 * c.1, (-q).toInt64 - f.toInt64 * c.2.1, (-m).toInt64 - f.toInt64 * c.2.2) (glV p q m f.toInt C) 401000 ∧ ((-p).toInt64 - f.toInt64 * c.1, (-q).toInt64 - f.toInt64 * c.2.1, (-m).toInt64 - f.toInt64 * c.2.2) = (-p.toInt64 - f.toInt64 * c.1, -q.toInt64 - f.toInt64 * c.2.1, -m.toInt64 - f.toInt64 * c.2.2) := by
  have n1 := neg_64 hl.1
  have n2 := neg_64 hl.2.1
  have n3 := neg_64 hl.2.2
  have ef := eJ_64 (eJ_of (x := f) (b := 200) (B := 200) ⟨by have := hf.1; grind, hf.2⟩ (by decide) (by decide))
  rw [n1.1, n2.1, n3.1]
  exact ⟨⟨eI_sub n1.2 (eI_mul ef hc.1 (by decide)) (by decide), eI_sub n2.2 (eI_mul ef hc.2.1 (by decide)) (by decide), eI_sub n3.2 (eI_mul ef hc.2.2 (by decide)) (by decide)⟩, rfl⟩
theorem inC_V {σ : ha_St} {g : I3} {G : V3} (hb : nlB σ 9) (hg : e3 g G 401000) : inC σ g.1 g.2.1 g.2.2 ↔ ∀ M, M ∈ nlS σ 9 → 0 ≤ vd M G := by
  rw [nlS_mem (P := fun M => 0 ≤ vd M G)]
  have ed : ∀ k, k < cnt σ 9 → eI (dotB σ 9 k g.1 g.2.1 g.2.2) (vd (toV (ndS σ 9 k)) G) 1039392000000000000 := fun k hk => by
    rw [dotB_I]
    exact eI_d (hb k hk) hg (by decide) (by decide) (by decide)
  unfold inC
  constructor
  · intro h k hk
    have := mt (eI_lt (ed k hk)).mpr (h k hk)
    omega
  · intro h k hk q
    have := (eI_lt (ed k hk)).mp q
    have := h k hk
    omega
theorem held_V {σ : ha_St} {p q m f : Int32} (h : Inv σ) (h5 : gI σ 0 5 = 0) (hl : isLd p q m) (hf : 0 ≤ f ∧ f ≤ 200) : (heldP σ p.toInt64 q.toInt64 m.toInt64 f.toInt64 ↔ ∀ M, M ∈ nlS σ 9 → 0 ≤ vd M (glV p q m f.toInt (toV (clL σ (nC σ))))) := by
  have cv := h.2.2.2.2.2.2.2.2.1 h5
  have c2 := clL_2 h.2.2.2.1
  have g := goal_E hl hf c2
  unfold heldP
  rw [← inC_V cv.1 g.1, g.2]
  have e : clI σ = clL σ (nC σ) := cv.2.2
  rw [← e]
  exact Iff.rfl
theorem ref_V {σ σp : ha_St} {p q m f : Int32} (h : Inv σ) (hp : prQ σ σp) (hl : isLd p q m) (hf : 0 ≤ f ∧ f ≤ 200) : gInG σp (mGoal σp p q m f) ↔ coneP (WL (puL σ (nC σ))) (puL σ (nC σ)).length (glV p q m f.toInt (toV (clL σ (nC σ)))) := by
  have c2 := clL_2 h.2.2.2.1
  have e : c3 σp = clL σ (nC σ) := hp.2.2.1
  have g := (goal_E hl hf c2).1
  rw [← e] at g
  have k := goal_ref (puL_lB h.2.2.2.1) hp.2.1 hp.2.2.2.1 hp.2.2.2.2.2 g
  rw [e] at k
  show gInG σp ((-p).toInt64 - f.toInt64 * (c3 σp).1, (-q).toInt64 - f.toInt64 * (c3 σp).2.1, (-m).toInt64 - f.toInt64 * (c3 σp).2.2) ↔ _
  rw [e]
  exact k
theorem held_ref {σ σp : ha_St} {p q m f : Int32} (h : Inv σ) (h5 : gI σ 0 5 = 0) (hp : prQ σ σp) (hl : isLd p q m) (hf : 0 ≤ f ∧ f ≤ 200) : heldP σ p.toInt64 q.toInt64 m.toInt64 f.toInt64 ↔ gInG σp (mGoal σp p q m f) := by
  rw [held_V h h5 hl hf, ref_V h hp hl hf]
  exact (h.2.2.2.2.2.2.2.2.1 h5).2.1 _
theorem isB_eq {r r' : Int32} {P Q : Prop} (h : isB r P) (g : isB r' Q) (e : P ↔ Q) : r = r' := by
  rcases h with ⟨a, b⟩ | ⟨a, b⟩ <;> rcases g with ⟨c, d⟩ | ⟨c, d⟩
  · rw [a, c]
  · exact absurd (e.mp b) d
  · exact absurd (e.mpr d) b
  · rw [a, c]
theorem held_fC {σ σ1 : ha_St} {p q m f r : Int32} (h : Inv σ) (c : heldQ σ p q m f r σ1) : Inv σ1 := by
  rcases c with ⟨-, -, e⟩ | ⟨-, c, -⟩
  · rw [e]; exact h
  · exact (rfr_Inv h c).1
theorem e_held {σ σ1 σ2 : ha_St} {p q m f r r' : Int32} (h : Inv σ) (c : heldQ σ p q m f r σ1) (k : mHeldQ σ1 p q m f r' σ2) : r = r' ∧ Inv σ2 := by
  rcases c with ⟨c1, c2, c3⟩ | ⟨c1, c2, c3⟩ <;> rcases k with ⟨k1, k2, k3⟩ | ⟨k1, k2, σp, k3, k4⟩
  · rw [c2, k2, k3, c3]; exact ⟨rfl, h⟩
  · exact absurd k1 c1
  · exact absurd c1 k1
  · have i1 := rfr_Inv h c2
    exact ⟨isB_eq c3 k4 (held_ref i1.1 i1.2.1 k3 c1.1 c1.2), i1.1.ag (sagr_J k2)⟩
theorem bitsP_c {P Q : Nat → Prop} : ∀ {n : Nat} {b : Int32}, (∀ k, k < n → (P k ↔ Q k)) → bitsP P n b → bitsP Q n b
  | 0, b, _, h => h
  | n + 1, b, e, ⟨b0, h1, h2⟩ => by
    refine ⟨b0, bitsP_c (fun k hk => e k (by omega)) h1, ?_⟩
    rcases h2 with ⟨a, h2⟩ | ⟨a, h2⟩
    · exact Or.inl ⟨(e n (by omega)).mp a, h2⟩
    · exact Or.inr ⟨fun z => a ((e n (by omega)).mpr z), h2⟩
theorem frJ_57 {σ τ : ha_St} (h : frJ σ τ) : gI τ 57 = gI σ 57 := funext fun j => h.2.2.2.1 57 j (by unfold scJ; omega)
theorem loads_ref {σ σp : ha_St} {f : Int32} (h : Inv σ) (h5 : gI σ 0 5 = 0) (hp : prQ σ σp) (hf : 0 ≤ f ∧ f ≤ 200) : ∀ l, l < (gI σ 44 17).toNatClampNeg → (heldL σ f l ↔ mHL σp f l) := by
  intro l hl
  obtain ⟨a1, a2, a3, a4⟩ := h.2.2.2.2.1.2.2 l hl
  unfold heldL mHL
  rw [held_ref h h5 hp a4 hf, frJ_57 hp.1, a1, a2, a3]
theorem e_loads {σ σ1 σ2 : ha_St} {f r r' : Int32} (h : Inv σ) (c : loadsQ σ f r σ1) (k : mLoadsQ σ1 f r' σ2) : r = r' ∧ Inv σ2 := by
  rcases c with ⟨c1, c2, c3⟩ | ⟨c1, c2, c3⟩ <;> rcases k with ⟨k1, k2, k3⟩ | ⟨k1, k2, σp, k3, k4⟩
  · rw [c2, k2, k3, c3]; exact ⟨rfl, h⟩
  · exact absurd k1 c1
  · exact absurd c1 k1
  · have i1 := rfr_Inv h c2
    refine ⟨?_, i1.1.ag (sagr_J k2)⟩
    rw [i1.1.2.2.2.2.1.1] at c3
    rw [frJ_17 k3.1] at k4
    exact bitsP_det (bitsP_c (loads_ref i1.1 i1.2.1 k3 c1) c3) k4
theorem loads_fC {σ σ1 : ha_St} {f r : Int32} (h : Inv σ) (c : loadsQ σ f r σ1) : Inv σ1 := by
  rcases c with ⟨-, -, e⟩ | ⟨-, c, -⟩
  · rw [e]; exact h
  · exact (rfr_Inv h c).1
theorem bm_s : ∀ k : Nat, k < 16 → gAl (k + 1) = gAl k ||| (1 <<< (Int32.ofNat k &&& 31)) ∧ (gAl (k + 1)).toNatClampNeg = 2 ^ (k + 1) - 1 ∧ (gAl k).toNatClampNeg = 2 ^ k - 1 := by decide
theorem bits_b {P : Nat → Prop} : ∀ {n : Nat} {b : Int32}, n ≤ 16 → bitsP P n b → 0 ≤ b ∧ b.toNatClampNeg < 2 ^ n
  | 0, b, _, h => by rw [show b = 0 from h]; decide
  | n + 1, b, hn, ⟨b0, h1, h2⟩ => by
    have ih := bits_b (by omega) h1
    have p : 2 ^ n < 2 ^ (n + 1) := Nat.pow_lt_pow_right (by decide) (by omega)
    rcases h2 with ⟨-, e⟩ | ⟨-, e⟩
    · have k := sh_tn n (by omega)
      have o := or_tn ih.1 k.1
      rw [e]
      refine ⟨o.1, ?_⟩
      rw [o.2, k.2]
      exact Nat.or_lt_two_pow (by omega) p
    · rw [e]; exact ⟨ih.1, by omega⟩
theorem bits_all {P : Nat → Prop} : ∀ {n : Nat}, n ≤ 16 → (bitsP P n (gAl n) ↔ ∀ k, k < n → P k)
  | 0, _ => ⟨fun _ k hk => by omega, fun _ => by show gAl 0 = 0; decide⟩
  | n + 1, hn => by
    have s := bm_s n (by omega)
    have ih := bits_all (P := P) (n := n) (by omega)
    constructor
    · rintro ⟨b0, h1, h2⟩ k hk
      have bb := bits_b (by omega) h1
      have pp := two_pos n
      have p2 : 2 ^ (n + 1) = 2 * 2 ^ n := by rw [Nat.pow_succ]; omega
      rcases h2 with ⟨a, e⟩ | ⟨a, e⟩
      · have kk := sh_tn n (by omega)
        have o := (or_tn bb.1 kk.1).2
        rw [← e, s.2.1, kk.2] at o
        have t := Nat.two_pow_add_eq_or_of_lt bb.2 1
        rw [Nat.mul_one, Nat.or_comm] at t
        rw [← t] at o
        have e0 : b0 = gAl n := by
          rw [← nI_tn bb.1, show b0.toNatClampNeg = (gAl n).toNatClampNeg by rw [s.2.2]; omega]
          refine nI_tn ?_
          have : ∀ n : Nat, n ≤ 16 → 0 ≤ gAl n := by decide
          exact this n (by omega)
        rw [e0] at h1
        by_cases z : k = n
        · rw [z]; exact a
        · exact ih.mp h1 k (by omega)
      · rw [← e, s.2.1] at bb
        omega
    · intro h
      exact ⟨gAl n, ih.mpr (fun k hk => h k (by omega)), Or.inl ⟨h n (by omega), s.1⟩⟩
theorem al_iff {σ σp : ha_St} {f : Int32} (h : Inv σ) (h5 : gI σ 0 5 = 0) (hp : prQ σ σp) (hf : 0 ≤ f ∧ f ≤ 200) : alH σp f ↔ ∀ l, l < (gI σ 44 17).toNatClampNeg → heldL σ f l := by
  have b := h.2.2.2.2.1.2.1
  have e : (1 : Int32) <<< (gI σp 44 17 &&& 31) - 1 = gAl (gI σ 44 17).toNatClampNeg := by unfold gAl; rw [nI_tn b.1, frJ_17 hp.1]
  have l16 : (gI σ 44 17).toNatClampNeg ≤ 16 := by
    have := tn_le b.1 b.2
    rw [show (16 : Int32).toNatClampNeg = 16 by decide] at this
    exact this
  unfold alH
  rw [e, frJ_17 hp.1, bits_all l16]
  exact ⟨fun a l hl => (loads_ref h h5 hp hf l hl).mpr (a l hl), fun a l hl => (loads_ref h h5 hp hf l hl).mp (a l hl)⟩
def ldV3 (σ : ha_St) (i : Nat) : V3 := ((gI σ 18 i).toInt, (gI σ 19 i).toInt, (gI σ 20 i).toInt)
theorem ok_iff {σ : ha_St} {f : Int32} (h : Inv σ) (h5 : gI σ 0 5 = 0) (hf : 0 ≤ f ∧ f ≤ 200) : okF σ (ldV3 σ) (toV (clL σ (nC σ))) (gI σ 44 17).toNatClampNeg f.toInt ↔ ∀ l, l < (gI σ 44 17).toNatClampNeg → heldL σ f l := by
  have key : ∀ l, l < (gI σ 44 17).toNatClampNeg → (heldL σ f l ↔ ∀ k, k < cnt σ 9 → vd (toV (ndS σ 9 k)) (ldV3 σ l) + f.toInt * vd (toV (ndS σ 9 k)) (toV (clL σ (nC σ))) ≤ 0) := by
    intro l hl
    obtain ⟨-, -, -, a4⟩ := h.2.2.2.2.1.2.2 l hl
    unfold heldL
    rw [held_V h h5 a4 hf, nlS_mem (P := fun M => 0 ≤ vd M (glV (gI σ 18 l) (gI σ 19 l) (gI σ 20 l) f.toInt (toV (clL σ (nC σ)))))]
    have e : ∀ N C : V3, ∀ p q m : Int32, vd N (glV p q m f.toInt C) = -(vd N (p.toInt, q.toInt, m.toInt) + f.toInt * vd N C) := fun N C p q m => by unfold vd glV; grind
    constructor
    · intro a k hk
      have := a k hk
      rw [e] at this
      unfold ldV3
      omega
    · intro a k hk
      have := a k hk
      unfold ldV3 at this
      rw [e]
      omega
  exact ⟨fun a l hl => (key l hl).mpr (fun k hk => a l hl k hk), fun a l hl k hk => (key l hl).mp (a l hl) k hk⟩
theorem e_pull {σ σ' σ2 : ha_St} {r r' : Int32} (h : Inv σ) (c : pullQ σ r σ') (k : mPullQ σ' r' σ2) : r = r' ∧ Inv σ2 ∧ Inv σ' := by
  obtain ⟨σ1, c1, c2, c3⟩ := c
  have i1 := rfr_Inv h c1
  have hl : ∀ i, i < (gI σ1 44 17).toNatClampNeg → e3 (ldI σ1 i) (ldV3 σ1 i) 1000 := fun i hi => by
    obtain ⟨-, -, -, a4⟩ := i1.1.2.2.2.2.1.2.2 i hi
    exact ⟨eJ_64 (eJ_of (b := 1000) (B := 1000) a4.1 (by decide) (by decide)), eJ_64 (eJ_of (b := 1000) (B := 1000) a4.2.1 (by decide) (by decide)), eJ_64 (eJ_of (b := 1000) (B := 1000) a4.2.2 (by decide) (by decide))⟩
  have cv := i1.1.2.2.2.2.2.2.2.2.1 i1.2.1
  have hc : e3 (clI σ1) (toV (clL σ1 (nC σ1))) 2000 := by rw [cv.2.2]; exact clL_2 i1.1.2.2.2.1
  have pr := pull_rng (n := (gI σ1 44 17).toNatClampNeg) (by rw [i1.1.2.2.2.2.1.1]) cv.1 hl hc
  have sU : sagr σ1 σ' := by
    rw [c2]
    exact ⟨pr.1.1, pr.1.2.1, Nat.le_of_eq pr.1.2.2.1.symm, fun a j _ => by rw [pr.1.2.2.2.1], fun a p q => pr.1.2.2.2.2 a (by omega)⟩
  have i' := i1.1.ag sU
  obtain ⟨k1, σp, k2, k3⟩ := k
  have g5' : gI σ' 0 5 = 0 := by rw [sU.2.2.2.1 0 5 (by unfold scr; omega)]; exact i1.2.1
  have n17 : gI σ' 44 17 = gI σ1 44 17 := sU.2.2.2.1 44 17 (by unfold scr; omega)
  have eH : ∀ f l, heldL σ' f l ↔ heldL σ1 f l := by
    intro f l
    have f18 : ∀ x, 18 ≤ x → x ≤ 20 → gI σ' x = gI σ1 x := fun x p q => funext fun j => sU.2.2.2.1 x j (by unfold scr; omega)
    have f97 : gI σ' 9 7 = gI σ1 9 7 := sU.2.2.2.1 9 7 (by unfold scr; omega)
    unfold heldL heldP inC dotB
    rw [f18 18 (by omega) (by omega), f18 19 (by omega) (by omega), f18 20 (by omega) (by omega), f97, sU.2.2.2.2 16 (by omega) (by omega), sU.2.2.2.2 13 (by omega) (by omega), sU.2.2.2.2 14 (by omega) (by omega), sU.2.2.2.2 15 (by omega) (by omega)]
  have PA : ∀ f : Int32, 0 ≤ f ∧ f ≤ 200 → (alH σp f ↔ okF σ1 (ldV3 σ1) (toV (clL σ1 (nC σ1))) (gI σ1 44 17).toNatClampNeg f.toInt) := by
    intro f hf
    rw [al_iff i' g5' k2 hf, ok_iff i1.1 i1.2.1 hf, n17]
    exact ⟨fun a l hl => (eH f l).mp (a l hl), fun a l hl => (eH f l).mpr (a l hl)⟩
  obtain ⟨q, eq, ls⟩ := least_cls pr.2
  refine ⟨?_, i'.ag (sagr_J k1), i'⟩
  rw [c3, eq]
  have toI : ∀ f : Int32, (0 ≤ f ∧ f ≤ 200) ↔ (0 ≤ f.toInt ∧ f.toInt ≤ 200) := fun f => by
    rw [Int32.le_iff_toInt_le, Int32.le_iff_toInt_le, Int32.toInt_zero, show (200 : Int32).toInt = 200 by decide]
  rcases ls with ⟨l1, l2, l3, l4⟩ | ⟨l1, l2⟩ <;> rcases k3 with ⟨m1, m2, m3, m4⟩ | ⟨m1, m2⟩
  · have mI := (toI r').mp ⟨m1, m2⟩
    have p' := (PA r' ⟨m1, m2⟩).mp m3
    have a1 : ¬ r'.toInt < q.toInt := fun z => l4 _ mI.1 z p'
    have a2 : ¬ q.toInt < r'.toInt := fun z => m4 q (by rw [Int32.le_iff_toInt_le, Int32.toInt_zero]; exact l1) (by rw [Int32.lt_iff_toInt_lt]; exact z) ((PA q ((toI q).mpr ⟨l1, l2⟩)).mpr l3)
    exact Int32.toInt_inj.mp (by omega)
  · have hq := (toI q).mpr ⟨l1, l2⟩
    exact absurd ((PA q hq).mpr l3) (m2 q hq.1 hq.2)
  · have mI := (toI r').mp ⟨m1, m2⟩
    exact absurd ((PA r' ⟨m1, m2⟩).mp m3) (l2 _ mI.1 mI.2)
  · rw [l1, m1]
