/-! ===== what holds between two calls ===== -/
def kT (σ τ : ha_St) : Prop := ∀ a, (gT σ a).1 ≠ 0 → gT τ a = gT σ a
def kI (U : Nat → Nat → Prop) (σ τ : ha_St) : Prop := ∀ a j, U a j → (74 ≤ a → (gT σ a).1 ≠ 0) → gI τ a j = gI σ a j
theorem pT_nz {t : Nat} (h : pT t) : t ≠ 0 := by rcases h with rfl | rfl | rfl | rfl <;> decide
def uRC (a j : Nat) : Prop := (a = 0 ∧ j = 1) ∨ (a = 44 ∧ j = 1) ∨ (45 ≤ a ∧ a ≤ 51) ∨ 74 ≤ a
theorem ctR.ag {σ τ : ha_St} {i a : Nat} (h : ctR σ i a) (hT : kT σ τ) (hg : kI uRC σ τ) : ctR τ i a := by
  obtain ⟨t, h1, h2, h3, h4⟩ := h
  have nz : (gT σ a).1 ≠ 0 := by rw [h1]; exact pT_nz h2
  have e : ∀ j, gI τ a j = gI σ a j := fun j => hg a j (by unfold uRC; omega) (fun _ => nz)
  have m : ∀ x j, 45 ≤ x → x ≤ 51 → gI τ x j = gI σ x j := fun x j p q => hg x j (by unfold uRC; omega) (fun w => by omega)
  refine ⟨t, (hT a nz).trans h1, h2, h3, ?_⟩
  unfold gripOf at *
  rw [e, e, e, e, e, e, e, e, e, m 45 i (by omega) (by omega), m 46 i (by omega) (by omega), m 47 i (by omega) (by omega), m 48 i (by omega) (by omega), m 49 i (by omega) (by omega), m 50 i (by omega) (by omega), m 51 i (by omega) (by omega)]
  exact h4
theorem RC.ag {σ τ : ha_St} (h : RC σ) (hT : kT σ τ) (hR : gR τ 1 = gR σ 1) (hg : kI uRC σ τ) : RC τ := by
  have e1 : gI τ 0 1 = gI σ 0 1 := hg 0 1 (by unfold uRC; omega) (fun w => by omega)
  have e2 : gI τ 44 1 = gI σ 44 1 := hg 44 1 (by unfold uRC; omega) (fun w => by omega)
  have en : nC τ = nC σ := by unfold nC; rw [e2]
  refine ⟨by rw [e1, e2]; exact h.1, by unfold MN at *; rw [e2]; exact h.2.1, fun i hi => ?_, fun i j a hi hj => ?_⟩
  · rw [en] at hi
    obtain ⟨a, h1, h2⟩ := h.2.2.1 i hi
    exact ⟨a, by rw [hR]; exact h1, h2.ag hT hg⟩
  · rw [en] at hi hj
    rw [hR]
    exact h.2.2.2 i j a hi hj
def RLd (σ : ha_St) : Prop := gI σ 17 3 = gI σ 44 17 ∧ (0 ≤ gI σ 44 17 ∧ gI σ 44 17 ≤ 16) ∧ ∀ l, l < (gI σ 44 17).toNatClampNeg → gI σ 18 l = gI σ 57 (3 * l) ∧ gI σ 19 l = gI σ 57 (3 * l + 1) ∧ gI σ 20 l = gI σ 57 (3 * l + 2) ∧ isLd (gI σ 18 l) (gI σ 19 l) (gI σ 20 l)
def uRL (a j : Nat) : Prop := (a = 17 ∧ j = 3) ∨ (18 ≤ a ∧ a ≤ 20) ∨ (a = 44 ∧ j = 17) ∨ a = 57
theorem RLd.ag {σ τ : ha_St} (h : RLd σ) (hg : kI uRL σ τ) : RLd τ := by
  have f : ∀ x, (18 ≤ x ∧ x ≤ 20) ∨ x = 57 → gI τ x = gI σ x := fun x q => funext fun j => hg x j (by unfold uRL; omega) (fun w => by omega)
  unfold RLd at *
  rw [hg 17 3 (by unfold uRL; omega) (fun w => by omega), hg 44 17 (by unfold uRL; omega) (fun w => by omega), f 18 (by omega), f 19 (by omega), f 20 (by omega), f 57 (by omega)]
  exact h
def RP (σ : ha_St) : Prop := gI σ 26 2 = gI σ 44 23 ∧ mSt σ ∧ ∀ s, s < (gI σ 44 23).toNatClampNeg → gI σ 27 s = gI σ 60 s ∧ gI σ 28 s = gI σ 61 s
def uRP (a j : Nat) : Prop := (a = 26 ∧ j = 2) ∨ a = 27 ∨ a = 28 ∨ (a = 44 ∧ j = 23) ∨ a = 60 ∨ a = 61
theorem RP.ag {σ τ : ha_St} (h : RP σ) (hg : kI uRP σ τ) : RP τ := by
  have f : ∀ x, x = 27 ∨ x = 28 ∨ x = 60 ∨ x = 61 → gI τ x = gI σ x := fun x q => funext fun j => hg x j (by unfold uRP; omega) (fun w => by omega)
  unfold RP mSt at *
  rw [hg 26 2 (by unfold uRP; omega) (fun w => by omega), hg 44 23 (by unfold uRP; omega) (fun w => by omega), f 27 (by omega), f 28 (by omega), f 60 (by omega), f 61 (by omega)]
  exact h
theorem RP.G {σ : ha_St} (h : RP σ) : cSt σ ∧ GW (gI σ 27) (gI σ 28) (gI σ 26 2).toNatClampNeg = GW (gI σ 60) (gI σ 61) (gI σ 44 23).toNatClampNeg := by
  constructor
  · unfold cSt
    rw [h.1]
    refine ⟨h.2.1.1, h.2.1.2.1, fun s hs => ?_⟩
    rw [(h.2.2 s hs).1, (h.2.2 s hs).2]
    exact h.2.1.2.2 s hs
  · rw [h.1]
    funext d side
    refine itI_congr _ _ (fun s x hs => ?_)
    unfold gwS
    rw [(h.2.2 s hs).1, (h.2.2 s hs).2]
def RT (σ : ha_St) : Prop := gI σ 32 2 = gI σ 44 27 ∧ (0 ≤ gI σ 44 27 ∧ gI σ 44 27 ≤ 40) ∧ gI σ 32 3 = gI σ 44 28 ∧ ∀ i, i < (gI σ 44 27).toNatClampNeg → gI σ 33 i = gI σ 63 i ∧ gI σ 34 i = gI σ 64 i
def uRT (a j : Nat) : Prop := a = 32 ∨ a = 33 ∨ a = 34 ∨ (a = 44 ∧ (j = 27 ∨ j = 28)) ∨ a = 63 ∨ a = 64
theorem RT.ag {σ τ : ha_St} (h : RT σ) (hg : kI uRT σ τ) : RT τ := by
  have f : ∀ x, x = 32 ∨ x = 33 ∨ x = 34 ∨ x = 63 ∨ x = 64 → gI τ x = gI σ x := fun x q => funext fun j => hg x j (by unfold uRT; omega) (fun w => by omega)
  unfold RT at *
  rw [hg 44 27 (by unfold uRT; omega) (fun w => by omega), hg 44 28 (by unfold uRT; omega) (fun w => by omega), f 32 (by omega), f 33 (by omega), f 34 (by omega), f 63 (by omega), f 64 (by omega)]
  exact h
def shR (σ : ha_St) (k : Nat) : Prop := (0 ≤ gI σ 70 k ∧ gI σ 70 k ≤ 60) ∧ (
  (gI σ 65 k = 0 ∧ gR σ (36 + k) 0 = none ∧ gR σ (36 + k) 1 = none ∧ gR σ (36 + k) 2 = none) ∨
  (gI σ 65 k = 1 ∧ gR σ (36 + k) 1 = none ∧ gR σ (36 + k) 2 = none ∧ ∃ b t, gR σ (36 + k) 0 = some b ∧ gT σ b = (t, 0) ∧ pT t ∧ 74 ≤ b ∧ kindOf t = gI σ 67 k ∧ gI σ b 4 = gI σ 66 k ∧ gripOf σ b t = gI σ 68 k ∧ gI σ b 3 = gI σ 69 k ∧ ∀ i, i < nC σ → gR σ 1 i ≠ some b) ∨
  (gI σ 65 k = 3 ∧ gR σ (36 + k) 0 = none ∧ gR σ (36 + k) 2 = none ∧ ∃ b n, gR σ (36 + k) 1 = some b ∧ gT σ b = (20, n) ∧ n ≤ 60 ∧ 74 ≤ b ∧ gI σ 70 k = Int32.ofNat n ∧ ∀ i, i < n → gI σ b i = gI σ 71 (60 * k + i)) ∨
  (gI σ 65 k = 4 ∧ gR σ (36 + k) 0 = none ∧ gR σ (36 + k) 1 = none ∧ ∃ b n, gR σ (36 + k) 2 = some b ∧ gT σ b = (22, n) ∧ n ≤ 60 ∧ 74 ≤ b ∧ gI σ 70 k = Int32.ofNat n ∧ (∀ i, i < n → gI σ b i = gI σ 71 (60 * k + i)) ∧ ∀ i, fits .byte (.int (gI σ b i)) = true))
def rowsD (σ : ha_St) : Prop := ∀ k l j i b, k < 8 → l < 8 → (1 ≤ j ∧ j ≤ 2) → (1 ≤ i ∧ i ≤ 2) → gR σ (36 + k) j = some b → gR σ (36 + l) i = some b → k = l
def RS (σ : ha_St) : Prop := (∀ k, k < 8 → shR σ k) ∧ rowsD σ
theorem shR.ag {σ τ : ha_St} {k : Nat} (h : shR σ k) (hT : kT σ τ) (hR : gR τ (36 + k) = gR σ (36 + k)) (hC : ∀ b, (gT σ b).1 ≠ 0 → (∀ i, i < nC σ → gR σ 1 i ≠ some b) → ∀ i, i < nC τ → gR τ 1 i ≠ some b) (h1 : ∀ x, 65 ≤ x → x ≤ 70 → gI τ x k = gI σ x k) (h2 : ∀ i, i < 60 → gI τ 71 (60 * k + i) = gI σ 71 (60 * k + i)) (hg : ∀ a, 74 ≤ a → (gT σ a).1 ≠ 0 → (∃ j, j ≤ 2 ∧ gR σ (36 + k) j = some a) → gI τ a = gI σ a) : shR τ k := by
  unfold shR
  rw [h1 65 (by omega) (by omega), h1 66 (by omega) (by omega), h1 67 (by omega) (by omega), h1 68 (by omega) (by omega), h1 69 (by omega) (by omega), h1 70 (by omega) (by omega), hR]
  obtain ⟨hs, h⟩ := h
  refine ⟨hs, ?_⟩
  rcases h with h | ⟨e, r1, r2, b, t, b1, b2, b3, b4, b5, b6, b7, b8, b9⟩ | ⟨e, r1, r2, b, n, b1, b2, b3, b4, b5, b6⟩ | ⟨e, r1, r2, b, n, b1, b2, b3, b4, b5, b6, b7⟩
  · exact Or.inl h
  · have nz : (gT σ b).1 ≠ 0 := by rw [b2]; exact pT_nz b3
    have eb := hg b b4 nz ⟨0, by omega, b1⟩
    refine Or.inr (Or.inl ⟨e, r1, r2, b, t, b1, (hT b nz).trans b2, b3, b4, b5, by rw [eb]; exact b6, ?_, by rw [eb]; exact b8, hC b nz b9⟩)
    unfold gripOf at *
    rw [eb]
    exact b7
  · have nz : (gT σ b).1 ≠ 0 := by rw [b2]; exact (by decide : (20 : Nat) ≠ 0)
    have eb := hg b b4 nz ⟨1, by omega, b1⟩
    refine Or.inr (Or.inr (Or.inl ⟨e, r1, r2, b, n, b1, (hT b nz).trans b2, b3, b4, b5, fun i hi => ?_⟩))
    rw [eb, h2 i (by omega)]
    exact b6 i hi
  · have nz : (gT σ b).1 ≠ 0 := by rw [b2]; exact (by decide : (22 : Nat) ≠ 0)
    have eb := hg b b4 nz ⟨2, by omega, b1⟩
    refine Or.inr (Or.inr (Or.inr ⟨e, r1, r2, b, n, b1, (hT b nz).trans b2, b3, b4, b5, fun i hi => ?_, fun i => by rw [eb]; exact b7 i⟩))
    rw [eb, h2 i (by omega)]
    exact b6 i hi
def uRS (a j : Nat) : Prop := (a = 44 ∧ j = 1) ∨ (65 ≤ a ∧ a ≤ 71) ∨ 74 ≤ a
theorem RS.ag {σ τ : ha_St} (h : RS σ) (hT : kT σ τ) (hR : ∀ k, k < 8 → gR τ (36 + k) = gR σ (36 + k)) (hR1 : gR τ 1 = gR σ 1) (hg : kI uRS σ τ) : RS τ := by
  have en : nC τ = nC σ := by unfold nC; rw [hg 44 1 (by unfold uRS; omega) (fun w => by omega)]
  refine ⟨fun k hk => (h.1 k hk).ag hT (hR k hk) (fun b _ q i hi => ?_) (fun x p q => hg x k (by unfold uRS; omega) (fun w => by omega)) (fun i _ => hg 71 _ (by unfold uRS; omega) (fun w => by omega)) (fun a h74 nz _ => funext fun j => hg a j (by unfold uRS; omega) (fun _ => nz)), ?_⟩
  · rw [hR1]
    rw [en] at hi
    exact q i hi
  · intro k l j i b hk hl hj hi q1 q2
    rw [hR k hk] at q1
    rw [hR l hl] at q2
    exact h.2 k l j i b hk hl hj hi q1 q2
/-- the pushes that are kept -/
def CV (σ : ha_St) : Prop := gI σ 0 5 = 0 → nlB σ 9 ∧ (∀ g, (∀ M, M ∈ nlS σ 9 → 0 ≤ vd M g) ↔ coneP (WL (puL σ (nC σ))) (puL σ (nC σ)).length g) ∧ clI σ = clL σ (nC σ)
def uCV (a j : Nat) : Prop := (a = 0 ∧ j = 5) ∨ (a = 9 ∧ j = 7) ∨ (a = 44 ∧ j = 1) ∨ (45 ≤ a ∧ a ≤ 49)
theorem puL_c {σ τ : ha_St} (h : ∀ x, 45 ≤ x → x ≤ 49 → gI τ x = gI σ x) : ∀ n, puL τ n = puL σ n ∧ clL τ n = clL σ n := by
  have hp : ∀ c p k, psV τ c p k = psV σ c p k := fun c p k => by unfold psV; rw [h 45 (by omega) (by omega), h 46 (by omega) (by omega), h 47 (by omega) (by omega), h 48 (by omega) (by omega), h 49 (by omega) (by omega)]
  have hd : ∀ c k, dirV τ c k = dirV σ c k := fun c k => dirV_c (h 46 (by omega) (by omega)) (h 47 (by omega) (by omega)) (h 48 (by omega) (by omega))
  have hm : ∀ c, mPc τ c = mPc σ c := fun c => by unfold mPc; rw [h 45 (by omega) (by omega)]
  have hl : ∀ c m, pL τ c m = pL σ c m := by
    intro c m
    induction m with
    | zero => rfl
    | succ m ih => unfold pL; rw [ih, hp, hp, hp]
  intro n
  induction n with
  | zero => exact ⟨rfl, rfl⟩
  | succ n ih =>
    refine ⟨?_, ?_⟩
    · unfold puL; rw [ih.1, hl, hm, h 45 (by omega) (by omega)]
    · unfold clL; rw [ih.2, hd, hd, hd, h 45 (by omega) (by omega)]
theorem CV.ag {σ τ : ha_St} (h : CV σ) (hg : kI uCV σ τ) (hl : ∀ x, 13 ≤ x → x ≤ 16 → gL τ x = gL σ x) : CV τ := by
  have e5 : gI τ 0 5 = gI σ 0 5 := hg 0 5 (by unfold uCV; omega) (fun w => by omega)
  have e7 : gI τ 9 7 = gI σ 9 7 := hg 9 7 (by unfold uCV; omega) (fun w => by omega)
  have en : nC τ = nC σ := by unfold nC; rw [hg 44 1 (by unfold uCV; omega) (fun w => by omega)]
  have ep := puL_c (σ := σ) (τ := τ) (fun x p q => funext fun j => hg x j (by unfold uCV; omega) (fun w => by omega)) (nC σ)
  have ec : cnt τ 9 = cnt σ 9 := by unfold cnt; rw [e7]
  have ed : ndS τ 9 = ndS σ 9 := funext fun k => by unfold ndS; rw [hl 13 (by omega) (by omega), hl 14 (by omega) (by omega), hl 15 (by omega) (by omega)]
  have es : nlS τ 9 = nlS σ 9 := by unfold nlS; rw [ec, ed]
  have eb : nlB τ 9 = nlB σ 9 := by unfold nlB; rw [ec, ed]
  have ek : clI τ = clI σ := by unfold clI; rw [hl 16 (by omega) (by omega)]
  unfold CV at *
  rw [e5, en, ep.1, ep.2, es, eb, ek]
  exact h
def uPV (a j : Nat) : Prop := (26 ≤ a ∧ a ≤ 28) ∨ a = 30 ∨ a = 31
theorem PV.ag {σ τ : ha_St} (h : PV σ) (hg : kI uPV σ τ) : PV τ := by
  have f : ∀ x, (26 ≤ x ∧ x ≤ 28) ∨ x = 30 ∨ x = 31 → gI τ x = gI σ x := fun x q => funext fun j => hg x j (by unfold uPV; omega) (fun w => by omega)
  unfold PV rowsP at *
  rw [f 26 (by omega), f 27 (by omega), f 28 (by omega), f 30 (by omega), f 31 (by omega)]
  exact h
def FN (σ : ha_St) : Prop := ∀ a, (gT σ a).1 ≠ 0 → a < gn σ
def Inv (σ : ha_St) : Prop := LY σ ∧ FN σ ∧ nOK σ 9 ∧ RC σ ∧ RLd σ ∧ RP σ ∧ RT σ ∧ RS σ ∧ CV σ ∧ PV σ
/-- what the reference's methods want -/
def IM (σ : ha_St) : Prop := LY σ ∧ MN σ ∧ (0 ≤ gI σ 44 17 ∧ gI σ 44 17 ≤ 16) ∧ mSt σ ∧ (0 ≤ gI σ 44 27 ∧ gI σ 44 27 ≤ 40) ∧ SZ σ
theorem shOK_k {d : Int32} (h : shOK d) : d.toNatClampNeg < 8 := by
  have := tn_lt h.1 h.l
  rw [show (8 : Int32).toNatClampNeg = 8 by decide] at this
  exact this
theorem Inv.M {σ : ha_St} (h : Inv σ) : IM σ := ⟨h.1, h.2.2.2.1.2.1, h.2.2.2.2.1.2.1, h.2.2.2.2.2.1.2.1, h.2.2.2.2.2.2.1.2.1, fun d hd => (h.2.2.2.2.2.2.2.1.1 _ (shOK_k hd)).1⟩
theorem IM.ag {σ τ : ha_St} (h : IM σ) (hY : LY τ) (hg : ∀ a, 44 ≤ a → a ≤ 72 → gI τ a = gI σ a) : IM τ := by
  obtain ⟨-, h2, h3, h4, h5, h6⟩ := h
  unfold IM MN mSt SZ at *
  rw [hg 44 (by omega) (by omega), hg 60 (by omega) (by omega), hg 61 (by omega) (by omega), hg 70 (by omega) (by omega)]
  exact ⟨hY, h2, h3, h4, h5, h6⟩
/-- only reckoning cells have changed -/
def scr (a j : Nat) : Prop := (2 ≤ a ∧ a ≤ 8) ∨ (21 ≤ a ∧ a ≤ 25) ∨ (52 ≤ a ∧ a ≤ 56) ∨ a = 58 ∨ a = 59 ∨ a = 62 ∨ a = 72 ∨ a = 73 ∨ (a = 44 ∧ (j = 0 ∨ j = 9 ∨ j = 12 ∨ j = 13))
def sagr (σ τ : ha_St) : Prop := gT τ = gT σ ∧ gR τ = gR σ ∧ gn σ ≤ gn τ ∧ (∀ a j, ¬ scr a j → gI τ a j = gI σ a j) ∧ ∀ a, 9 ≤ a → a ≤ 16 → gL τ a = gL σ a
theorem LY.grow {σ τ : ha_St} (h : LY σ) (hT : gT τ = gT σ) (hR : gR τ = gR σ) (hn : gn σ ≤ gn τ) : LY τ := by
  unfold LY at *
  rw [hT, hR]
  exact ⟨h.1, h.2.1, Nat.le_trans h.2.2 hn⟩
theorem Inv.ag {σ τ : ha_St} (h : Inv σ) (s : sagr σ τ) : Inv τ := by
  obtain ⟨h1, h2, h3, h4, h5, h6, h7, h8, h9, h10⟩ := h
  obtain ⟨s1, s2, s3, s4, s5⟩ := s
  have kt : kT σ τ := fun a _ => by rw [s1]
  have ki : ∀ U : Nat → Nat → Prop, (∀ a j, U a j → ¬ scr a j) → kI U σ τ := fun U hU a j hu _ => s4 a j (hU a j hu)
  refine ⟨h1.grow s1 s2 s3, fun a ha => ?_, ?_, h4.ag kt (by rw [s2]) (ki _ (fun a j u => by unfold uRC at u; unfold scr; omega)), h5.ag (ki _ (fun a j u => by unfold uRL at u; unfold scr; omega)), h6.ag (ki _ (fun a j u => by unfold uRP at u; unfold scr; omega)), h7.ag (ki _ (fun a j u => by unfold uRT at u; unfold scr; omega)), h8.ag kt (fun k _ => by rw [s2]) (by rw [s2]) (ki _ (fun a j u => by unfold uRS at u; unfold scr; omega)), h9.ag (ki _ (fun a j u => by unfold uCV at u; unfold scr; omega)) (fun x p q => s5 x (by omega) (by omega)), h10.ag (ki _ (fun a j u => by unfold uPV at u; unfold scr; omega))⟩
  · rw [s1] at ha
    exact Nat.lt_of_lt_of_le (h2 a ha) s3
  · unfold nOK at *
    rw [s4 9 7 (by unfold scr; omega)]
    exact h3
theorem sagr.rf {σ : ha_St} : sagr σ σ := ⟨rfl, rfl, Nat.le_refl _, fun _ _ _ => rfl, fun _ _ _ => rfl⟩
theorem sagr.tr {σ σ1 σ2 : ha_St} (h : sagr σ σ1) (g : sagr σ1 σ2) : sagr σ σ2 := ⟨g.1.trans h.1, g.2.1.trans h.2.1, Nat.le_trans h.2.2.1 g.2.2.1, fun a j n => (g.2.2.2.1 a j n).trans (h.2.2.2.1 a j n), fun a p q => (g.2.2.2.2 a p q).trans (h.2.2.2.2 a p q)⟩
theorem sagr_J {σ τ : ha_St} (h : frJ σ τ) : sagr σ τ := ⟨h.1, h.2.1, Nat.le_of_eq h.2.2.1.symm, fun a j n => h.2.2.2.1 a j (by unfold scr at n; unfold scJ; omega), fun a p q => h.2.2.2.2 a (by omega)⟩
theorem sagr_X {σ τ : ha_St} (h : frX 2 9 σ τ) : sagr σ τ := ⟨h.1, h.2.1, Nat.le_of_eq h.2.2.1.symm, fun a j n => by rw [(h.2.2.2 a (by unfold scr at n; omega)).1], fun a p q => (h.2.2.2 a (by omega)).2⟩
theorem sagr_Y {σ τ : ha_St} (h : frX 21 26 σ τ) : sagr σ τ := ⟨h.1, h.2.1, Nat.le_of_eq h.2.2.1.symm, fun a j n => by rw [(h.2.2.2 a (by unfold scr at n; omega)).1], fun a p q => (h.2.2.2 a (by omega)).2⟩
theorem sagr_G {σ τ : ha_St} (h : gro σ τ) : sagr σ τ := by
  obtain ⟨g, hg, rfl⟩ := h
  exact ⟨rfl, rfl, hg, fun _ _ _ => rfl, fun _ _ _ => rfl⟩
theorem sagr_73 {σ : ha_St} {x : Int64} : sagr σ (sL σ 73 0 x) := ⟨rfl, rfl, Nat.le_refl _, fun _ _ _ => rfl, fun a p q => funext fun j => by rw [gL_sL, if_neg (by omega)]⟩
/-- a call of the class leaves the reference -/
def fC (σ τ : ha_St) : Prop := LY τ ∧ ∀ a, 44 ≤ a → a ≤ 72 → gI τ a = gI σ a
