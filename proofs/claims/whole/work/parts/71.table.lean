/-! ===== the table of set-ups to go ===== -/
def gAl (n : Nat) : Int32 := 1 <<< (Int32.ofNat n &&& 31) - 1
theorem gAl_tn : ∀ n : Nat, n ≤ 12 → (0 ≤ gAl n ∧ gAl n < 4096) ∧ (gAl n).toNatClampNeg = 2 ^ n - 1 := by decide
def gfT (W : Int32 → Int32 → Int32) (al : Int32) (μ : Nat → Int32) : Prop := μ al.toNatClampNeg = 0 ∧ ∀ d, 0 ≤ d → d < al → μ d.toNatClampNeg = mnV W μ d
theorem tn_le_iff {a b : Int32} (ha : 0 ≤ a) (hb : 0 ≤ b) : a ≤ b ↔ a.toNatClampNeg ≤ b.toNatClampNeg := by
  rw [Int32.le_iff_toInt_le]
  have := tn_int ha
  have := tn_int hb
  omega
theorem tn_lt_iff {a b : Int32} (ha : 0 ≤ a) (hb : 0 ≤ b) : a < b ↔ a.toNatClampNeg < b.toNatClampNeg := by
  rw [Int32.lt_iff_toInt_lt]
  have := tn_int ha
  have := tn_int hb
  omega
theorem two_pos (n : Nat) : 0 < 2 ^ n := Nat.pow_pos (by decide)
theorem in_al {n : Nat} (hn : n ≤ 12) {d : Int32} (h0 : 0 ≤ d) : d ≤ gAl n ↔ d.toNatClampNeg < 2 ^ n := by
  have k := gAl_tn n hn
  rw [tn_le_iff h0 k.1.1, k.2]
  have := two_pos n
  omega
theorem lt_al {n : Nat} (hn : n ≤ 12) {d : Int32} (h0 : 0 ≤ d) : d < gAl n ↔ d.toNatClampNeg < 2 ^ n ∧ d.toNatClampNeg ≠ 2 ^ n - 1 := by
  have k := gAl_tn n hn
  rw [tn_lt_iff h0 k.1.1, k.2]
  have := two_pos n
  omega
/-- a set-up stays within, and goes up -/
theorem GW_b {S A : Nat → Int32} {n : Nat} (h : stOK S A n) {d s : Int32} (h0 : 0 ≤ d) (h1 : d ≤ gAl n) : d ≤ GW S A n d s ∧ GW S A n d s ≤ gAl n ∧ 0 ≤ GW S A n d s := by
  have hd := (in_al h.1 h0).mp h1
  have k := GW_ok (side := s) h h0 hd
  exact ⟨(tn_le_iff h0 k.1).mpr (sub_le k.2.2), (in_al h.1 k.1).mpr k.2.1, k.1⟩
theorem mn_spec {W : Int32 → Int32 → Int32} {μ : Nat → Int32} {d : Int32} : ∀ k, (itI (mnS W μ d) k 99 = 99 ∨ ∃ s, s < k ∧ W d (Int32.ofNat s) ≠ d ∧ itI (mnS W μ d) k 99 = μ (W d (Int32.ofNat s)).toNatClampNeg + 1) ∧ (∀ s, s < k → W d (Int32.ofNat s) ≠ d → itI (mnS W μ d) k 99 ≤ μ (W d (Int32.ofNat s)).toNatClampNeg + 1)
  | 0 => ⟨Or.inl rfl, fun s hs => by omega⟩
  | k + 1 => by
    have ih := mn_spec (W := W) (μ := μ) (d := d) k
    show (mnS W μ d k (itI (mnS W μ d) k 99) = 99 ∨ ∃ s, s < k + 1 ∧ W d (Int32.ofNat s) ≠ d ∧ mnS W μ d k (itI (mnS W μ d) k 99) = μ (W d (Int32.ofNat s)).toNatClampNeg + 1) ∧ (∀ s, s < k + 1 → W d (Int32.ofNat s) ≠ d → mnS W μ d k (itI (mnS W μ d) k 99) ≤ μ (W d (Int32.ofNat s)).toNatClampNeg + 1)
    generalize itI (mnS W μ d) k 99 = x at ih
    unfold mnS
    by_cases q : W d (Int32.ofNat k) ≠ d ∧ μ (W d (Int32.ofNat k)).toNatClampNeg + 1 < x
    · rw [if_pos q]
      refine ⟨Or.inr ⟨k, by omega, q.1, rfl⟩, fun s hs hw => ?_⟩
      by_cases e : s = k
      · rw [e]; exact Int32.le_refl _
      · exact Int32.le_trans (Int32.le_of_lt q.2) (ih.2 s (by omega) hw)
    · rw [if_neg q]
      refine ⟨?_, fun s hs hw => ?_⟩
      · rcases ih.1 with z | ⟨s, h1, h2⟩
        · exact Or.inl z
        · exact Or.inr ⟨s, by omega, h2⟩
      · by_cases e : s = k
        · rw [e] at hw ⊢
          exact Int32.not_lt.mp (fun z => q ⟨hw, z⟩)
        · exact ih.2 s (by omega) hw
theorem oN12 {a : Nat} (h : a ≤ 12) : 0 ≤ Int32.ofNat a ∧ Int32.ofNat a ≤ 12 := by
  have : ∀ a : Nat, a ≤ 12 → 0 ≤ Int32.ofNat a ∧ Int32.ofNat a ≤ 12 := by decide
  exact this a h
theorem oN_le {a b : Nat} (h : b ≤ 12) (g : a < b) : Int32.ofNat a + 1 ≤ Int32.ofNat b := by
  have : ∀ b : Nat, b ≤ 12 → ∀ a : Nat, a < b → Int32.ofNat a + 1 ≤ Int32.ofNat b := by decide
  exact this b h a g
theorem mu_spec {S A : Nat → Int32} {n : Nat} {μ : Nat → Int32} (h : stOK S A n) (hT : gfT (GW S A n) (gAl n) μ) : ∀ m (d : Int32), msN n d.toNatClampNeg < m → 0 ≤ d → d ≤ gAl n → 0 ≤ μ d.toNatClampNeg ∧ μ d.toNatClampNeg ≤ Int32.ofNat (msN n d.toNatClampNeg) ∧ (d < gAl n → ∃ s : Int32, (0 ≤ s ∧ s < 6) ∧ GW S A n d s ≠ d ∧ μ (GW S A n d s).toNatClampNeg + 1 = μ d.toNatClampNeg)
  | 0, d, hm, _, _ => by omega
  | m + 1, d, hm, h0, h1 => by
    have ml := msN_le n d.toNatClampNeg
    have hn := h.1
    by_cases e : d = gAl n
    · rw [e, hT.1]
      exact ⟨by decide, (oN12 (Nat.le_trans (msN_le n _) hn)).1, fun q => absurd q Int32.lt_irrefl⟩
    · have hlt : d < gAl n := by grind
      have hl := (lt_al hn h0).mp hlt
      obtain ⟨s1, hs1, hw1⟩ := GW_on h h0 hl.1 hl.2
      have up : ∀ s : Int32, GW S A n d s ≠ d → (0 ≤ μ (GW S A n d s).toNatClampNeg ∧ μ (GW S A n d s).toNatClampNeg ≤ 12) ∧ μ (GW S A n d s).toNatClampNeg + 1 ≤ Int32.ofNat (msN n d.toNatClampNeg) := by
        intro s hs
        have k := GW_ok (side := s) h h0 hl.1
        have b := GW_b (s := s) h h0 h1
        have lt := msN_lt k.2.2 k.2.1 (tn_ne h0 k.1 (fun z => hs z.symm))
        have ih := mu_spec h hT m (GW S A n d s) (by omega) b.2.2 b.2.1
        have v1 := oN_le (a := msN n (GW S A n d s).toNatClampNeg) (b := msN n d.toNatClampNeg) (by omega) lt
        have u := oN12 (a := msN n (GW S A n d s).toNatClampNeg) (by omega)
        have v2 := ih.2.1
        have v3 := ih.1
        clear ih lt b k hs hT h
        generalize μ (GW S A n d s).toNatClampNeg = x at *
        generalize Int32.ofNat (msN n (GW S A n d s).toNatClampNeg) = y at *
        generalize Int32.ofNat (msN n d.toNatClampNeg) = z at *
        exact ⟨⟨v3, by grind⟩, by grind⟩
      have sp := mn_spec (W := GW S A n) (μ := μ) (d := d) 6
      rw [show itI (mnS (GW S A n) μ d) 6 99 = μ d.toNatClampNeg from (hT.2 d h0 hlt).symm] at sp
      have es1 : Int32.ofNat s1.toNatClampNeg = s1 := nI_tn hs1.1
      have s6 : s1.toNatClampNeg < 6 := by
        have := tn_lt hs1.1 hs1.2
        rw [show (6 : Int32).toNatClampNeg = 6 by decide] at this
        exact this
      have le1 := sp.2 s1.toNatClampNeg s6 (by rw [es1]; exact hw1)
      rw [es1] at le1
      have u1 := up s1 hw1
      have o12 := oN12 (a := msN n d.toNatClampNeg) (by omega)
      have hle : μ d.toNatClampNeg ≤ Int32.ofNat (msN n d.toNatClampNeg) := Int32.le_trans le1 u1.2
      rcases sp.1 with z | ⟨s, hs, hw, es⟩
      · rw [z] at hle
        exact absurd hle (by grind)
      · have u2 := up _ hw
        refine ⟨?_, hle, fun _ => ⟨Int32.ofNat s, ofN6 s hs, hw, es.symm⟩⟩
        rw [es]
        have v1 := u2.1
        generalize μ (GW S A n d (Int32.ofNat s)).toNatClampNeg = x at v1
        clear es u2 up sp hT
        grind
theorem mu_ok {S A : Nat → Int32} {n : Nat} {μ : Nat → Int32} (h : stOK S A n) (hT : gfT (GW S A n) (gAl n) μ) {d : Int32} (h0 : 0 ≤ d) (h1 : d ≤ gAl n) : 0 ≤ μ d.toNatClampNeg ∧ μ d.toNatClampNeg ≤ 12 ∧ (d < gAl n → ∃ s : Int32, (0 ≤ s ∧ s < 6) ∧ GW S A n d s ≠ d ∧ μ (GW S A n d s).toNatClampNeg + 1 = μ d.toNatClampNeg) := by
  have k := mu_spec h hT (msN n d.toNatClampNeg + 1) d (by omega) h0 h1
  have o := oN12 (a := msN n d.toNatClampNeg) (Nat.le_trans (msN_le _ _) h.1)
  exact ⟨k.1, Int32.le_trans k.2.1 o.2, k.2.2⟩
theorem mu_0 {S A : Nat → Int32} {n : Nat} {μ : Nat → Int32} (h : stOK S A n) (hT : gfT (GW S A n) (gAl n) μ) {d : Int32} (h0 : 0 ≤ d) (h1 : d ≤ gAl n) : μ d.toNatClampNeg = 0 ↔ d = gAl n := by
  constructor
  · intro q
    refine Classical.byContradiction (fun z => ?_)
    obtain ⟨s, -, -, e⟩ := (mu_ok h hT h0 h1).2.2 (by grind)
    have b := GW_b (s := s) h h0 h1
    have k := mu_ok h hT b.2.2 b.2.1
    rw [q] at e
    have k1 := k.1
    have k2 := k.2.1
    grind
  · intro q; rw [q]; exact hT.1
/-- the steps of the reference are good -/
def mSt (σ : ha_St) : Prop := (0 ≤ gI σ 44 23 ∧ gI σ 44 23 ≤ 12) ∧ stOK (gI σ 60) (gI σ 61) (gI σ 44 23).toNatClampNeg
theorem WK_G {σ : ha_St} : WK σ = GW (gI σ 60) (gI σ 61) (gI σ 44 23).toNatClampNeg := rfl
theorem mAll_G {σ : ha_St} (h : 0 ≤ gI σ 44 23) : mAll σ = gAl (gI σ 44 23).toNatClampNeg := by unfold mAll gAl; rw [nI_tn h]
theorem mSt_WB {σ : ha_St} (h : mSt σ) : WB σ := by
  unfold WB
  rw [mAll_G h.1.1, WK_G]
  exact ⟨(gAl_tn _ h.2.1).1, fun d s h0 h1 _ _ => ⟨(GW_b h.2 h0 h1).1, (GW_b h.2 h0 h1).2.1⟩⟩
theorem mfT_G {σ : ha_St} {μ : Nat → Int32} (h : 0 ≤ gI σ 44 23) : mfT σ μ ↔ gfT (GW (gI σ 60) (gI σ 61) (gI σ 44 23).toNatClampNeg) (gAl (gI σ 44 23).toNatClampNeg) μ := by
  unfold mfT gfT
  rw [mAll_G h, WK_G]
theorem mSt_c {σ τ : ha_St} (h : sSt σ τ) (g : mSt σ) : mSt τ := by
  unfold mSt at *
  rw [h.1, h.2.1, h.2.2]
  exact g
theorem mfQ_st {σ σ' : ha_St} (h : mfQ σ σ') : sSt σ σ' := ⟨frM_n h.1, h.1.2.2.2.1 60 (by omega), h.1.2.2.2.1 61 (by omega)⟩
theorem mSt_PLN {σ : ha_St} (h : mSt σ) : PLN σ := by
  intro τ hst
  have ht := mSt_c hst h
  refine ⟨mSt_WB ht, fun τ' hm d h0 h1 => ?_, fun τ' hm => ?_⟩
  · have hs := mfQ_st hm
    have hT := (mfT_G ht.1.1).mp hm.2
    rw [mAll_G ht.1.1] at h1
    obtain ⟨s, s1, s2, s3⟩ := (mu_ok ht.2 hT h0 (Int32.le_of_lt h1)).2.2 h1
    refine ⟨s, s1, ?_⟩
    unfold sfG
    rw [wkS_c hs, WK_G]
    exact ⟨s2, s3⟩
  · have hT := (mfT_G ht.1.1).mp hm.2
    have k := mu_ok ht.2 hT (d := 0) (by decide) (gAl_tn _ ht.2.1).1.1
    rw [tn_0] at k
    exact ⟨k.1, k.2.1⟩
