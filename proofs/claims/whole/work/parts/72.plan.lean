/-! ===== the class's plan is the least row ===== -/
def gG (W : Int32 → Int32 → Int32) (μ : Nat → Int32) (d s : Int32) : Prop := W d s ≠ d ∧ μ (W d s).toNatClampNeg + 1 = μ d.toNatClampNeg
def gsf (W : Int32 → Int32 → Int32) (μ : Nat → Int32) (d r : Int32) : Prop := (0 ≤ r ∧ r < 6) ∧ gG W μ d r ∧ ∀ s, 0 ≤ s → s < r → ¬ gG W μ d s
def gPath (W : Int32 → Int32 → Int32) (μ : Nat → Int32) : Nat → Int32 → Prop
  | 0, d => d = 0
  | k + 1, d => ∃ d0 r, gPath W μ k d0 ∧ gsf W μ d0 r ∧ d = W d0 r
theorem gsf_det {W : Int32 → Int32 → Int32} {μ : Nat → Int32} {d q r : Int32} (h : gsf W μ d q) (g : gsf W μ d r) : q = r := by
  by_cases e : q < r
  · exact absurd h.2.1 (g.2.2 q h.1.1 e)
  · by_cases e2 : r < q
    · exact absurd g.2.1 (h.2.2 r g.1.1 e2)
    · grind
theorem gPath_det {W : Int32 → Int32 → Int32} {μ : Nat → Int32} : ∀ {k : Nat} {d e : Int32}, gPath W μ k d → gPath W μ k e → d = e
  | 0, d, e, h, g => by rw [show d = 0 from h, show e = 0 from g]
  | k + 1, d, e, ⟨d0, r, h1, h2, h3⟩, ⟨e0, q, g1, g2, g3⟩ => by
    have a := gPath_det h1 g1
    subst a
    have b := gsf_det h2 g2
    rw [h3, g3, b]
theorem mPath_G {σ : ha_St} : ∀ {k : Nat} {d : Int32}, mPath σ k d ↔ gPath (WK σ) (gI σ 62) k d
  | 0, _ => Iff.rfl
  | k + 1, d => by
    constructor
    · rintro ⟨d0, r, h1, h2, h3⟩; exact ⟨d0, r, mPath_G.mp h1, h2, h3⟩
    · rintro ⟨d0, r, h1, h2, h3⟩; exact ⟨d0, r, mPath_G.mpr h1, h2, h3⟩
theorem AFT_G {σ : ha_St} : AFT σ = GW (gI σ 27) (gI σ 28) (gI σ 26 2).toNatClampNeg := by
  funext d side
  unfold AFT GW
  refine itI_congr _ _ (fun s x _ => ?_)
  unfold afS gwS
  rcases and1 (gI σ 27 s >>> (side &&& 31)) with q | q
  · rw [if_neg (fun z => z.1 q), if_neg (fun z => absurd (q.symm.trans z.1) (by decide))]
  · rw [q]
    by_cases z : (gI σ 28 s &&& (x ^^^ (-1))) = 0
    · rw [if_pos ⟨by decide, z⟩, if_pos ⟨rfl, z⟩]
    · rw [if_neg (fun y => z y.2), if_neg (fun y => z y.2)]
theorem frT_t {σ s : ha_St} (h : frT σ s) {j : Nat} {v : Int32} : frT σ (sI s 29 j v) := ⟨h.1, h.2.1, h.2.2.1, h.2.2.2.1, fun a ha => (sI_g ha).trans (h.2.2.2.2 a ha)⟩
theorem frT_AFT {σ s : ha_St} (h : frT σ s) : AFT s = AFT σ := by rw [AFT_G, AFT_G, h.2.2.2.2 27 (by omega), h.2.2.2.2 28 (by omega), h.2.2.2.2 26 (by omega)]
theorem zero_sp {σ : ha_St} : ∀ m, frT σ (itF mrZ m σ) ∧ ∀ x, x < m → gI (itF mrZ m σ) 29 x = 0
  | 0 => ⟨frT.rf, fun x h => by omega⟩
  | m + 1 => by
    have ih := zero_sp (σ := σ) m
    refine ⟨frT_t ih.1, fun x hx => ?_⟩
    show gI (sI (itF mrZ m σ) 29 m 0) 29 x = 0
    rw [gI_sI]
    by_cases e : x = m
    · rw [if_pos ⟨rfl, e⟩]
    · rw [if_neg (fun q => e q.2)]
      exact ih.2 x (by omega)
theorem itF_ind {f : Nat → ha_St → ha_St} (I : Nat → ha_St → Prop) {s : ha_St} (h0 : I 0 s) : ∀ n, (∀ k t, k < n → I k t → I (k + 1) (f k t)) → I n (itF f n s)
  | 0, _ => h0
  | n + 1, hs => hs n _ (by omega) (itF_ind I h0 n (fun k t hk => hs k t (by omega)))
/-- marks -/
def mkI (W : Int32 → Int32 → Int32) (σ : ha_St) (al i : Nat) (s : ha_St) : Prop := frT σ s ∧ (∀ x, x ≤ al → gI s 29 x = 0 ∨ gI s 29 x = 1) ∧ gI s 29 0 = 1 ∧ ∀ d, d < i → gI s 29 d = 1 → ∀ k, k < 6 → gI s 29 (W (Int32.ofNat d) (Int32.ofNat k)).toNatClampNeg = 1
theorem p12 {n : Nat} (h : n ≤ 12) : 2 ^ n ≤ 4096 := by
  have := Nat.pow_le_pow_right (n := 2) (by decide) h
  omega
theorem oNl {n d : Nat} (hn : n ≤ 12) (h : d < 2 ^ n) : 0 ≤ Int32.ofNat d ∧ (Int32.ofNat d).toNatClampNeg = d ∧ Int32.ofNat d ≤ gAl n := by
  have hp := p12 hn
  have t : (Int32.ofNat d).toNatClampNeg = d := Int32.toNatClampNeg_ofNat_of_lt (by omega)
  have i : (Int32.ofNat d).toInt = (d : Int) := nI_toInt (by omega)
  have h0 : 0 ≤ Int32.ofNat d := by rw [Int32.le_iff_toInt_le, i, Int32.toInt_zero]; omega
  exact ⟨h0, t, (in_al hn h0).mpr (by rw [t]; exact h)⟩
theorem mark_sp {σ : ha_St} {n : Nat} (hS : stOK (gI σ 27) (gI σ 28) n) (hn : (gI σ 26 2).toNatClampNeg = n) : mkI (AFT σ) σ (2 ^ n - 1) (2 ^ n - 1) (markF σ (gAl n)) := by
  have hal := gAl_tn n hS.1
  have hp := two_pos n
  have hp12 := p12 hS.1
  have z := zero_sp (σ := σ) (2 ^ n - 1 + 1)
  unfold markF
  rw [hal.2]
  refine itF_ind (mkI (AFT σ) σ (2 ^ n - 1)) ?_ _ ?_
  · refine ⟨frT_t z.1, fun x hx => ?_, by rw [gI_sI, if_pos ⟨rfl, rfl⟩], fun d hd => by omega⟩
    rw [gI_sI]
    by_cases e : x = 0
    · rw [if_pos ⟨rfl, e⟩]; exact Or.inr rfl
    · rw [if_neg (fun q => e q.2), z.2 x (by omega)]; exact Or.inl rfl
  · rintro d s hd ⟨f, v, s0, cl⟩
    have o := oNl hS.1 (show d < 2 ^ n by omega)
    unfold mrD
    by_cases q : gI s 29 d = 0
    · rw [if_pos q]
      refine ⟨f, v, s0, fun e he h1 k hk => ?_⟩
      by_cases z2 : e = d
      · rw [z2, q] at h1; exact absurd h1 (by decide)
      · exact cl e (by omega) h1 k hk
    · rw [if_neg q]
      have hq1 : gI s 29 d = 1 := (v d (by omega)).resolve_left q
      have J := itF_ind (f := mrS d) (fun k u => frT σ u ∧ (∀ x, x ≤ 2 ^ n - 1 → gI u 29 x = 0 ∨ gI u 29 x = 1) ∧ (∀ x, x ≤ d → gI u 29 x = gI s 29 x) ∧ (∀ x, gI s 29 x = 1 → gI u 29 x = 1) ∧ ∀ j, j < k → gI u 29 (AFT σ (Int32.ofNat d) (Int32.ofNat j)).toNatClampNeg = 1) (s := s) ⟨f, v, fun _ _ => rfl, fun _ h => h, fun j hj => by omega⟩ 6 ?_
      · refine ⟨J.1, J.2.1, (J.2.2.1 0 (by omega)).trans s0, fun e he h1 k hk => ?_⟩
        by_cases z2 : e = d
        · rw [z2]; exact J.2.2.2.2 k hk
        · rw [J.2.2.1 e (by omega)] at h1
          exact J.2.2.2.1 _ (cl e (by omega) h1 k hk)
      · rintro k u hk ⟨g1, g2, g3, g4, g5⟩
        have b := GW_b (s := Int32.ofNat k) hS o.1 o.2.2
        have bn := (in_al hS.1 b.2.2).mp b.2.1
        have bl := (tn_le_iff o.1 b.2.2).mp b.1
        rw [o.2.1] at bl
        have eA : AFT σ (Int32.ofNat d) (Int32.ofNat k) = GW (gI σ 27) (gI σ 28) n (Int32.ofNat d) (Int32.ofNat k) := by rw [AFT_G, hn]
        unfold mrS
        rw [frT_AFT g1]
        rw [← eA] at b bn bl
        rw [if_pos ⟨b.2.2, Int32.lt_of_le_of_lt b.2.1 hal.1.2⟩]
        refine ⟨frT_t g1, fun x hx => ?_, fun x hx => ?_, fun x hx => ?_, fun j hj => ?_⟩
        · rw [gI_sI]
          split
          · exact Or.inr rfl
          · exact g2 x hx
        · rw [gI_sI]
          by_cases e : x = (AFT σ (Int32.ofNat d) (Int32.ofNat k)).toNatClampNeg
          · rw [if_pos ⟨rfl, e⟩]
            rw [show x = d by omega, hq1]
          · rw [if_neg (fun y => e y.2)]
            exact g3 x hx
        · rw [gI_sI]
          split
          · rfl
          · exact g4 x hx
        · rw [gI_sI]
          by_cases e : j = k
          · rw [e, if_pos ⟨rfl, rfl⟩]
          · split
            · rfl
            · exact g5 j (by omega)
/-- the least behind, by the table -/
theorem lb_spec {σ : ha_St} {d : Int32} {T : Nat → Int32} (hT : ∀ s, s < 6 → (d < AFT σ d (Int32.ofNat s) ∧ AFT σ d (Int32.ofNat s) < 4096 ↔ AFT σ d (Int32.ofNat s) ≠ d)) (hv : ∀ s, s < 6 → AFT σ d (Int32.ofNat s) ≠ d → gI σ 29 (AFT σ d (Int32.ofNat s)).toNatClampNeg = T s) : ∀ k, k ≤ 6 → (itI (lbS σ d) k 13 = 13 ∨ ∃ s, s < k ∧ AFT σ d (Int32.ofNat s) ≠ d ∧ itI (lbS σ d) k 13 = T s) ∧ ∀ s, s < k → AFT σ d (Int32.ofNat s) ≠ d → itI (lbS σ d) k 13 ≤ T s
  | 0, _ => ⟨Or.inl rfl, fun s hs => by omega⟩
  | k + 1, hk => by
    have ih := lb_spec hT hv k (by omega)
    show (lbS σ d k (itI (lbS σ d) k 13) = 13 ∨ ∃ s, s < k + 1 ∧ AFT σ d (Int32.ofNat s) ≠ d ∧ lbS σ d k (itI (lbS σ d) k 13) = T s) ∧ ∀ s, s < k + 1 → AFT σ d (Int32.ofNat s) ≠ d → lbS σ d k (itI (lbS σ d) k 13) ≤ T s
    generalize itI (lbS σ d) k 13 = x at ih
    unfold lbS
    by_cases w : AFT σ d (Int32.ofNat k) ≠ d
    · rw [if_pos ((hT k (by omega)).mpr w), hv k (by omega) w]
      by_cases q : T k < x
      · rw [if_pos q]
        refine ⟨Or.inr ⟨k, by omega, w, rfl⟩, fun s hs hw => ?_⟩
        by_cases e : s = k
        · rw [e]; exact Int32.le_refl _
        · exact Int32.le_trans (Int32.le_of_lt q) (ih.2 s (by omega) hw)
      · rw [if_neg q]
        refine ⟨?_, fun s hs hw => ?_⟩
        · rcases ih.1 with z | ⟨s, h1, h2⟩
          · exact Or.inl z
          · exact Or.inr ⟨s, by omega, h2⟩
        · by_cases e : s = k
          · rw [e]; exact Int32.not_lt.mp q
          · exact ih.2 s (by omega) hw
    · rw [if_neg (fun z => w ((hT k (by omega)).mp z))]
      refine ⟨?_, fun s hs hw => ?_⟩
      · rcases ih.1 with z | ⟨s, h1, h2⟩
        · exact Or.inl z
        · exact Or.inr ⟨s, by omega, h2⟩
      · by_cases e : s = k
        · rw [e] at hw; exact absurd hw w
        · exact ih.2 s (by omega) hw
/-- the table filled: 1 and the set-ups to go, where reached -/
def tgI (σ : ha_St) (μ ρ : Nat → Int32) (al i : Nat) (u : ha_St) : Prop := frT σ u ∧ ∀ x, x ≤ al → (i ≤ x → gI u 29 x = if ρ x = 1 then 1 + μ x else 0) ∧ (x < i → gI u 29 x = ρ x)
theorem byte_ok : ∀ m : Nat, m ≤ 12 → (1 + Int32.ofNat m).toInt8.toInt32.toInt8.toInt32 = 1 + Int32.ofNat m ∧ (1 + Int32.ofNat m) ≠ 0 ∧ 1 + Int32.ofNat m ≤ 13 ∧ (Int32.ofNat m = 0 → 1 + Int32.ofNat m = 1) := by decide
theorem as12 {x : Int32} (h0 : 0 ≤ x) (h1 : x ≤ 12) : ∃ m : Nat, m ≤ 12 ∧ x = Int32.ofNat m := ⟨x.toNatClampNeg, by have := tn_le h0 h1; rw [show (12 : Int32).toNatClampNeg = 12 by decide] at this; exact this, (nI_tn h0).symm⟩
theorem LB_mu {σ u : ha_St} {n d : Nat} {μ ρ : Nat → Int32} (hS : stOK (gI σ 27) (gI σ 28) n) (hn : (gI σ 26 2).toNatClampNeg = n) (hT : gfT (GW (gI σ 27) (gI σ 28) n) (gAl n) μ) (hf : frT σ u)
    (cl : ∀ e, e < 2 ^ n - 1 → ρ e = 1 → ∀ k, k < 6 → ρ (AFT σ (Int32.ofNat e) (Int32.ofNat k)).toNatClampNeg = 1) (hd : d < 2 ^ n - 1) (hr : ρ d = 1) (ht : ∀ x, d < x → x ≤ 2 ^ n - 1 → gI u 29 x = if ρ x = 1 then 1 + μ x else 0) : LB u (Int32.ofNat d) = μ d := by
  have o := oNl hS.1 (show d < 2 ^ n by omega)
  have eA : AFT u = GW (gI σ 27) (gI σ 28) n := by rw [frT_AFT hf, AFT_G, hn]
  have eA' : AFT σ = GW (gI σ 27) (gI σ 28) n := by rw [AFT_G, hn]
  have bb : ∀ s : Nat, (GW (gI σ 27) (gI σ 28) n (Int32.ofNat d) (Int32.ofNat s)).toNatClampNeg ≤ 2 ^ n - 1 ∧ Int32.ofNat d ≤ GW (gI σ 27) (gI σ 28) n (Int32.ofNat d) (Int32.ofNat s) ∧ 0 ≤ GW (gI σ 27) (gI σ 28) n (Int32.ofNat d) (Int32.ofNat s) ∧ GW (gI σ 27) (gI σ 28) n (Int32.ofNat d) (Int32.ofNat s) < 4096 := fun s => by
    have b := GW_b (s := Int32.ofNat s) hS o.1 o.2.2
    have := (in_al hS.1 b.2.2).mp b.2.1
    exact ⟨by omega, b.1, b.2.2, Int32.lt_of_le_of_lt b.2.1 (gAl_tn n hS.1).1.2⟩
  have sp := lb_spec (σ := u) (d := Int32.ofNat d) (T := fun s => 1 + μ (GW (gI σ 27) (gI σ 28) n (Int32.ofNat d) (Int32.ofNat s)).toNatClampNeg) ?_ ?_ 6 (Nat.le_refl _)
  · have hlt : Int32.ofNat d < gAl n := (lt_al hS.1 o.1).mpr (by rw [o.2.1]; omega)
    have mk := mu_ok hS hT o.1 o.2.2
    have ms := mn_spec (W := GW (gI σ 27) (gI σ 28) n) (μ := μ) (d := Int32.ofNat d) 6
    rw [show itI (mnS (GW (gI σ 27) (gI σ 28) n) μ (Int32.ofNat d)) 6 99 = μ (Int32.ofNat d).toNatClampNeg from (hT.2 _ o.1 hlt).symm] at ms
    obtain ⟨s1, h1, h2, h3⟩ := mk.2.2 hlt
    have e1 : Int32.ofNat s1.toNatClampNeg = s1 := nI_tn h1.1
    have l1 : s1.toNatClampNeg < 6 := by
      have := tn_lt h1.1 h1.2
      rw [show (6 : Int32).toNatClampNeg = 6 by decide] at this
      exact this
    rw [eA] at sp
    have le1 := sp.2 s1.toNatClampNeg l1 (by rw [e1]; exact h2)
    simp only [e1] at le1
    rw [o.2.1] at mk ms h3
    have eq1 : 1 + μ (GW (gI σ 27) (gI σ 28) n (Int32.ofNat d) s1).toNatClampNeg = μ d := by rw [← h3]; grind
    rw [eq1] at le1
    show itI (lbS u (Int32.ofNat d)) 6 13 = μ d
    rcases sp.1 with z | ⟨s, hs, hw, es⟩
    · rw [z] at le1
      exact absurd (Int32.le_trans le1 mk.2.1) (by decide)
    · have ge1 := ms.2 s hs hw
      rw [es] at le1 ⊢
      have eq2 : μ (GW (gI σ 27) (gI σ 28) n (Int32.ofNat d) (Int32.ofNat s)).toNatClampNeg + 1 = 1 + μ (GW (gI σ 27) (gI σ 28) n (Int32.ofNat d) (Int32.ofNat s)).toNatClampNeg := by grind
      rw [eq2] at ge1
      exact Int32.le_antisymm le1 ge1
  · intro s hs
    rw [eA]
    have b := bb s
    constructor
    · rintro ⟨z, -⟩ y; rw [y] at z; exact absurd z Int32.lt_irrefl
    · intro z; exact ⟨by have := b.2.1; grind, b.2.2.2⟩
  · intro s hs hw
    rw [eA] at hw ⊢
    have b := bb s
    have hgt : d < (GW (gI σ 27) (gI σ 28) n (Int32.ofNat d) (Int32.ofNat s)).toNatClampNeg := by
      have := (tn_lt_iff o.1 b.2.2.1).mp (by have := b.2.1; grind)
      rw [o.2.1] at this
      exact this
    rw [ht _ hgt b.1, if_pos]
    rw [← eA']
    exact cl d hd hr s hs
theorem count_sp {σ s0 : ha_St} {n : Nat} {μ : Nat → Int32} (hS : stOK (gI σ 27) (gI σ 28) n) (hn : (gI σ 26 2).toNatClampNeg = n) (hT : gfT (GW (gI σ 27) (gI σ 28) n) (gAl n) μ) (hm : mkI (AFT σ) σ (2 ^ n - 1) (2 ^ n - 1) s0) : tgI σ μ (gI s0 29) (2 ^ n - 1) 0 (countF s0 (gAl n)) := by
  have hal := gAl_tn n hS.1
  have hp := two_pos n
  obtain ⟨f0, v0', -, cl⟩ := hm
  unfold countF
  rw [hal.2]
  have key := itF_ind (f := ctK (gAl n)) (fun k u => tgI σ μ (gI s0 29) (2 ^ n - 1) (2 ^ n - 1 - k) u) (s := s0) ?_ (2 ^ n - 1) ?_
  · rw [Nat.sub_self] at key
    exact key
  · refine ⟨f0, fun x hx => ⟨fun q => ?_, fun _ => rfl⟩⟩
    have e : x = 2 ^ n - 1 := by omega
    have m0 : μ (2 ^ n - 1) = 0 := by rw [← hal.2]; exact hT.1
    rw [e, m0]
    rcases v0' (2 ^ n - 1) (Nat.le_refl _) with z | z
    · rw [z]; rfl
    · rw [z]; rfl
  · rintro k u hk ⟨fu, hu⟩
    have ed : (gAl n).toNatClampNeg - 1 - k = 2 ^ n - 1 - 1 - k := by rw [hal.2]
    unfold ctK
    rw [ed]
    generalize hd : 2 ^ n - 1 - 1 - k = d
    have hd1 : d < 2 ^ n - 1 := by omega
    have e1 : 2 ^ n - 1 - (k + 1) = d := by omega
    have e2 : 2 ^ n - 1 - k = d + 1 := by omega
    rw [e1]
    rw [e2] at hu
    have hud := (hu d (by omega)).2 (by omega)
    by_cases q : gI u 29 d = 0
    · rw [if_pos q]
      refine ⟨fu, fun x hx => ⟨fun y => ?_, fun y => (hu x hx).2 (by omega)⟩⟩
      by_cases z : x = d
      · rw [z, q]
        rw [hud] at q
        rw [q]
        rfl
      · exact (hu x hx).1 (by omega)
    · rw [if_neg q]
      have hr : gI s0 29 d = 1 := by
        rcases v0' d (by omega) with z | z
        · rw [hud, z] at q; exact absurd rfl q
        · exact z
      have L := LB_mu hS hn hT fu cl hd1 hr (fun x h1 h2 => (hu x h2).1 (by omega))
      have o := oNl hS.1 (show d < 2 ^ n by omega)
      have mk := mu_ok hS hT o.1 o.2.2
      rw [o.2.1] at mk
      obtain ⟨m, m1, m2⟩ := as12 mk.1 mk.2.1
      have bo := byte_ok m m1
      rw [L, m2, bo.1]
      refine ⟨frT_t fu, fun x hx => ⟨fun y => ?_, fun y => ?_⟩⟩
      · rw [gI_sI]
        by_cases z : x = d
        · rw [if_pos ⟨rfl, z⟩, z, hr, if_pos rfl, m2]
        · rw [if_neg (fun w => z w.2)]
          exact (hu x hx).1 (by omega)
      · rw [gI_sI, if_neg (fun w => by omega)]
        exact (hu x hx).2 (by omega)
