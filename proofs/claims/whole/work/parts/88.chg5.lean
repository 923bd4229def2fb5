/-! ===== calls that change: copy, keep ===== -/
theorem cy_ok {σ : ha_St} {d e i j n : Int32} {q : Nat} {x : Int32} {N : Nat} (hN : N ≤ 60) (ex : x = Int32.ofNat N) (hn : 0 ≤ n) : (0 ≤ i ∧ 0 ≤ n ∧ n ≤ Int32.ofNat N ∧ i ≤ Int32.ofNat N - n) ↔ (0 ≤ i ∧ i ≤ x - n) := by
  have k := toI_ofN hN
  have n0 := Int32.le_iff_toInt_le.mp hn
  rw [show (0 : Int32).toInt = 0 by decide] at n0
  have nl := Int32.toInt_lt n
  have k1 : (Int32.ofNat N - n).toInt = N - n.toInt := by
    rw [Int32.toInt_sub, k, Int.bmod_eq_of_le (by omega) (by omega)]
  rw [ex]
  constructor
  · exact fun q => ⟨q.1, q.2.2.2⟩
  · intro q
    refine ⟨q.1, hn, ?_, q.2⟩
    have q0 := Int32.le_iff_toInt_le.mp q.1
    have q1 := Int32.le_iff_toInt_le.mp q.2
    rw [k1] at q1
    rw [show (0 : Int32).toInt = 0 by decide] at q0
    rw [Int32.le_iff_toInt_le, k]
    omega
/-- the row of a shelf, of either kind -/
theorem row_of {σ : ha_St} {d : Int32} (h : RS σ) (hd : shOK d) (h3 : 3 ≤ gI σ 65 d.toNatClampNeg) : ∃ b N j t, (gI σ 65 d.toNatClampNeg = 3 ∧ j = 1 ∧ t = 20 ∨ gI σ 65 d.toNatClampNeg = 4 ∧ j = 2 ∧ t = 22) ∧ gR σ (36 + d.toNatClampNeg) j = some b ∧ gR σ (36 + d.toNatClampNeg) (3 - j) = none ∧ gT σ b = (t, N) ∧ N ≤ 60 ∧ 74 ≤ b ∧ gI σ 70 d.toNatClampNeg = Int32.ofNat N ∧ (∀ i, i < N → gI σ b i = gI σ 71 (60 * d.toNatClampNeg + i)) ∧ shLen σ (36 + d.toNatClampNeg) = N ∧ (j = 2 → ∀ i, fits .byte (.int (gI σ b i)) = true) := by
  rcases sh_cases h hd with ⟨e, r⟩ | ⟨e, -⟩ | ⟨e, nb, r1, r2, b, n, b1, b2, b3, b4, b5, b6⟩ | ⟨e, nb, r1, r2, b, n, b1, b2, b3, b4, b5, b6, b7⟩
  · rw [e] at h3; exact absurd h3 (by decide)
  · rw [e] at h3; exact absurd h3 (by decide)
  · exact ⟨b, n, 1, 20, Or.inl ⟨e, rfl, rfl⟩, b1, r2, b2, b3, b4, b5, b6, shLen_1 b1 b2, fun z => absurd z (by decide)⟩
  · exact ⟨b, n, 2, 22, Or.inr ⟨e, rfl, rfl⟩, b1, r2, b2, b3, b4, b5, b6, shLen_2 r2 b1 b2, fun _ => b7⟩
theorem bare_iff {σ : ha_St} {d : Int32} (h : RS σ) (hd : shOK d) : bareP σ (36 + d.toNatClampNeg) ↔ gI σ 65 d.toNatClampNeg = 0 := by
  rcases sh_cases h hd with ⟨e, r⟩ | ⟨e, nb, -⟩ | ⟨e, nb, -⟩ | ⟨e, nb, -⟩
  · exact ⟨fun _ => e, fun _ => r⟩
  · exact ⟨fun q => absurd q nb, fun q => by rw [e] at q; exact absurd q (by decide)⟩
  · exact ⟨fun q => absurd q nb, fun q => by rw [e] at q; exact absurd q (by decide)⟩
  · exact ⟨fun q => absurd q nb, fun q => by rw [e] at q; exact absurd q (by decide)⟩
theorem like_iff {σ : ha_St} {d e : Int32} (h : RS σ) (hd : shOK d) (he : shOK e) : likeP σ (36 + d.toNatClampNeg) (36 + e.toNatClampNeg) ↔ (3 ≤ gI σ 65 d.toNatClampNeg ∧ gI σ 65 d.toNatClampNeg = gI σ 65 e.toNatClampNeg) := by
  have cs : ∀ d, shOK d → (gI σ 65 d.toNatClampNeg = 3 ∧ gR σ (36 + d.toNatClampNeg) 1 ≠ none ∧ gR σ (36 + d.toNatClampNeg) 2 = none) ∨ (gI σ 65 d.toNatClampNeg = 4 ∧ gR σ (36 + d.toNatClampNeg) 1 = none ∧ gR σ (36 + d.toNatClampNeg) 2 ≠ none) ∨ ((gI σ 65 d.toNatClampNeg = 0 ∨ gI σ 65 d.toNatClampNeg = 1) ∧ gR σ (36 + d.toNatClampNeg) 1 = none ∧ gR σ (36 + d.toNatClampNeg) 2 = none) := by
    intro d hd
    rcases sh_cases h hd with ⟨e, r⟩ | ⟨e, nb, r1, r2, -⟩ | ⟨e, nb, r1, r2, b, n, b1, -⟩ | ⟨e, nb, r1, r2, b, n, b1, -⟩
    · exact Or.inr (Or.inr ⟨Or.inl e, r.2⟩)
    · exact Or.inr (Or.inr ⟨Or.inr e, r1, r2⟩)
    · exact Or.inl ⟨e, (by rw [b1]; intro q; cases q), r2⟩
    · exact Or.inr (Or.inl ⟨e, r2, (by rw [b1]; intro q; cases q)⟩)
  unfold likeP
  rcases cs d hd with ⟨a1, a2, a3⟩ | ⟨a1, a2, a3⟩ | ⟨a1, a2, a3⟩
  · rcases cs e he with ⟨b1, b2, b3⟩ | ⟨b1, b2, b3⟩ | ⟨b1, b2, b3⟩
    · rw [a1, b1]; exact ⟨fun _ => ⟨by decide, rfl⟩, fun _ => Or.inl ⟨a2, b2⟩⟩
    · rw [a1, b1]; exact ⟨fun q => by rcases q with q | q; exact absurd b2 q.2; exact absurd a3 q.1, fun q => absurd q.2 (by decide)⟩
    · rw [a1]; exact ⟨fun q => by rcases q with q | q; exact absurd b2 q.2; exact absurd a3 q.1, fun q => by have := q.2; rcases b1 with b | b <;> rw [b] at this <;> exact absurd this (by decide)⟩
  · rcases cs e he with ⟨b1, b2, b3⟩ | ⟨b1, b2, b3⟩ | ⟨b1, b2, b3⟩
    · rw [a1, b1]; exact ⟨fun q => by rcases q with q | q; exact absurd a2 q.1; exact absurd b3 q.2, fun q => absurd q.2 (by decide)⟩
    · rw [a1, b1]; exact ⟨fun _ => ⟨by decide, rfl⟩, fun _ => Or.inr ⟨a3, b3⟩⟩
    · rw [a1]; exact ⟨fun q => by rcases q with q | q; exact absurd a2 q.1; exact absurd b3 q.2, fun q => by have := q.2; rcases b1 with b | b <;> rw [b] at this <;> exact absurd this (by decide)⟩
  · exact ⟨fun q => by rcases q with q | q; exact absurd a2 q.1; exact absurd a3 q.1, fun q => by have := q.1; rcases a1 with b | b <;> rw [b] at this <;> exact absurd this (by decide)⟩
theorem e_copy {σ σ1 σ2 : ha_St} {d i e j n r r' : Int32} (h : Inv σ) (c : copyQ σ d i e j n r σ1) (m : mCopyQ σ1 d i e j n r' σ2) : r' = r ∧ Inv σ2 := by
  have hS := h.2.2.2.2.2.2.2.1
  unfold copyQ at c
  by_cases hde : shOK d ∧ shOK e
  · obtain ⟨hd, he⟩ := hde
    rw [sAt_y hd, sAt_y he] at c
    simp only [] at c
    have bb : (bareP σ (36 + d.toNatClampNeg) ∨ bareP σ (36 + e.toNatClampNeg)) ↔ (gI σ 65 d.toNatClampNeg = 0 ∨ gI σ 65 e.toNatClampNeg = 0) := by rw [bare_iff hS hd, bare_iff hS he]
    by_cases hb : gI σ 65 d.toNatClampNeg = 0 ∨ gI σ 65 e.toNatClampNeg = 0
    · rw [if_pos (bb.mpr hb)] at c
      rw [c.2] at m
      rcases m with ⟨m1, -⟩ | ⟨-, ⟨-, m2, m3⟩ | ⟨m1, -⟩⟩
      · exact absurd ⟨hd, he⟩ m1
      · exact ⟨m2.trans c.1.symm, by rw [m3]; exact h⟩
      · exact absurd hb m1
    · rw [if_neg (mt bb.mp hb)] at c
      by_cases hl : 3 ≤ gI σ 65 d.toNatClampNeg ∧ gI σ 65 d.toNatClampNeg = gI σ 65 e.toNatClampNeg
      · rw [if_pos ((like_iff hS hd he).mpr hl)] at c
        obtain ⟨q, N, jq, tq, k1, q1, q2, q3, q4, q5, q6, q7, q8, q9⟩ := row_of hS hd hl.1
        obtain ⟨u, M, ju, tu, k2, u1, u2, u3, u4, u5, u6, u7, u8, u9⟩ := row_of hS he (by rw [← hl.2]; exact hl.1)
        have jj : jq = ju ∧ tq = tu ∧ ((jq = 1 ∧ tq = 20) ∨ (jq = 2 ∧ tq = 22)) := by
          rcases k1 with ⟨a, b, c⟩ | ⟨a, b, c⟩ <;> rcases k2 with ⟨a', b', c'⟩ | ⟨a', b', c'⟩
          · exact ⟨b.trans b'.symm, c.trans c'.symm, Or.inl ⟨b, c⟩⟩
          · rw [← hl.2, a] at a'; exact absurd a' (by decide)
          · rw [← hl.2, a] at a'; exact absurd a' (by decide)
          · exact ⟨b.trans b'.symm, c.trans c'.symm, Or.inr ⟨b, c⟩⟩
        have okk : (plcP σ (36 + d.toNatClampNeg) i n ∧ plcP σ (36 + e.toNatClampNeg) j n) ↔ cyOK σ d i e j n := by
          unfold plcP cyOK
          rw [q8, u8]
          by_cases hn : 0 ≤ n
          · rw [cy_ok (σ := σ) (d := d) (e := e) (j := j) (q := 0) q4 q6 hn, cy_ok (σ := σ) (d := d) (e := e) (j := j) (q := 0) u4 u6 hn]
            exact ⟨fun z => ⟨hn, z.1.1, z.2.1, z.1.2, z.2.2⟩, fun z => ⟨⟨z.2.1, z.2.2.2.1⟩, z.2.2.1, z.2.2.2.2⟩⟩
          · exact ⟨fun z => absurd z.1.2.1 hn, fun z => absurd z.1 hn⟩
        by_cases hp : cyOK σ d i e j n
        · have hpp := okk.mpr hp
          rw [if_pos hpp] at c
          have e1 : σ1 = sC σ q u i.toNatClampNeg j.toNatClampNeg n.toNatClampNeg := by
            rw [c.2]
            unfold passF
            rcases jj with ⟨a, b, ⟨c1, c2⟩ | ⟨c1, c2⟩⟩
            · rw [← a, c1] at u1
              rw [c1] at q1
              rw [q1, u1]
            · rw [← a, c1] at u1 u2
              rw [c1] at q1 q2
              have q2' : gR σ (36 + d.toNatClampNeg) 1 = none := q2
              rw [q2', q1, u1]
          have o1 : ∀ z, z ≠ u → gI σ1 z = gI σ z := fun z hz => funext fun y => by rw [e1, gI_sC, if_neg hz]
          have cy : cyOK σ1 d i e j n ↔ cyOK σ d i e j n := by unfold cyOK; rw [o1 70 (by omega)]
          have ip := plc_in (by have := hpp.1; unfold plcP at this; rw [q8] at this; exact this) q4
          have jp := plc_in (by have := hpp.2; unfold plcP at this; rw [u8] at this; exact this) u4
          unfold mCopyQ at m
          rw [o1 65 (by omega), cy] at m
          rcases m with ⟨m1, -⟩ | ⟨-, ⟨m1, -⟩ | ⟨-, ⟨m1, -⟩ | ⟨-, ⟨m1, -⟩ | ⟨-, m2, m3⟩⟩⟩⟩
          · exact absurd ⟨hd, he⟩ m1
          · exact absurd m1 hb
          · exact absurd hl m1
          · exact absurd hp m1
          · refine ⟨m2.trans c.1.symm, ?_⟩
            have cf : ∀ y, cyF σ1 d i y = gI σ 71 (60 * d.toNatClampNeg + i.toNatClampNeg + y) := fun y => by unfold cyF; rw [o1 71 (by omega)]
            have v2 : ∀ a y, a ≠ 72 → gI σ2 a y = if a = 71 ∧ 60 * e.toNatClampNeg + j.toNatClampNeg ≤ y ∧ y < 60 * e.toNatClampNeg + j.toNatClampNeg + n.toNatClampNeg then gI σ 71 (60 * d.toNatClampNeg + i.toNatClampNeg + (y - (60 * e.toNatClampNeg + j.toNatClampNeg))) else gI σ1 a y := by
              intro a y ha
              rw [m3, gI_rgA]
              by_cases z : a = 71 ∧ 60 * e.toNatClampNeg + j.toNatClampNeg ≤ y ∧ y < 60 * e.toNatClampNeg + j.toNatClampNeg + n.toNatClampNeg
              · rw [if_pos z, if_pos z, cf]
              · rw [if_neg z, if_neg z, gI_rgA, if_neg (fun w => ha w.1)]
            have hT2 : gT σ2 = gT σ := by rw [m3, e1]; rfl
            have hR2 : gR σ2 = gR σ := by rw [m3, e1]; rfl
            have hn2 : gn σ2 = gn σ := by rw [m3, e1]; rfl
            have hL2 : gL σ2 = gL σ := by rw [m3, e1]; rfl
            have hke := shOK_k he
            have hkd := shOK_k hd
            have uv : ∀ y, gI σ2 u y = if j.toNatClampNeg ≤ y ∧ y < j.toNatClampNeg + n.toNatClampNeg then gI σ q (i.toNatClampNeg + (y - j.toNatClampNeg)) else gI σ u y := fun y => by
              rw [v2 u y (by omega), if_neg (by omega), e1, gI_sC, if_pos rfl]
              rfl
            have rows : ∀ y, y < M → gI σ2 u y = gI σ2 71 (60 * e.toNatClampNeg + y) := by
              intro y hy
              rw [uv, v2 71 _ (by omega)]
              by_cases z : j.toNatClampNeg ≤ y ∧ y < j.toNatClampNeg + n.toNatClampNeg
              · rw [if_pos z, if_pos (by omega), q7 _ (by omega)]
                congr 1
                omega
              · rw [if_neg z, if_neg (by omega), o1 71 (by omega)]
                exact u7 y hy
            have ut : ¬ pT (gT σ u).1 := by
              rw [u3]
              show ¬ pT tu
              rcases jj with ⟨-, b, ⟨-, c2⟩ | ⟨-, c2⟩⟩ <;> rw [← b, c2] <;> unfold pT <;> decide
            have ju2 : 1 ≤ ju ∧ ju ≤ 2 := by rcases k2 with ⟨-, b, -⟩ | ⟨-, b, -⟩ <;> omega
            have o65 : ∀ a, 65 ≤ a → a ≤ 70 → gI σ2 a = gI σ a := fun a p1 p2 => funext fun y => by rw [v2 a y (by omega), if_neg (by omega), o1 a (by omega)]
            refine Inv.sh (fun z => z = u) hke h (fun z hz => by rw [hT2] at hz; rw [hn2]; exact h.2.1 z hz) (by omega) (fun z _ => by rw [hT2]) (fun z y _ _ => by rw [hR2]) (fun x _ _ => by rw [hL2]) (fun a y p1 p2 p3 p4 => ?_) (fun a p1 p2 p3 => funext fun y => ?_) (fun a ea => ⟨by rw [ea]; exact ut, fun l y hl' ne hy w => ?_⟩) ?_ (fun y b y1 y2 w l x hl' ne x1 x2 w' => ?_)
            · have : a ≠ 72 := fun z => p2 (by unfold scr; omega)
              rw [v2 a y this, if_neg (by omega), o1 a (by omega)]
            · rw [v2 a y (by omega), if_neg (by omega), o1 a p3]
            · rw [ea] at w
              have y0 : y ≠ 0 := fun z => by
                rw [z] at w
                obtain ⟨-, k⟩ := hS.1 l hl'
                rcases k with ⟨-, r0, -⟩ | ⟨-, -, -, b, t, b1, b2, b3, -⟩ | ⟨-, r0, -⟩ | ⟨-, r0, -⟩
                · rw [r0] at w; cases w
                · cases b1.symm.trans w
                  exact ut (by rw [b2]; exact b3)
                · rw [r0] at w; cases w
                · rw [r0] at w; cases w
              exact ne (hS.2 l e.toNatClampNeg y ju u hl' hke ⟨by omega, hy⟩ ju2 w u1)
            · unfold shR
              rw [o65 65 (by omega) (by omega), o65 66 (by omega) (by omega), o65 67 (by omega) (by omega), o65 68 (by omega) (by omega), o65 69 (by omega) (by omega), o65 70 (by omega) (by omega), hR2, hT2]
              obtain ⟨hs, -⟩ := hS.1 _ hke
              refine ⟨hs, ?_⟩
              rcases sh_cases hS he with ⟨a, -⟩ | ⟨a, -⟩ | ⟨a, nb, r1, r2, b, x, b1, b2, b3, b4, b5, b6⟩ | ⟨a, nb, r1, r2, b, x, b1, b2, b3, b4, b5, b6, b7⟩
              · exact absurd (Or.inr a) hb
              · rw [← hl.2] at a
                have := hl.1
                rw [a] at this
                exact absurd this (by decide)
              · have j1 : ju = 1 := by
                  rcases k2 with ⟨-, b, -⟩ | ⟨z, -⟩
                  · exact b
                  · rw [a] at z; exact absurd z (by decide)
                rw [j1] at u1
                cases u1.symm.trans b1
                have eM : x = M := congrArg (fun z : Nat × Nat => z.2) (b2.symm.trans u3)
                exact Or.inr (Or.inr (Or.inl ⟨a, r1, r2, u, x, u1, b2, b3, b4, b5, by rw [eM]; exact rows⟩))
              · have j1 : ju = 2 := by
                  rcases k2 with ⟨z, -⟩ | ⟨-, b, -⟩
                  · rw [a] at z; exact absurd z (by decide)
                  · exact b
                rw [j1] at u1
                cases u1.symm.trans b1
                have eM : x = M := congrArg (fun z : Nat × Nat => z.2) (b2.symm.trans u3)
                refine Or.inr (Or.inr (Or.inr ⟨a, r1, r2, u, x, u1, b2, b3, b4, b5, by rw [eM]; exact rows, fun y => ?_⟩))
                rw [uv]
                split
                · exact q9 (jj.1.trans j1) _
                · exact b7 y
            · rw [hR2] at w
              exact ne (hS.2 l e.toNatClampNeg x y b hl' hke ⟨x1, x2⟩ ⟨y1, y2⟩ w' w)
        · rw [if_neg (mt okk.mp hp)] at c
          rw [c.2] at m
          rcases m with ⟨m1, -⟩ | ⟨-, ⟨m1, -⟩ | ⟨-, ⟨m1, -⟩ | ⟨-, ⟨-, m2, m3⟩ | ⟨m1, -⟩⟩⟩⟩
          · exact absurd ⟨hd, he⟩ m1
          · exact absurd m1 hb
          · exact absurd hl m1
          · exact ⟨m2.trans c.1.symm, by rw [m3]; exact h⟩
          · exact absurd m1 hp
      · rw [if_neg (mt (like_iff hS hd he).mp hl)] at c
        rw [c.2] at m
        rcases m with ⟨m1, -⟩ | ⟨-, ⟨m1, -⟩ | ⟨-, ⟨-, m2, m3⟩ | ⟨m1, -⟩⟩⟩
        · exact absurd ⟨hd, he⟩ m1
        · exact absurd m1 hb
        · exact ⟨m2.trans c.1.symm, by rw [m3]; exact h⟩
        · exact absurd m1 hl
  · have cc : r = -1 ∧ σ1 = σ := by
      by_cases hd : shOK d
      · have he : ¬ shOK e := fun z => hde ⟨hd, z⟩
        rw [sAt_y hd, sAt_n he] at c
        exact c
      · rw [sAt_n hd] at c
        exact c
    rcases m with ⟨-, m2, m3⟩ | ⟨m1, -⟩
    · exact ⟨m2.trans cc.1.symm, by rw [m3, cc.2]; exact h⟩
    · exact absurd m1 hde
