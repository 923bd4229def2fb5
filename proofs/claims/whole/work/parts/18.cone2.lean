/-- an answer 1 or 0 by a truth -/
def isB (r : Int32) (P : Prop) : Prop := (r = 1 ∧ P) ∨ (r = 0 ∧ ¬ P)
/-- what a cone's own work leaves -/
def frC (c : Nat) (σ σ' : ha_St) : Prop := gT σ' = gT σ ∧ gR σ' = gR σ ∧ gn σ' = gn σ ∧ (∀ a, a < c ∨ c + 6 < a → gI σ' a = gI σ a ∧ gL σ' a = gL σ a) ∧ (gL σ' (c + 1) = gL σ (c + 1) ∧ gL σ' (c + 2) = gL σ (c + 2) ∧ gL σ' (c + 3) = gL σ (c + 3)) ∧ gI σ' c 3 = gI σ c 3
theorem frC.rf {c : Nat} {σ : ha_St} : frC c σ σ := ⟨rfl, rfl, rfl, fun _ _ => ⟨rfl, rfl⟩, ⟨rfl, rfl, rfl⟩, rfl⟩
theorem frC.tr {c : Nat} {σ σ1 σ2 : ha_St} (h : frC c σ σ1) (g : frC c σ1 σ2) : frC c σ σ2 :=
  ⟨g.1.trans h.1, g.2.1.trans h.2.1, g.2.2.1.trans h.2.2.1, fun a ha => ⟨(g.2.2.2.1 a ha).1.trans (h.2.2.2.1 a ha).1, (g.2.2.2.1 a ha).2.trans (h.2.2.2.1 a ha).2⟩, ⟨g.2.2.2.2.1.1.trans h.2.2.2.2.1.1, g.2.2.2.2.1.2.1.trans h.2.2.2.2.1.2.1, g.2.2.2.2.1.2.2.trans h.2.2.2.2.1.2.2⟩, g.2.2.2.2.2.trans h.2.2.2.2.2⟩
theorem frC.isC {c : Nat} {σ σ' : ha_St} (h : frC c σ σ') (hc : isC σ c) : isC σ' c := hc.same h.1 h.2.1
theorem frC_set3 {c : Nat} {σ : ha_St} {x y z : Int64} : frC c σ (set3 σ c x y z) := by
  refine ⟨rfl, rfl, rfl, fun a ha => ⟨rfl, funext fun j => ?_⟩, ⟨funext fun j => ?_, funext fun j => ?_, funext fun j => ?_⟩, rfl⟩
  · simp only [set3, gL_sL]
    rw [if_neg (by omega), if_neg (by omega), if_neg (by omega)]
  all_goals
    simp only [set3, gL_sL]
    rw [if_neg (by omega), if_neg (by omega), if_neg (by omega)]
theorem frC_tcr {c j : Nat} {σ : ha_St} {a b w : Int64} : frC c σ (tcr σ c a b w j) := frC_set3
theorem frC_sI {c j : Nat} {σ : ha_St} {v : Int32} (hj : j ≠ 3) : frC c σ (sI σ c j v) := by
  refine ⟨rfl, rfl, rfl, fun a ha => ⟨funext fun j => ?_, rfl⟩, ⟨rfl, rfl, rfl⟩, ?_⟩
  · rw [gI_sI, if_neg (by omega)]
  · rw [gI_sI, if_neg (by omega)]
theorem frC_bonce {c : Nat} {σ : ha_St} {a b w : Int64} : frC c σ (bonce σ c a b w) := by
  unfold bonce
  split
  · refine ⟨rfl, rfl, rfl, fun x hx => ⟨funext fun j => ?_, funext fun j => ?_⟩, ⟨funext fun j => ?_, funext fun j => ?_, funext fun j => ?_⟩, ?_⟩
    · rw [gI_sI, if_neg (by omega), gI_sL, gI_sL, gI_sL]
    · rw [gL_sI, gL_sL, if_neg (by omega), gL_sL, if_neg (by omega), gL_sL, if_neg (by omega)]
    · rw [gL_sI, gL_sL, if_neg (by omega), gL_sL, if_neg (by omega), gL_sL, if_neg (by omega)]
    · rw [gL_sI, gL_sL, if_neg (by omega), gL_sL, if_neg (by omega), gL_sL, if_neg (by omega)]
    · rw [gL_sI, gL_sL, if_neg (by omega), gL_sL, if_neg (by omega), gL_sL, if_neg (by omega)]
    · rw [gI_sI, if_neg (by omega), gI_sL, gI_sL, gI_sL]
  · exact frC.rf
theorem frC_one {c : Nat} {σ σ' : ha_St} (h : oneSided σ c σ') : frC c σ σ' := by
  rcases h with ⟨-, rfl⟩ | ⟨-, -, rfl⟩ | ⟨-, -, rfl⟩
  · exact frC_bonce
  · exact frC_bonce
  · exact frC.rf
/-- how many normals -/
def nOK (σ : ha_St) (c : Nat) : Prop := 0 ≤ gI σ c 7 ∧ gI σ c 7 ≤ 32
theorem nOK_bonce {c : Nat} {σ : ha_St} {a b w : Int64} (h : nOK σ c) : nOK (bonce σ c a b w) c := by
  unfold nOK bonce at *
  split
  · rw [gI_sI, if_pos ⟨rfl, rfl⟩]; grind
  · exact h
theorem nOK_set3 {c : Nat} {σ : ha_St} {x y z : Int64} (h : nOK σ c) : nOK (set3 σ c x y z) c := h
theorem nOK_tcr {c j : Nat} {σ : ha_St} {a b w : Int64} (h : nOK σ c) : nOK (tcr σ c a b w j) c := h
theorem nOK_one {c : Nat} {σ σ' : ha_St} (h : oneSided σ c σ') (hn : nOK σ c) : nOK σ' c := by
  rcases h with ⟨-, rfl⟩ | ⟨-, -, rfl⟩ | ⟨-, -, rfl⟩
  · exact nOK_bonce hn
  · exact nOK_bonce hn
  · exact hn
def chain (R : Nat → ha_St → ha_St → Prop) : Nat → ha_St → ha_St → Prop
  | 0, s, s' => s' = s
  | n + 1, s, s' => ∃ m, chain R n s m ∧ R n m s'
def nrm (σ : ha_St) (c : Nat) : Int64 × Int64 × Int64 := (gL σ c 8, gL σ c 9, gL σ c 10)
def crs (σ : ha_St) (c i j : Nat) : Int64 × Int64 × Int64 := (cQ σ c i * cM σ c j - cM σ c i * cQ σ c j, cM σ c i * cP σ c j - cP σ c i * cM σ c j, cP σ c i * cQ σ c j - cQ σ c i * cP σ c j)
def zer : Int64 × Int64 × Int64 := (0, 0, 0)
theorem nrm_tcr {σ : ha_St} {c i j : Nat} : nrm (tcr σ c (cP σ c i) (cQ σ c i) (cM σ c i) j) c = crs σ c i j := by simp [nrm, tcr, set3, gL_sL, crs]
theorem nrm_set3 {σ : ha_St} {c : Nat} {x y z : Int64} : nrm (set3 σ c x y z) c = (x, y, z) := by simp [nrm, set3, gL_sL]
theorem frC_crs {c i j : Nat} {σ σ' : ha_St} (h : frC c σ σ') : crs σ' c i j = crs σ c i j := by
  simp only [crs, cP, cQ, cM, h.2.2.2.2.1.1, h.2.2.2.2.1.2.1, h.2.2.2.2.1.2.2]
theorem nrm_zer {σ : ha_St} {c : Nat} : nrm σ c = zer ↔ gL σ c 8 = 0 ∧ gL σ c 9 = 0 ∧ gL σ c 10 = 0 := by simp [nrm, zer]
/-- the same but for the normal in hand -/
def S3 (σ : ha_St) (c : Nat) (σ' : ha_St) : Prop := ∃ x y z, σ' = set3 σ c x y z
theorem sL_self {σ : ha_St} {a j : Nat} : sL σ a j (gL σ a j) = σ := by
  unfold sL gL
  have h : (fun x y => if x = a ∧ y = j then σ.2.1 a j else σ.2.1 x y) = σ.2.1 := by
    funext x y
    split
    · rename_i h; rw [h.1, h.2]
    · rfl
  rw [h]
theorem S3_rf {σ : ha_St} {c : Nat} : S3 σ c σ := ⟨gL σ c 8, gL σ c 9, gL σ c 10, by
  unfold set3
  rw [sL_self, sL_self, sL_self]⟩
theorem set3_set3 {σ : ha_St} {c : Nat} {x y z x' y' z' : Int64} : set3 (set3 σ c x y z) c x' y' z' = set3 σ c x' y' z' := by
  unfold set3 sL
  simp only [Prod.mk.injEq, true_and, and_true]
  funext a j
  by_cases h1 : a = c ∧ j = 10 <;> by_cases h2 : a = c ∧ j = 9 <;> by_cases h3 : a = c ∧ j = 8 <;> simp [h1, h2, h3]
theorem S3_tcr {σ σ' : ha_St} {c j : Nat} {a b w : Int64} (h : S3 σ c σ') : S3 σ c (tcr σ' c a b w j) := by
  obtain ⟨x, y, z, rfl⟩ := h
  exact ⟨_, _, _, set3_set3⟩
theorem S3.fr {σ σ' : ha_St} {c : Nat} (h : S3 σ c σ') : frC c σ σ' := by obtain ⟨x, y, z, rfl⟩ := h; exact frC_set3
theorem S3.n {σ σ' : ha_St} {c : Nat} (h : S3 σ c σ') (hn : nOK σ c) : nOK σ' c := by obtain ⟨x, y, z, rfl⟩ := h; exact hn
def isBnd (σ : ha_St) (c i j : Nat) : Prop := ∃ k, k < (gI σ c 7).toNatClampNeg ∧ dotB σ c k (cP σ c i) (cQ σ c i) (cM σ c i) = 0 ∧ dotB σ c k (cP σ c j) (cQ σ c j) (cM σ c j) = 0
/-- a pair of wrenches is looked at -/
def pairStep (c i j : Nat) (σ σ' : ha_St) : Prop := (isBnd σ c i j ∧ σ' = σ) ∨ (¬ isBnd σ c i j ∧ crs σ c i j = zer ∧ σ' = tcr σ c (cP σ c i) (cQ σ c i) (cM σ c i) j) ∨ (¬ isBnd σ c i j ∧ crs σ c i j ≠ zer ∧ oneSided (tcr σ c (cP σ c i) (cQ σ c i) (cM σ c i) j) c σ')
theorem frC_pair {c i j : Nat} {σ σ' : ha_St} (h : pairStep c i j σ σ') : frC c σ σ' := by
  rcases h with ⟨-, rfl⟩ | ⟨-, -, rfl⟩ | ⟨-, -, h⟩
  · exact frC.rf
  · exact frC_tcr
  · exact frC_tcr.tr (frC_one h)
theorem nOK_pair {c i j : Nat} {σ σ' : ha_St} (h : pairStep c i j σ σ') (hn : nOK σ c) : nOK σ' c := by
  rcases h with ⟨-, rfl⟩ | ⟨-, -, rfl⟩ | ⟨-, -, h⟩
  · exact hn
  · exact hn
  · exact nOK_one h hn
theorem bex_succ {P : Nat → Prop} {i N : Int32} (h0 : 0 ≤ i) (h : i < N) (hx : ∃ x, x < (i + 1).toNatClampNeg ∧ P x) : (∃ x, x < i.toNatClampNeg ∧ P x) ∨ P i.toNatClampNeg := by
  obtain ⟨x, h1, h2⟩ := hx
  rw [tn_succ h0 h] at h1
  by_cases hxe : x = i.toNatClampNeg
  · exact Or.inr (hxe ▸ h2)
  · exact Or.inl ⟨x, by omega, h2⟩
set_option maxRecDepth 100000 in
set_option maxHeartbeats 4000000 in
theorem m_X2_contains {G : ha_G} {l : Launch} {σ : ha_St} {c : Nat} {x y z : Int64} (hc : isC σ c) (hn : nOK σ c) : hM G l yX2_contains cX2_contains 8 (some .boolean) { frames := 1, cells := 0, slots := 0, locals := 27 } [.ref (ad G c), .long x, .long y, .long z] σ (fun v σ' => (∃ r, v = some (.int r) ∧ isB r (∀ k, k < (gI σ c 7).toNatClampNeg → ¬ dotB σ c k x y z < 0)) ∧ σ' = σ) := by
  refine hM_ofF [(0, .ref (ad G c)), (1, .long x), (3, .long y), (5, .long z)] (by decide +kernel) (Nat.le_of_ble_eq_true rfl) rfl ?_
  intro p e s m args below meth c0 C hin
  refine h_iconst C 0 dX2_contains_0 (by decide) ?_
  refine h_istore C [(7, .int 0), (0, .ref (ad G c)), (1, .long x), (3, .long y), (5, .long z)] dX2_contains_1 (by decide) rfl ?_
  refine h_sub [1, 2, 3, 4, 0] rfl ?_
  refine h_loop (α := Int32) (fun i => 0 ≤ i ∧ i ≤ gI σ c 7 ∧ ∀ k, k < i.toNatClampNeg → ¬ dotB σ c k x y z < 0) (fun i => tm (gI σ c 7) i) (fun i => [(0, .ref (ad G c)), (1, .long x), (3, .long y), (5, .long z), (7, .int i)]) (fun i => []) (fun i => σ) (fun i => 0) (fun i => 0) ?_ 0 ?_
  · rintro i hI ih
    show hW _ _ _ _ _ _ _ _ _ _ _ _ _ 3 [(0, .ref (ad G c)), (1, .long x), (3, .long y), (5, .long z), (7, .int i)] [] σ 0 0
    refine h_iload C 4 dX2_contains_3 rfl ?_
    refine h_aload_n C 0 dX2_contains_5 rfl rfl ?_
    refine gfX2_34 C hc.1 dX2_contains_6 ?_
    refine h_icmp_ge C 35 dX2_contains_9 (by decide) (fun c_9 => ?_) (fun c_9 => ?_)
    · refine h_iconst C 1 dX2_contains_35 (by decide) ?_
      refine h_zret C rfl (by decide) (Nat.zero_le _) (Nat.zero_le _) dX2_contains_36 ?_
      refine ⟨⟨1, rfl, Or.inl ⟨rfl, ?_⟩⟩, rfl⟩
      have he := eq_end hI.2.1 (Int32.not_lt.mpr c_9)
      rw [← he]
      exact hI.2.2
    · refine h_aload_n C 0 dX2_contains_12 rfl rfl ?_
      refine h_iload C 4 dX2_contains_13 rfl ?_
      refine h_lload_n C 1 dX2_contains_15 rfl rfl ?_
      refine h_lload_n C 2 dX2_contains_16 rfl rfl ?_
      refine h_lload C 3 dX2_contains_17 rfl ?_
      refine h_callV C (m_X2_along hc hI.1 (Int32.not_le.mp c_9) (Int32.lt_of_lt_of_le (Int32.not_le.mp c_9) hn.2)) caX2_88 kX2 hc.1 ⟨by decide, by decide, by decide, by decide⟩ rfl rfl (Nat.le_of_ble_eq_true rfl) dX2_contains_19 ?_
      rintro v σ' ⟨rfl, h2⟩; rw [h2]; clear h2
      show hW _ _ _ _ _ _ _ _ _ _ _ _ _ 22 [(0, .ref (ad G c)), (1, .long x), (3, .long y), (5, .long z), (7, .int i)] [.long (dotB σ c i.toNatClampNeg x y z)] σ 0 0
      refine h_lconst C 0 dX2_contains_22 rfl ?_
      refine h_lcmp C dX2_contains_23 ?_
      refine h_if_ge C 29 dX2_contains_24 (by decide) (fun c_24 => ?_) (fun c_24 => ?_)
      · refine h_iinc C [(7, .int (i + 1)), (0, .ref (ad G c)), (1, .long x), (3, .long y), (5, .long z)] 4 (i + 1) dX2_contains_29 rfl rfl (by decide) rfl ?_
        refine h_goto C 3 dX2_contains_32 (by decide) ?_
        refine h_sub [1, 2, 3, 4, 0] rfl ?_
        refine ih (i + 1) ?_ ?_
        · exact ⟨(le_succ hI.1 (Int32.not_le.mp c_9)).1, (le_succ hI.1 (Int32.not_le.mp c_9)).2, all_succ hI.1 (Int32.not_le.mp c_9) hI.2.2 (lg_ge0.mp c_24)⟩
        · exact tm_lt (Int32.not_le.mp c_9)
      · refine h_iconst C 0 dX2_contains_27 (by decide) ?_
        refine h_zret C rfl (by decide) (Nat.zero_le _) (Nat.zero_le _) dX2_contains_28 ?_
        refine ⟨⟨0, rfl, Or.inr ⟨rfl, fun q => ?_⟩⟩, rfl⟩
        exact absurd (Decidable.not_not.mp (fun z => c_24 (lg_ge0.mpr z))) (q _ (tn_lt hI.1 (Int32.not_le.mp c_9)))
  · exact ⟨by decide, hn.1, all_0⟩
set_option maxRecDepth 100000 in
set_option maxHeartbeats 4000000 in
theorem m_X2_isBoundBy {G : ha_G} {l : Launch} {σ : ha_St} {c : Nat} {i j : Int32} (hc : isC σ c) (hn : nOK σ c) (hi0 : 0 ≤ i) (hi1 : i < 30) (hj0 : 0 ≤ j) (hj1 : j < 30) : hM G l yX2_isBoundBy cX2_isBoundBy 4 (some .boolean) { frames := 1, cells := 0, slots := 0, locals := 27 } [.ref (ad G c), .int i, .int j] σ (fun v σ' => (∃ r, v = some (.int r) ∧ isB r (isBnd σ c i.toNatClampNeg j.toNatClampNeg)) ∧ σ' = σ) := by
  refine hM_ofF [(0, .ref (ad G c)), (1, .int i), (2, .int j)] (by decide +kernel) (Nat.le_of_ble_eq_true rfl) rfl ?_
  intro p e s m args below meth c0 C hin
  refine h_iconst C 0 dX2_isBoundBy_0 (by decide) ?_
  refine h_istore_n C [(3, .int 0), (0, .ref (ad G c)), (1, .int i), (2, .int j)] dX2_isBoundBy_1 rfl (by decide) rfl ?_
  refine h_sub [1, 2, 3, 0] rfl ?_
  refine h_loop (α := Int32) (fun k => 0 ≤ k ∧ k ≤ gI σ c 7 ∧ ∀ x, x < k.toNatClampNeg → ¬ (dotB σ c x (cP σ c i.toNatClampNeg) (cQ σ c i.toNatClampNeg) (cM σ c i.toNatClampNeg) = 0 ∧ dotB σ c x (cP σ c j.toNatClampNeg) (cQ σ c j.toNatClampNeg) (cM σ c j.toNatClampNeg) = 0)) (fun k => tm (gI σ c 7) k) (fun k => [(0, .ref (ad G c)), (1, .int i), (2, .int j), (3, .int k)]) (fun k => []) (fun k => σ) (fun k => 0) (fun k => 0) ?_ 0 ?_
  · rintro k hI ih
    show hW _ _ _ _ _ _ _ _ _ _ _ _ _ 2 [(0, .ref (ad G c)), (1, .int i), (2, .int j), (3, .int k)] [] σ 0 0
    refine h_iload_n C 3 dX2_isBoundBy_2 rfl rfl ?_
    refine h_aload_n C 0 dX2_isBoundBy_3 rfl rfl ?_
    refine gfX2_34 C hc.1 dX2_isBoundBy_4 ?_
    refine h_icmp_ge C 74 dX2_isBoundBy_7 (by decide) (fun c_7 => ?_) (fun c_7 => ?_)
    · refine h_iconst C 0 dX2_isBoundBy_74 (by decide) ?_
      refine h_zret C rfl (by decide) (Nat.zero_le _) (Nat.zero_le _) dX2_isBoundBy_75 ?_
      refine ⟨⟨0, rfl, Or.inr ⟨rfl, ?_⟩⟩, rfl⟩
      have he := eq_end hI.2.1 (Int32.not_lt.mpr c_7)
      rw [he] at hI
      rintro ⟨k, q1, q2⟩
      exact hI.2.2 k q1 q2
    · refine h_aload_n C 0 dX2_isBoundBy_10 rfl rfl ?_
      refine h_iload_n C 3 dX2_isBoundBy_11 rfl rfl ?_
      refine h_aload_n C 0 dX2_isBoundBy_12 rfl rfl ?_
      refine gfX2_9 C hc.1 dX2_isBoundBy_13 ?_
      refine h_tref (b := (c + 1)) hc.2.2.2.1.1 ?_
      refine h_iload_n C 1 dX2_isBoundBy_16 rfl rfl ?_
      refine h_lald C hc.2.1.1 (vp32 hi0 hi1 (by decide)) dX2_isBoundBy_17 ?_
      refine h_aload_n C 0 dX2_isBoundBy_18 rfl rfl ?_
      refine gfX2_15 C hc.1 dX2_isBoundBy_19 ?_
      refine h_tref (b := (c + 2)) hc.2.2.2.1.2.1 ?_
      refine h_iload_n C 1 dX2_isBoundBy_22 rfl rfl ?_
      refine h_lald C hc.2.1.2.1 (vp32 hi0 hi1 (by decide)) dX2_isBoundBy_23 ?_
      refine h_aload_n C 0 dX2_isBoundBy_24 rfl rfl ?_
      refine gfX2_18 C hc.1 dX2_isBoundBy_25 ?_
      refine h_tref (b := (c + 3)) hc.2.2.2.1.2.2 ?_
      refine h_iload_n C 1 dX2_isBoundBy_28 rfl rfl ?_
      refine h_lald C hc.2.1.2.2 (vp32 hi0 hi1 (by decide)) dX2_isBoundBy_29 ?_
      refine h_callV C (m_X2_along hc hI.1 (Int32.not_le.mp c_7) (Int32.lt_of_lt_of_le (Int32.not_le.mp c_7) hn.2)) caX2_88 kX2 hc.1 ⟨by decide, by decide, by decide, by decide⟩ rfl rfl (Nat.le_of_ble_eq_true rfl) dX2_isBoundBy_30 ?_
      rintro v σ' ⟨rfl, h2⟩; rw [h2]; clear h2
      show hW _ _ _ _ _ _ _ _ _ _ _ _ _ 33 [(0, .ref (ad G c)), (1, .int i), (2, .int j), (3, .int k)] [.long (dotB σ c k.toNatClampNeg (gL σ (c + 1) i.toNatClampNeg) (gL σ (c + 2) i.toNatClampNeg) (gL σ (c + 3) i.toNatClampNeg))] σ 0 0
      refine h_lconst C 0 dX2_isBoundBy_33 rfl ?_
      refine h_lcmp C dX2_isBoundBy_34 ?_
      refine h_if_ne C 68 dX2_isBoundBy_35 (by decide) (fun c_35 => ?_) (fun c_35 => ?_)
      · refine h_iinc C [(3, .int (k + 1)), (0, .ref (ad G c)), (1, .int i), (2, .int j)] 3 (k + 1) dX2_isBoundBy_68 rfl rfl (by decide) rfl ?_
        refine h_goto C 2 dX2_isBoundBy_71 (by decide) ?_
        refine h_sub [1, 2, 3, 0] rfl ?_
        refine ih (k + 1) ?_ ?_
        · refine ⟨(le_succ hI.1 (Int32.not_le.mp c_7)).1, (le_succ hI.1 (Int32.not_le.mp c_7)).2, all_succ hI.1 (Int32.not_le.mp c_7) hI.2.2 ?_⟩
          rintro ⟨q1, q2⟩
          first | exact c_63 (lg_eq0.mpr q2) | exact c_35 (lg_eq0.mpr q1)
        · exact tm_lt (Int32.not_le.mp c_7)
      · refine h_aload_n C 0 dX2_isBoundBy_38 rfl rfl ?_
        refine h_iload_n C 3 dX2_isBoundBy_39 rfl rfl ?_
        refine h_aload_n C 0 dX2_isBoundBy_40 rfl rfl ?_
        refine gfX2_9 C hc.1 dX2_isBoundBy_41 ?_
        refine h_tref (b := (c + 1)) hc.2.2.2.1.1 ?_
        refine h_iload_n C 2 dX2_isBoundBy_44 rfl rfl ?_
        refine h_lald C hc.2.1.1 (vp32 hj0 hj1 (by decide)) dX2_isBoundBy_45 ?_
        refine h_aload_n C 0 dX2_isBoundBy_46 rfl rfl ?_
        refine gfX2_15 C hc.1 dX2_isBoundBy_47 ?_
        refine h_tref (b := (c + 2)) hc.2.2.2.1.2.1 ?_
        refine h_iload_n C 2 dX2_isBoundBy_50 rfl rfl ?_
        refine h_lald C hc.2.1.2.1 (vp32 hj0 hj1 (by decide)) dX2_isBoundBy_51 ?_
        refine h_aload_n C 0 dX2_isBoundBy_52 rfl rfl ?_
        refine gfX2_18 C hc.1 dX2_isBoundBy_53 ?_
        refine h_tref (b := (c + 3)) hc.2.2.2.1.2.2 ?_
        refine h_iload_n C 2 dX2_isBoundBy_56 rfl rfl ?_
        refine h_lald C hc.2.1.2.2 (vp32 hj0 hj1 (by decide)) dX2_isBoundBy_57 ?_
        refine h_callV C (m_X2_along hc hI.1 (Int32.not_le.mp c_7) (Int32.lt_of_lt_of_le (Int32.not_le.mp c_7) hn.2)) caX2_88 kX2 hc.1 ⟨by decide, by decide, by decide, by decide⟩ rfl rfl (Nat.le_of_ble_eq_true rfl) dX2_isBoundBy_58 ?_
        rintro v σ' ⟨rfl, h2⟩; rw [h2]; clear h2
        show hW _ _ _ _ _ _ _ _ _ _ _ _ _ 61 [(0, .ref (ad G c)), (1, .int i), (2, .int j), (3, .int k)] [.long (dotB σ c k.toNatClampNeg (gL σ (c + 1) j.toNatClampNeg) (gL σ (c + 2) j.toNatClampNeg) (gL σ (c + 3) j.toNatClampNeg))] σ 0 0
        refine h_lconst C 0 dX2_isBoundBy_61 rfl ?_
        refine h_lcmp C dX2_isBoundBy_62 ?_
        refine h_if_ne C 68 dX2_isBoundBy_63 (by decide) (fun c_63 => ?_) (fun c_63 => ?_)
        · refine h_iinc C [(3, .int (k + 1)), (0, .ref (ad G c)), (1, .int i), (2, .int j)] 3 (k + 1) dX2_isBoundBy_68 rfl rfl (by decide) rfl ?_
          refine h_goto C 2 dX2_isBoundBy_71 (by decide) ?_
          refine h_sub [1, 2, 3, 0] rfl ?_
          refine ih (k + 1) ?_ ?_
          · refine ⟨(le_succ hI.1 (Int32.not_le.mp c_7)).1, (le_succ hI.1 (Int32.not_le.mp c_7)).2, all_succ hI.1 (Int32.not_le.mp c_7) hI.2.2 ?_⟩
            rintro ⟨q1, q2⟩
            first | exact c_63 (lg_eq0.mpr q2) | exact c_35 (lg_eq0.mpr q1)
          · exact tm_lt (Int32.not_le.mp c_7)
        · refine h_iconst C 1 dX2_isBoundBy_66 (by decide) ?_
          refine h_zret C rfl (by decide) (Nat.zero_le _) (Nat.zero_le _) dX2_isBoundBy_67 ?_
          exact ⟨⟨1, rfl, Or.inl ⟨rfl, _, tn_lt hI.1 (Int32.not_le.mp c_7), lg_eq0.mp c_35, lg_eq0.mp c_63⟩⟩, rfl⟩
  · exact ⟨by decide, hn.1, all_0⟩
