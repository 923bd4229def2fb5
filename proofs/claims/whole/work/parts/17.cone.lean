/-! ===== cones ===== -/
theorem lg_le0 {x : Int64} : lg_cmp x 0 ≤ 0 ↔ ¬ 0 < x := by unfold lg_cmp; grind
theorem lg_ge0 {x : Int64} : 0 ≤ lg_cmp x 0 ↔ ¬ x < 0 := by unfold lg_cmp; grind
theorem lg_eq0 {x : Int64} : lg_cmp x 0 = 0 ↔ x = 0 := by unfold lg_cmp; grind
theorem flag_step {a : Int32} {P : Nat → Prop} {i N : Int32} (h0 : 0 ≤ i) (hN : i < N) (ha : a = 0 ∨ a = 1) (hiff : a = 1 ↔ ∃ x, x < i.toNatClampNeg ∧ P x) {v : Int32} (hv : (v = 1 ∧ P i.toNatClampNeg) ∨ (v = 0 ∧ ¬ P i.toNatClampNeg)) :
    ((a ||| v) = 0 ∨ (a ||| v) = 1) ∧ ((a ||| v) = 1 ↔ ∃ x, x < (i + 1).toNatClampNeg ∧ P x) := by
  have key : (∃ x, x < (i + 1).toNatClampNeg ∧ P x) ↔ (∃ x, x < i.toNatClampNeg ∧ P x) ∨ P i.toNatClampNeg := by
    rw [tn_succ h0 hN]
    constructor
    · rintro ⟨x, h1, h2⟩
      by_cases hx : x = i.toNatClampNeg
      · exact Or.inr (hx ▸ h2)
      · exact Or.inl ⟨x, by omega, h2⟩
    · rintro (⟨x, h1, h2⟩ | h)
      · exact ⟨x, by omega, h2⟩
      · exact ⟨_, by omega, h⟩
  rw [key, ← hiff]
  rcases ha with rfl | rfl <;> rcases hv with ⟨rfl, h⟩ | ⟨rfl, h⟩ <;> simp [h] <;> decide
def cP (σ : ha_St) (c j : Nat) : Int64 := gL σ (c + 1) j
def cQ (σ : ha_St) (c j : Nat) : Int64 := gL σ (c + 2) j
def cM (σ : ha_St) (c j : Nat) : Int64 := gL σ (c + 3) j
def set3 (σ : ha_St) (c : Nat) (x y z : Int64) : ha_St := sL (sL (sL σ c 8 x) c 9 y) c 10 z
/-- the cross of (a, b, w) and the j-th wrench, in hand -/
def tcr (σ : ha_St) (c : Nat) (a b w : Int64) (j : Nat) : ha_St := set3 σ c (b * cM σ c j - w * cQ σ c j) (w * cP σ c j - a * cM σ c j) (a * cQ σ c j - b * cP σ c j)
def dotN (σ : ha_St) (c j : Nat) : Int64 := gL σ c 8 * cP σ c j + gL σ c 9 * cQ σ c j + gL σ c 10 * cM σ c j
def dotB (σ : ha_St) (c k : Nat) (tp tq tm : Int64) : Int64 := gL σ (c + 4) k * tp + gL σ (c + 5) k * tq + gL σ (c + 6) k * tm
def bonce (σ : ha_St) (c : Nat) (a b w : Int64) : ha_St := if gI σ c 7 < 32 then sI (sL (sL (sL σ (c + 4) (gI σ c 7).toNatClampNeg a) (c + 5) (gI σ c 7).toNatClampNeg b) (c + 6) (gI σ c 7).toNatClampNeg w) c 7 (gI σ c 7 + 1) else σ
theorem bonce_T {σ : ha_St} {c : Nat} {a b w : Int64} : gT (bonce σ c a b w) = gT σ := by unfold bonce; split <;> rfl
theorem bonce_R {σ : ha_St} {c : Nat} {a b w : Int64} : gR (bonce σ c a b w) = gR σ := by unfold bonce; split <;> rfl
theorem bonce_n {σ : ha_St} {c : Nat} {a b w : Int64} : gn (bonce σ c a b w) = gn σ := by unfold bonce; split <;> rfl
theorem bonce_7 {σ : ha_St} {c : Nat} {a b w : Int64} (h : 0 ≤ gI σ c 7) : 0 ≤ gI (bonce σ c a b w) c 7 := by
  unfold bonce
  split
  · rw [gI_sI, if_pos ⟨rfl, rfl⟩]; grind
  · exact h
theorem bonce_isC {σ : ha_St} {c : Nat} {a b w : Int64} (h : isC σ c) : isC (bonce σ c a b w) c := h.same bonce_T bonce_R
set_option maxRecDepth 100000 in
set_option maxHeartbeats 4000000 in
theorem m_X2_clear {G : ha_G} {l : Launch} {σ : ha_St} {c : Nat} (hT : gT σ c = (3, 0)) : hM G l yX2_clear cX2_clear 1 none { frames := 0, cells := 0, slots := 0, locals := 0 } [.ref (ad G c)] σ (fun v σ' => v = none ∧ σ' = sI (sI σ c 3 0) c 7 0) := by
  refine hM_ofF [(0, .ref (ad G c))] (by decide +kernel) (Nat.le_of_ble_eq_true rfl) rfl ?_
  intro p e s m args below meth c0 C hin
  refine h_aload_n C 0 dX2_clear_0 rfl rfl ?_
  refine h_iconst C 0 dX2_clear_1 (by decide) ?_
  refine pfX2_21 C hT dX2_clear_2 ?_
  refine h_aload_n C 0 dX2_clear_5 rfl rfl ?_
  refine h_iconst C 0 dX2_clear_6 (by decide) ?_
  refine pfX2_34 C hT dX2_clear_7 ?_
  refine h_vret C rfl (Nat.zero_le _) (Nat.zero_le _) dX2_clear_10 ?_
  exact ⟨rfl, rfl⟩
set_option maxRecDepth 100000 in
set_option maxHeartbeats 4000000 in
theorem m_X2_takeCross {G : ha_G} {l : Launch} {σ : ha_St} {c : Nat} {a b w : Int64} {i : Int32} (hc : isC σ c) (h0 : 0 ≤ i) (h1 : i < 30) : hM G l yX2_takeCross cX2_takeCross 8 none { frames := 0, cells := 0, slots := 0, locals := 0 } [.ref (ad G c), .long a, .long b, .long w, .int i] σ (fun v σ' => v = none ∧ σ' = tcr σ c a b w i.toNatClampNeg) := by
  refine hM_ofF [(0, .ref (ad G c)), (1, .long a), (3, .long b), (5, .long w), (7, .int i)] (by decide +kernel) (Nat.le_of_ble_eq_true rfl) rfl ?_
  intro p e s m args below meth c0 C hin
  refine h_iload C 4 dX2_takeCross_0 rfl ?_
  refine h_if_lt C 83 dX2_takeCross_2 (by decide) (fun c_2 => ?_) (fun c_2 => ?_)
  · exact absurd c_2 (Int32.not_lt.mpr h0)
  · refine h_iload C 4 dX2_takeCross_5 rfl ?_
    refine h_bipush C 30 dX2_takeCross_7 (by decide) ?_
    refine h_icmp_ge C 83 dX2_takeCross_9 (by decide) (fun c_9 => ?_) (fun c_9 => ?_)
    · exact absurd h1 (Int32.not_lt.mpr c_9)
    · refine h_aload_n C 0 dX2_takeCross_12 rfl rfl ?_
      refine h_lload_n C 2 dX2_takeCross_13 rfl rfl ?_
      refine h_aload_n C 0 dX2_takeCross_14 rfl rfl ?_
      refine gfX2_18 C hc.1 dX2_takeCross_15 ?_
      refine h_tref (b := (c + 3)) hc.2.2.2.1.2.2 ?_
      refine h_iload C 4 dX2_takeCross_18 rfl ?_
      refine h_lald C hc.2.1.2.2 (vp32 h0 h1 (by decide)) dX2_takeCross_20 ?_
      refine h_lmul C dX2_takeCross_21 ?_
      refine h_lload C 3 dX2_takeCross_22 rfl ?_
      refine h_aload_n C 0 dX2_takeCross_24 rfl rfl ?_
      refine gfX2_15 C hc.1 dX2_takeCross_25 ?_
      refine h_tref (b := (c + 2)) hc.2.2.2.1.2.1 ?_
      refine h_iload C 4 dX2_takeCross_28 rfl ?_
      refine h_lald C hc.2.1.2.1 (vp32 h0 h1 (by decide)) dX2_takeCross_30 ?_
      refine h_lmul C dX2_takeCross_31 ?_
      refine h_lsub C dX2_takeCross_32 ?_
      refine pfX2_37 C hc.1 dX2_takeCross_33 ?_
      refine h_aload_n C 0 dX2_takeCross_36 rfl rfl ?_
      refine h_lload C 3 dX2_takeCross_37 rfl ?_
      refine h_aload_n C 0 dX2_takeCross_39 rfl rfl ?_
      refine gfX2_9 C hc.1 dX2_takeCross_40 ?_
      refine h_tref (b := (c + 1)) hc.2.2.2.1.1 ?_
      refine h_iload C 4 dX2_takeCross_43 rfl ?_
      refine h_lald C hc.2.1.1 (vp32 h0 h1 (by decide)) dX2_takeCross_45 ?_
      refine h_lmul C dX2_takeCross_46 ?_
      refine h_lload_n C 1 dX2_takeCross_47 rfl rfl ?_
      refine h_aload_n C 0 dX2_takeCross_48 rfl rfl ?_
      refine gfX2_18 C hc.1 dX2_takeCross_49 ?_
      refine h_tref (b := (c + 3)) hc.2.2.2.1.2.2 ?_
      refine h_iload C 4 dX2_takeCross_52 rfl ?_
      refine h_lald C hc.2.1.2.2 (vp32 h0 h1 (by decide)) dX2_takeCross_54 ?_
      refine h_lmul C dX2_takeCross_55 ?_
      refine h_lsub C dX2_takeCross_56 ?_
      refine pfX2_41 C hc.1 dX2_takeCross_57 ?_
      refine h_aload_n C 0 dX2_takeCross_60 rfl rfl ?_
      refine h_lload_n C 1 dX2_takeCross_61 rfl rfl ?_
      refine h_aload_n C 0 dX2_takeCross_62 rfl rfl ?_
      refine gfX2_15 C hc.1 dX2_takeCross_63 ?_
      refine h_tref (b := (c + 2)) hc.2.2.2.1.2.1 ?_
      refine h_iload C 4 dX2_takeCross_66 rfl ?_
      refine h_lald C hc.2.1.2.1 (vp32 h0 h1 (by decide)) dX2_takeCross_68 ?_
      refine h_lmul C dX2_takeCross_69 ?_
      refine h_lload_n C 2 dX2_takeCross_70 rfl rfl ?_
      refine h_aload_n C 0 dX2_takeCross_71 rfl rfl ?_
      refine gfX2_9 C hc.1 dX2_takeCross_72 ?_
      refine h_tref (b := (c + 1)) hc.2.2.2.1.1 ?_
      refine h_iload C 4 dX2_takeCross_75 rfl ?_
      refine h_lald C hc.2.1.1 (vp32 h0 h1 (by decide)) dX2_takeCross_77 ?_
      refine h_lmul C dX2_takeCross_78 ?_
      refine h_lsub C dX2_takeCross_79 ?_
      refine pfX2_44 C hc.1 dX2_takeCross_80 ?_
      refine h_vret C rfl (Nat.zero_le _) (Nat.zero_le _) dX2_takeCross_83 ?_
      refine ⟨rfl, ?_⟩
      simp [tcr, set3, cP, cQ, cM, gL_sL]
set_option maxRecDepth 100000 in
set_option maxHeartbeats 4000000 in
theorem m_X2_alongNormal {G : ha_G} {l : Launch} {σ : ha_St} {c : Nat} {i : Int32} (hc : isC σ c) (h0 : 0 ≤ i) (h1 : i < 30) : hM G l yX2_alongNormal cX2_alongNormal 2 (some .long) { frames := 0, cells := 0, slots := 0, locals := 0 } [.ref (ad G c), .int i] σ (fun v σ' => v = some (.long (dotN σ c i.toNatClampNeg)) ∧ σ' = σ) := by
  refine hM_ofF [(0, .ref (ad G c)), (1, .int i)] (by decide +kernel) (Nat.le_of_ble_eq_true rfl) rfl ?_
  intro p e s m args below meth c0 C hin
  refine h_iload_n C 1 dX2_alongNormal_0 rfl rfl ?_
  refine h_if_lt C 10 dX2_alongNormal_1 (by decide) (fun c_1 => ?_) (fun c_1 => ?_)
  · exact absurd c_1 (Int32.not_lt.mpr h0)
  · refine h_iload_n C 1 dX2_alongNormal_4 rfl rfl ?_
    refine h_bipush C 30 dX2_alongNormal_5 (by decide) ?_
    refine h_icmp_lt C 12 dX2_alongNormal_7 (by decide) (fun c_7 => ?_) (fun c_7 => ?_)
    · refine h_aload_n C 0 dX2_alongNormal_12 rfl rfl ?_
      refine gfX2_37 C hc.1 dX2_alongNormal_13 ?_
      refine h_aload_n C 0 dX2_alongNormal_16 rfl rfl ?_
      refine gfX2_9 C hc.1 dX2_alongNormal_17 ?_
      refine h_tref (b := (c + 1)) hc.2.2.2.1.1 ?_
      refine h_iload_n C 1 dX2_alongNormal_20 rfl rfl ?_
      refine h_lald C hc.2.1.1 (vp32 h0 h1 (by decide)) dX2_alongNormal_21 ?_
      refine h_lmul C dX2_alongNormal_22 ?_
      refine h_aload_n C 0 dX2_alongNormal_23 rfl rfl ?_
      refine gfX2_41 C hc.1 dX2_alongNormal_24 ?_
      refine h_aload_n C 0 dX2_alongNormal_27 rfl rfl ?_
      refine gfX2_15 C hc.1 dX2_alongNormal_28 ?_
      refine h_tref (b := (c + 2)) hc.2.2.2.1.2.1 ?_
      refine h_iload_n C 1 dX2_alongNormal_31 rfl rfl ?_
      refine h_lald C hc.2.1.2.1 (vp32 h0 h1 (by decide)) dX2_alongNormal_32 ?_
      refine h_lmul C dX2_alongNormal_33 ?_
      refine h_ladd C dX2_alongNormal_34 ?_
      refine h_aload_n C 0 dX2_alongNormal_35 rfl rfl ?_
      refine gfX2_44 C hc.1 dX2_alongNormal_36 ?_
      refine h_aload_n C 0 dX2_alongNormal_39 rfl rfl ?_
      refine gfX2_18 C hc.1 dX2_alongNormal_40 ?_
      refine h_tref (b := (c + 3)) hc.2.2.2.1.2.2 ?_
      refine h_iload_n C 1 dX2_alongNormal_43 rfl rfl ?_
      refine h_lald C hc.2.1.2.2 (vp32 h0 h1 (by decide)) dX2_alongNormal_44 ?_
      refine h_lmul C dX2_alongNormal_45 ?_
      refine h_ladd C dX2_alongNormal_46 ?_
      refine h_lret C rfl (Nat.zero_le _) (Nat.zero_le _) dX2_alongNormal_47 ?_
      exact ⟨rfl, rfl⟩
    · exact absurd h1 c_7
set_option maxRecDepth 100000 in
set_option maxHeartbeats 4000000 in
theorem m_X2_along {G : ha_G} {l : Launch} {σ : ha_St} {c : Nat} {k : Int32} {x y z : Int64} (hc : isC σ c) (h0 : 0 ≤ k) (h1 : k < gI σ c 7) (h2 : k < 32) : hM G l yX2_along cX2_along 8 (some .long) { frames := 0, cells := 0, slots := 0, locals := 0 } [.ref (ad G c), .int k, .long x, .long y, .long z] σ (fun v σ' => v = some (.long (dotB σ c k.toNatClampNeg x y z)) ∧ σ' = σ) := by
  refine hM_ofF [(0, .ref (ad G c)), (1, .int k), (2, .long x), (4, .long y), (6, .long z)] (by decide +kernel) (Nat.le_of_ble_eq_true rfl) rfl ?_
  intro p e s m args below meth c0 C hin
  refine h_iload_n C 1 dX2_along_0 rfl rfl ?_
  refine h_if_lt C 18 dX2_along_1 (by decide) (fun c_1 => ?_) (fun c_1 => ?_)
  · exact absurd c_1 (Int32.not_lt.mpr h0)
  · refine h_iload_n C 1 dX2_along_4 rfl rfl ?_
    refine h_aload_n C 0 dX2_along_5 rfl rfl ?_
    refine gfX2_34 C hc.1 dX2_along_6 ?_
    refine h_icmp_ge C 18 dX2_along_9 (by decide) (fun c_9 => ?_) (fun c_9 => ?_)
    · exact absurd h1 (Int32.not_lt.mpr c_9)
    · refine h_iload_n C 1 dX2_along_12 rfl rfl ?_
      refine h_bipush C 32 dX2_along_13 (by decide) ?_
      refine h_icmp_lt C 20 dX2_along_15 (by decide) (fun c_15 => ?_) (fun c_15 => ?_)
      · refine h_aload_n C 0 dX2_along_20 rfl rfl ?_
        refine gfX2_25 C hc.1 dX2_along_21 ?_
        refine h_tref (b := (c + 4)) hc.2.2.2.2.1 ?_
        refine h_iload_n C 1 dX2_along_24 rfl rfl ?_
        refine h_lald C hc.2.2.1.1 (vp32 h0 h2 (by decide)) dX2_along_25 ?_
        refine h_lload_n C 2 dX2_along_26 rfl rfl ?_
        refine h_lmul C dX2_along_27 ?_
        refine h_aload_n C 0 dX2_along_28 rfl rfl ?_
        refine gfX2_28 C hc.1 dX2_along_29 ?_
        refine h_tref (b := (c + 5)) hc.2.2.2.2.2.1 ?_
        refine h_iload_n C 1 dX2_along_32 rfl rfl ?_
        refine h_lald C hc.2.2.1.2.1 (vp32 h0 h2 (by decide)) dX2_along_33 ?_
        refine h_lload C 3 dX2_along_34 rfl ?_
        refine h_lmul C dX2_along_36 ?_
        refine h_ladd C dX2_along_37 ?_
        refine h_aload_n C 0 dX2_along_38 rfl rfl ?_
        refine gfX2_31 C hc.1 dX2_along_39 ?_
        refine h_tref (b := (c + 6)) hc.2.2.2.2.2.2 ?_
        refine h_iload_n C 1 dX2_along_42 rfl rfl ?_
        refine h_lald C hc.2.2.1.2.2 (vp32 h0 h2 (by decide)) dX2_along_43 ?_
        refine h_lload C 4 dX2_along_44 rfl ?_
        refine h_lmul C dX2_along_46 ?_
        refine h_ladd C dX2_along_47 ?_
        refine h_lret C rfl (Nat.zero_le _) (Nat.zero_le _) dX2_along_48 ?_
        exact ⟨rfl, rfl⟩
      · exact absurd h2 c_15
set_option maxRecDepth 100000 in
set_option maxHeartbeats 4000000 in
theorem m_X2_boundOnce {G : ha_G} {l : Launch} {σ : ha_St} {c : Nat} {a b w : Int64} (hc : isC σ c) (h0 : 0 ≤ gI σ c 7) : hM G l yX2_boundOnce cX2_boundOnce 7 none { frames := 0, cells := 0, slots := 0, locals := 0 } [.ref (ad G c), .long a, .long b, .long w] σ (fun v σ' => v = none ∧ σ' = bonce σ c a b w) := by
  refine hM_ofF [(0, .ref (ad G c)), (1, .long a), (3, .long b), (5, .long w)] (by decide +kernel) (Nat.le_of_ble_eq_true rfl) rfl ?_
  intro p e s m args below meth c0 C hin
  refine h_aload_n C 0 dX2_boundOnce_0 rfl rfl ?_
  refine gfX2_34 C hc.1 dX2_boundOnce_1 ?_
  refine h_bipush C 32 dX2_boundOnce_4 (by decide) ?_
  refine h_icmp_ge C 50 dX2_boundOnce_6 (by decide) (fun c_6 => ?_) (fun c_6 => ?_)
  · refine h_vret C rfl (Nat.zero_le _) (Nat.zero_le _) dX2_boundOnce_50 ?_
    refine ⟨rfl, ?_⟩
    unfold bonce
    first | rw [if_pos (Int32.not_le.mp c_6)]; rfl | rw [if_neg (Int32.not_lt.mpr c_6)]
  · refine h_aload_n C 0 dX2_boundOnce_9 rfl rfl ?_
    refine gfX2_25 C hc.1 dX2_boundOnce_10 ?_
    refine h_tref (b := (c + 4)) hc.2.2.2.2.1 ?_
    refine h_aload_n C 0 dX2_boundOnce_13 rfl rfl ?_
    refine gfX2_34 C hc.1 dX2_boundOnce_14 ?_
    refine h_lload_n C 1 dX2_boundOnce_17 rfl rfl ?_
    refine h_last C _ hc.2.2.1.1 (vp32 (N := 32) h0 (Int32.not_le.mp c_6) (by decide)) dX2_boundOnce_18 rfl ?_
    refine h_aload_n C 0 dX2_boundOnce_19 rfl rfl ?_
    refine gfX2_28 C hc.1 dX2_boundOnce_20 ?_
    refine h_tref (b := (c + 5)) hc.2.2.2.2.2.1 ?_
    refine h_aload_n C 0 dX2_boundOnce_23 rfl rfl ?_
    refine gfX2_34 C hc.1 dX2_boundOnce_24 ?_
    refine h_lload_n C 2 dX2_boundOnce_27 rfl rfl ?_
    refine h_last C _ hc.2.2.1.2.1 (vp32 (N := 32) h0 (Int32.not_le.mp c_6) (by decide)) dX2_boundOnce_28 rfl ?_
    refine h_aload_n C 0 dX2_boundOnce_29 rfl rfl ?_
    refine gfX2_31 C hc.1 dX2_boundOnce_30 ?_
    refine h_tref (b := (c + 6)) hc.2.2.2.2.2.2 ?_
    refine h_aload_n C 0 dX2_boundOnce_33 rfl rfl ?_
    refine gfX2_34 C hc.1 dX2_boundOnce_34 ?_
    refine h_lload C 3 dX2_boundOnce_37 rfl ?_
    refine h_last C _ hc.2.2.1.2.2 (vp32 (N := 32) h0 (Int32.not_le.mp c_6) (by decide)) dX2_boundOnce_39 rfl ?_
    refine h_aload_n C 0 dX2_boundOnce_40 rfl rfl ?_
    refine h_dup C dX2_boundOnce_41 rfl ?_
    refine gfX2_34 C hc.1 dX2_boundOnce_42 ?_
    refine h_iconst C 1 dX2_boundOnce_45 (by decide) ?_
    refine h_iadd C dX2_boundOnce_46 ?_
    refine pfX2_34 C hc.1 dX2_boundOnce_47 ?_
    refine h_vret C rfl (Nat.zero_le _) (Nat.zero_le _) dX2_boundOnce_50 ?_
    refine ⟨rfl, ?_⟩
    unfold bonce
    first | rw [if_pos (Int32.not_le.mp c_6)]; rfl | rw [if_neg (Int32.not_lt.mpr c_6)]
set_option maxRecDepth 100000 in
set_option maxHeartbeats 4000000 in
theorem m_X2_boundBoth {G : ha_G} {l : Launch} {σ : ha_St} {c : Nat} {a b w : Int64} (hc : isC σ c) (h0 : 0 ≤ gI σ c 7) : hM G l yX2_boundBoth cX2_boundBoth 7 none { frames := 1, cells := 0, slots := 0, locals := 26 } [.ref (ad G c), .long a, .long b, .long w] σ (fun v σ' => v = none ∧ σ' = bonce (bonce σ c a b w) c (-a) (-b) (-w)) := by
  refine hM_ofF [(0, .ref (ad G c)), (1, .long a), (3, .long b), (5, .long w)] (by decide +kernel) (Nat.le_of_ble_eq_true rfl) rfl ?_
  intro p e s m args below meth c0 C hin
  refine h_aload_n C 0 dX2_boundBoth_0 rfl rfl ?_
  refine h_lload_n C 1 dX2_boundBoth_1 rfl rfl ?_
  refine h_lload_n C 2 dX2_boundBoth_2 rfl rfl ?_
  refine h_lload C 3 dX2_boundBoth_3 rfl ?_
  refine h_callV C (m_X2_boundOnce hc h0) caX2_99 kX2 hc.1 ⟨by decide, by decide, by decide, by decide⟩ rfl rfl (Nat.le_of_ble_eq_true rfl) dX2_boundBoth_5 ?_
  rintro v σ' ⟨rfl, h2⟩; rw [h2]; clear h2
  show hW _ _ _ _ _ _ _ _ _ _ _ _ _ 8 [(0, .ref (ad G c)), (1, .long a), (3, .long b), (5, .long w)] [] (bonce σ c a b w) 0 0
  refine h_aload_n C 0 dX2_boundBoth_8 rfl rfl ?_
  refine h_lload_n C 1 dX2_boundBoth_9 rfl rfl ?_
  refine h_lneg C dX2_boundBoth_10 ?_
  refine h_lload_n C 2 dX2_boundBoth_11 rfl rfl ?_
  refine h_lneg C dX2_boundBoth_12 ?_
  refine h_lload C 3 dX2_boundBoth_13 rfl ?_
  refine h_lneg C dX2_boundBoth_15 ?_
  refine h_callV C (m_X2_boundOnce (bonce_isC hc) (bonce_7 h0)) caX2_99 kX2 (bonce_isC hc).1 ⟨by decide, by decide, by decide, by decide⟩ rfl rfl (Nat.le_of_ble_eq_true rfl) dX2_boundBoth_16 ?_
  rintro v σ' ⟨rfl, h2⟩; rw [h2]; clear h2
  show hW _ _ _ _ _ _ _ _ _ _ _ _ _ 19 [(0, .ref (ad G c)), (1, .long a), (3, .long b), (5, .long w)] [] (bonce (bonce σ c a b w) c (-a) (-b) (-w)) 0 0
  refine h_vret C rfl (Nat.zero_le _) (Nat.zero_le _) dX2_boundBoth_19 ?_
  exact ⟨rfl, rfl⟩
def hasNeg (σ : ha_St) (c n : Nat) : Prop := ∃ x, x < n ∧ dotN σ c x < 0
def hasPos (σ : ha_St) (c n : Nat) : Prop := ∃ x, x < n ∧ 0 < dotN σ c x
/-- the normal in hand is kept, if all wrenches lie on one side of it -/
def oneSided (σ : ha_St) (c : Nat) (σ' : ha_St) : Prop :=
  (¬ hasNeg σ c (gI σ c 3).toNatClampNeg ∧ σ' = bonce σ c (gL σ c 8) (gL σ c 9) (gL σ c 10)) ∨ (hasNeg σ c (gI σ c 3).toNatClampNeg ∧ ¬ hasPos σ c (gI σ c 3).toNatClampNeg ∧ σ' = bonce σ c (-gL σ c 8) (-gL σ c 9) (-gL σ c 10)) ∨ (hasNeg σ c (gI σ c 3).toNatClampNeg ∧ hasPos σ c (gI σ c 3).toNatClampNeg ∧ σ' = σ)
set_option maxRecDepth 100000 in
set_option maxHeartbeats 4000000 in
theorem m_X2_boundIfOneSided {G : ha_G} {l : Launch} {σ : ha_St} {c : Nat} (hc : isC σ c) (h0 : 0 ≤ gI σ c 7) (hs0 : 0 ≤ gI σ c 3) (hs1 : gI σ c 3 ≤ 30) : hM G l yX2_boundIfOneSided cX2_boundIfOneSided 6 none { frames := 1, cells := 0, slots := 0, locals := 26 } [.ref (ad G c)] σ (fun v σ' => v = none ∧ oneSided σ c σ') := by
  refine hM_ofF [(0, .ref (ad G c))] (by decide +kernel) (Nat.le_of_ble_eq_true rfl) rfl ?_
  intro p e s m args below meth c0 C hin
  refine h_join (α := Int32 × Int32) 65 (fun (a, b) => (a = 0 ∨ a = 1) ∧ (b = 0 ∨ b = 1) ∧ (a = 1 ↔ hasPos σ c (gI σ c 3).toNatClampNeg) ∧ (b = 1 ↔ hasNeg σ c (gI σ c 3).toNatClampNeg)) (fun (a, b) => [(0, .ref (ad G c)), (1, .int a), (2, .int b)]) (fun (a, b) => []) (fun (a, b) => σ) (fun (a, b) => 0) (fun (a, b) => 0) ?_ (fun J_1 => ?_)
  · rintro ⟨a, b⟩ hJ
    show hW _ _ _ _ _ _ _ _ _ _ _ _ _ 65 [(0, .ref (ad G c)), (1, .int a), (2, .int b)] [] σ 0 0
    refine h_iload_n C 2 dX2_boundIfOneSided_65 rfl rfl ?_
    refine h_if_ne C 88 dX2_boundIfOneSided_66 (by decide) (fun c_66 => ?_) (fun c_66 => ?_)
    · refine h_iload_n C 1 dX2_boundIfOneSided_88 rfl rfl ?_
      refine h_if_ne C 111 dX2_boundIfOneSided_89 (by decide) (fun c_89 => ?_) (fun c_89 => ?_)
      · refine h_vret C rfl (Nat.zero_le _) (Nat.zero_le _) dX2_boundIfOneSided_111 ?_
        refine ⟨rfl, ?_⟩
        first
          | exact Or.inl ⟨fun q => absurd (hJ.2.2.2.mpr q) (by rw [c_66]; decide), rfl⟩
          | exact Or.inr (Or.inl ⟨hJ.2.2.2.mp (hJ.2.1.resolve_left c_66), fun q => absurd (hJ.2.2.1.mpr q) (by rw [c_89]; decide), rfl⟩)
          | exact Or.inr (Or.inr ⟨hJ.2.2.2.mp (hJ.2.1.resolve_left c_66), hJ.2.2.1.mp (hJ.1.resolve_left c_89), rfl⟩)
      · refine h_aload_n C 0 dX2_boundIfOneSided_92 rfl rfl ?_
        refine h_aload_n C 0 dX2_boundIfOneSided_93 rfl rfl ?_
        refine gfX2_37 C hc.1 dX2_boundIfOneSided_94 ?_
        refine h_lneg C dX2_boundIfOneSided_97 ?_
        refine h_aload_n C 0 dX2_boundIfOneSided_98 rfl rfl ?_
        refine gfX2_41 C hc.1 dX2_boundIfOneSided_99 ?_
        refine h_lneg C dX2_boundIfOneSided_102 ?_
        refine h_aload_n C 0 dX2_boundIfOneSided_103 rfl rfl ?_
        refine gfX2_44 C hc.1 dX2_boundIfOneSided_104 ?_
        refine h_lneg C dX2_boundIfOneSided_107 ?_
        refine h_callV C (m_X2_boundOnce hc h0) caX2_99 kX2 hc.1 ⟨by decide, by decide, by decide, by decide⟩ rfl rfl (Nat.le_of_ble_eq_true rfl) dX2_boundIfOneSided_108 ?_
        rintro v σ' ⟨rfl, h2⟩; rw [h2]; clear h2
        show hW _ _ _ _ _ _ _ _ _ _ _ _ _ 111 [(0, .ref (ad G c)), (1, .int a), (2, .int b)] [] (bonce σ c (-(gL σ c 8)) (-(gL σ c 9)) (-(gL σ c 10))) 0 0
        refine h_vret C rfl (Nat.zero_le _) (Nat.zero_le _) dX2_boundIfOneSided_111 ?_
        refine ⟨rfl, ?_⟩
        first
          | exact Or.inl ⟨fun q => absurd (hJ.2.2.2.mpr q) (by rw [c_66]; decide), rfl⟩
          | exact Or.inr (Or.inl ⟨hJ.2.2.2.mp (hJ.2.1.resolve_left c_66), fun q => absurd (hJ.2.2.1.mpr q) (by rw [c_89]; decide), rfl⟩)
          | exact Or.inr (Or.inr ⟨hJ.2.2.2.mp (hJ.2.1.resolve_left c_66), hJ.2.2.1.mp (hJ.1.resolve_left c_89), rfl⟩)
    · refine h_aload_n C 0 dX2_boundIfOneSided_69 rfl rfl ?_
      refine h_aload_n C 0 dX2_boundIfOneSided_70 rfl rfl ?_
      refine gfX2_37 C hc.1 dX2_boundIfOneSided_71 ?_
      refine h_aload_n C 0 dX2_boundIfOneSided_74 rfl rfl ?_
      refine gfX2_41 C hc.1 dX2_boundIfOneSided_75 ?_
      refine h_aload_n C 0 dX2_boundIfOneSided_78 rfl rfl ?_
      refine gfX2_44 C hc.1 dX2_boundIfOneSided_79 ?_
      refine h_callV C (m_X2_boundOnce hc h0) caX2_99 kX2 hc.1 ⟨by decide, by decide, by decide, by decide⟩ rfl rfl (Nat.le_of_ble_eq_true rfl) dX2_boundIfOneSided_82 ?_
      rintro v σ' ⟨rfl, h2⟩; rw [h2]; clear h2
      show hW _ _ _ _ _ _ _ _ _ _ _ _ _ 85 [(0, .ref (ad G c)), (1, .int a), (2, .int b)] [] (bonce σ c (gL σ c 8) (gL σ c 9) (gL σ c 10)) 0 0
      refine h_goto C 111 dX2_boundIfOneSided_85 (by decide) ?_
      refine h_vret C rfl (Nat.zero_le _) (Nat.zero_le _) dX2_boundIfOneSided_111 ?_
      refine ⟨rfl, ?_⟩
      first
        | exact Or.inl ⟨fun q => absurd (hJ.2.2.2.mpr q) (by rw [c_66]; decide), rfl⟩
        | exact Or.inr (Or.inl ⟨hJ.2.2.2.mp (hJ.2.1.resolve_left c_66), fun q => absurd (hJ.2.2.1.mpr q) (by rw [c_89]; decide), rfl⟩)
        | exact Or.inr (Or.inr ⟨hJ.2.2.2.mp (hJ.2.1.resolve_left c_66), hJ.2.2.1.mp (hJ.1.resolve_left c_89), rfl⟩)
  · refine h_iconst C 0 dX2_boundIfOneSided_0 (by decide) ?_
    refine h_istore_n C [(1, .int 0), (0, .ref (ad G c))] dX2_boundIfOneSided_1 rfl (by decide) rfl ?_
    refine h_iconst C 0 dX2_boundIfOneSided_2 (by decide) ?_
    refine h_istore_n C [(2, .int 0), (1, .int 0), (0, .ref (ad G c))] dX2_boundIfOneSided_3 rfl (by decide) rfl ?_
    refine h_iconst C 0 dX2_boundIfOneSided_4 (by decide) ?_
    refine h_istore_n C [(3, .int 0), (2, .int 0), (1, .int 0), (0, .ref (ad G c))] dX2_boundIfOneSided_5 rfl (by decide) rfl ?_
    refine h_sub [3, 2, 1, 0] rfl ?_
    refine h_loop (α := Int32 × Int32 × Int32) (fun (i, a, b) => 0 ≤ i ∧ i ≤ gI σ c 3 ∧ (a = 0 ∨ a = 1) ∧ (b = 0 ∨ b = 1) ∧ (a = 1 ↔ hasPos σ c i.toNatClampNeg) ∧ (b = 1 ↔ hasNeg σ c i.toNatClampNeg)) (fun (i, a, b) => tm (gI σ c 3) i) (fun (i, a, b) => [(0, .ref (ad G c)), (1, .int a), (2, .int b), (3, .int i)]) (fun (i, a, b) => []) (fun (i, a, b) => σ) (fun (i, a, b) => 0) (fun (i, a, b) => 0) ?_ (0, 0, 0) ?_
    · rintro ⟨i, a, b⟩ hI ih
      show hW _ _ _ _ _ _ _ _ _ _ _ _ _ 6 [(0, .ref (ad G c)), (1, .int a), (2, .int b), (3, .int i)] [] σ 0 0
      refine h_iload_n C 3 dX2_boundIfOneSided_6 rfl rfl ?_
      refine h_aload_n C 0 dX2_boundIfOneSided_7 rfl rfl ?_
      refine gfX2_21 C hc.1 dX2_boundIfOneSided_8 ?_
      refine h_icmp_ge C 65 dX2_boundIfOneSided_11 (by decide) (fun c_11 => ?_) (fun c_11 => ?_)
      · refine h_sub [0, 1, 2] rfl ?_
        refine J_1 (a, b) ?_
        first
          | (have he := eq_end hI.2.1 (Int32.not_lt.mpr c_11); subst he; exact ⟨hI.2.2.1, hI.2.2.2.1, hI.2.2.2.2.1, hI.2.2.2.2.2⟩)
          | (have ha : a = 1 := hI.2.2.1.resolve_left c_15
             have hb : b = 1 := hI.2.2.2.1.resolve_left c_19
             have hn := tn_le hI.1 hI.2.1
             refine ⟨Or.inr ha, Or.inr hb, ⟨fun _ => ?_, fun _ => ha⟩, ⟨fun _ => ?_, fun _ => hb⟩⟩
             · obtain ⟨x, h1, h2⟩ := hI.2.2.2.2.1.mp ha
               exact ⟨x, by omega, h2⟩
             · obtain ⟨x, h1, h2⟩ := hI.2.2.2.2.2.mp hb
               exact ⟨x, by omega, h2⟩)
      · refine h_iload_n C 1 dX2_boundIfOneSided_14 rfl rfl ?_
        refine h_if_eq C 22 dX2_boundIfOneSided_15 (by decide) (fun c_15 => ?_) (fun c_15 => ?_)
        · refine h_aload_n C 0 dX2_boundIfOneSided_22 rfl rfl ?_
          refine h_iload_n C 3 dX2_boundIfOneSided_23 rfl rfl ?_
          refine h_callV C (m_X2_alongNormal hc hI.1 (Int32.lt_of_lt_of_le (Int32.not_le.mp c_11) hs1)) caX2_63 kX2 hc.1 ⟨by decide, by decide, by decide, by decide⟩ rfl rfl (Nat.le_of_ble_eq_true rfl) dX2_boundIfOneSided_24 ?_
          rintro v σ' ⟨rfl, h2⟩; rw [h2]; clear h2
          show hW _ _ _ _ _ _ _ _ _ _ _ _ _ 27 [(0, .ref (ad G c)), (1, .int a), (2, .int b), (3, .int i)] [.long (dotN σ c i.toNatClampNeg)] σ 0 0
          refine h_lstore C [(4, .long (dotN σ c i.toNatClampNeg)), (0, .ref (ad G c)), (1, .int a), (2, .int b), (3, .int i)] dX2_boundIfOneSided_27 (by decide) rfl ?_
          refine h_iload_n C 2 dX2_boundIfOneSided_29 rfl rfl ?_
          refine h_lload C 0 dX2_boundIfOneSided_30 rfl ?_
          refine h_lconst C 0 dX2_boundIfOneSided_32 rfl ?_
          refine h_lcmp C dX2_boundIfOneSided_33 ?_
          refine h_if_le C 41 dX2_boundIfOneSided_34 (by decide) (fun c_34 => ?_) (fun c_34 => ?_)
          · refine h_iconst C 0 dX2_boundIfOneSided_41 (by decide) ?_
            refine h_ior C dX2_boundIfOneSided_42 ?_
            refine h_istore_n C [(1, .int (a ||| 0)), (4, .long (dotN σ c i.toNatClampNeg)), (0, .ref (ad G c)), (2, .int b), (3, .int i)] dX2_boundIfOneSided_43 rfl (by decide) rfl ?_
            refine h_iload_n C 3 dX2_boundIfOneSided_44 rfl rfl ?_
            refine h_lload C 1 dX2_boundIfOneSided_45 rfl ?_
            refine h_lconst C 0 dX2_boundIfOneSided_47 rfl ?_
            refine h_lcmp C dX2_boundIfOneSided_48 ?_
            refine h_if_ge C 56 dX2_boundIfOneSided_49 (by decide) (fun c_49 => ?_) (fun c_49 => ?_)
            · refine h_iconst C 0 dX2_boundIfOneSided_56 (by decide) ?_
              refine h_ior C dX2_boundIfOneSided_57 ?_
              refine h_istore_n C [(2, .int (b ||| 0)), (1, .int (a ||| 0)), (4, .long (dotN σ c i.toNatClampNeg)), (0, .ref (ad G c)), (3, .int i)] dX2_boundIfOneSided_58 rfl (by decide) rfl ?_
              refine h_iinc C [(3, .int (i + 1)), (2, .int (b ||| 0)), (1, .int (a ||| 0)), (4, .long (dotN σ c i.toNatClampNeg)), (0, .ref (ad G c))] 4 (i + 1) dX2_boundIfOneSided_59 rfl rfl (by decide) rfl ?_
              refine h_goto C 6 dX2_boundIfOneSided_62 (by decide) ?_
              refine h_sub [4, 2, 1, 0] rfl ?_
              refine ih ((i + 1), (a ||| 0), (b ||| 0)) ?_ ?_
              · have ha := flag_step hI.1 (Int32.not_le.mp c_11) hI.2.2.1 hI.2.2.2.2.1 (Or.inr ⟨rfl, lg_le0.mp c_34⟩)
                have hb := flag_step hI.1 (Int32.not_le.mp c_11) hI.2.2.2.1 hI.2.2.2.2.2 (Or.inr ⟨rfl, lg_ge0.mp c_49⟩)
                exact ⟨(le_succ hI.1 (Int32.not_le.mp c_11)).1, (le_succ hI.1 (Int32.not_le.mp c_11)).2, ha.1, hb.1, ha.2, hb.2⟩
              · exact tm_lt (Int32.not_le.mp c_11)
            · refine h_iconst C 1 dX2_boundIfOneSided_52 (by decide) ?_
              refine h_goto C 57 dX2_boundIfOneSided_53 (by decide) ?_
              refine h_ior C dX2_boundIfOneSided_57 ?_
              refine h_istore_n C [(2, .int (b ||| 1)), (1, .int (a ||| 0)), (4, .long (dotN σ c i.toNatClampNeg)), (0, .ref (ad G c)), (3, .int i)] dX2_boundIfOneSided_58 rfl (by decide) rfl ?_
              refine h_iinc C [(3, .int (i + 1)), (2, .int (b ||| 1)), (1, .int (a ||| 0)), (4, .long (dotN σ c i.toNatClampNeg)), (0, .ref (ad G c))] 4 (i + 1) dX2_boundIfOneSided_59 rfl rfl (by decide) rfl ?_
              refine h_goto C 6 dX2_boundIfOneSided_62 (by decide) ?_
              refine h_sub [4, 2, 1, 0] rfl ?_
              refine ih ((i + 1), (a ||| 0), (b ||| 1)) ?_ ?_
              · have ha := flag_step hI.1 (Int32.not_le.mp c_11) hI.2.2.1 hI.2.2.2.2.1 (Or.inr ⟨rfl, lg_le0.mp c_34⟩)
                have hb := flag_step hI.1 (Int32.not_le.mp c_11) hI.2.2.2.1 hI.2.2.2.2.2 (Or.inl ⟨rfl, Decidable.not_not.mp (fun q => c_49 (lg_ge0.mpr q))⟩)
                exact ⟨(le_succ hI.1 (Int32.not_le.mp c_11)).1, (le_succ hI.1 (Int32.not_le.mp c_11)).2, ha.1, hb.1, ha.2, hb.2⟩
              · exact tm_lt (Int32.not_le.mp c_11)
          · refine h_iconst C 1 dX2_boundIfOneSided_37 (by decide) ?_
            refine h_goto C 42 dX2_boundIfOneSided_38 (by decide) ?_
            refine h_ior C dX2_boundIfOneSided_42 ?_
            refine h_istore_n C [(1, .int (a ||| 1)), (4, .long (dotN σ c i.toNatClampNeg)), (0, .ref (ad G c)), (2, .int b), (3, .int i)] dX2_boundIfOneSided_43 rfl (by decide) rfl ?_
            refine h_iload_n C 3 dX2_boundIfOneSided_44 rfl rfl ?_
            refine h_lload C 1 dX2_boundIfOneSided_45 rfl ?_
            refine h_lconst C 0 dX2_boundIfOneSided_47 rfl ?_
            refine h_lcmp C dX2_boundIfOneSided_48 ?_
            refine h_if_ge C 56 dX2_boundIfOneSided_49 (by decide) (fun c_49 => ?_) (fun c_49 => ?_)
            · refine h_iconst C 0 dX2_boundIfOneSided_56 (by decide) ?_
              refine h_ior C dX2_boundIfOneSided_57 ?_
              refine h_istore_n C [(2, .int (b ||| 0)), (1, .int (a ||| 1)), (4, .long (dotN σ c i.toNatClampNeg)), (0, .ref (ad G c)), (3, .int i)] dX2_boundIfOneSided_58 rfl (by decide) rfl ?_
              refine h_iinc C [(3, .int (i + 1)), (2, .int (b ||| 0)), (1, .int (a ||| 1)), (4, .long (dotN σ c i.toNatClampNeg)), (0, .ref (ad G c))] 4 (i + 1) dX2_boundIfOneSided_59 rfl rfl (by decide) rfl ?_
              refine h_goto C 6 dX2_boundIfOneSided_62 (by decide) ?_
              refine h_sub [4, 2, 1, 0] rfl ?_
              refine ih ((i + 1), (a ||| 1), (b ||| 0)) ?_ ?_
              · have ha := flag_step hI.1 (Int32.not_le.mp c_11) hI.2.2.1 hI.2.2.2.2.1 (Or.inl ⟨rfl, Decidable.not_not.mp (fun q => c_34 (lg_le0.mpr q))⟩)
                have hb := flag_step hI.1 (Int32.not_le.mp c_11) hI.2.2.2.1 hI.2.2.2.2.2 (Or.inr ⟨rfl, lg_ge0.mp c_49⟩)
                exact ⟨(le_succ hI.1 (Int32.not_le.mp c_11)).1, (le_succ hI.1 (Int32.not_le.mp c_11)).2, ha.1, hb.1, ha.2, hb.2⟩
              · exact tm_lt (Int32.not_le.mp c_11)
            · refine h_iconst C 1 dX2_boundIfOneSided_52 (by decide) ?_
              refine h_goto C 57 dX2_boundIfOneSided_53 (by decide) ?_
              refine h_ior C dX2_boundIfOneSided_57 ?_
              refine h_istore_n C [(2, .int (b ||| 1)), (1, .int (a ||| 1)), (4, .long (dotN σ c i.toNatClampNeg)), (0, .ref (ad G c)), (3, .int i)] dX2_boundIfOneSided_58 rfl (by decide) rfl ?_
              refine h_iinc C [(3, .int (i + 1)), (2, .int (b ||| 1)), (1, .int (a ||| 1)), (4, .long (dotN σ c i.toNatClampNeg)), (0, .ref (ad G c))] 4 (i + 1) dX2_boundIfOneSided_59 rfl rfl (by decide) rfl ?_
              refine h_goto C 6 dX2_boundIfOneSided_62 (by decide) ?_
              refine h_sub [4, 2, 1, 0] rfl ?_
              refine ih ((i + 1), (a ||| 1), (b ||| 1)) ?_ ?_
              · have ha := flag_step hI.1 (Int32.not_le.mp c_11) hI.2.2.1 hI.2.2.2.2.1 (Or.inl ⟨rfl, Decidable.not_not.mp (fun q => c_34 (lg_le0.mpr q))⟩)
                have hb := flag_step hI.1 (Int32.not_le.mp c_11) hI.2.2.2.1 hI.2.2.2.2.2 (Or.inl ⟨rfl, Decidable.not_not.mp (fun q => c_49 (lg_ge0.mpr q))⟩)
                exact ⟨(le_succ hI.1 (Int32.not_le.mp c_11)).1, (le_succ hI.1 (Int32.not_le.mp c_11)).2, ha.1, hb.1, ha.2, hb.2⟩
              · exact tm_lt (Int32.not_le.mp c_11)
        · refine h_iload_n C 2 dX2_boundIfOneSided_18 rfl rfl ?_
          refine h_if_ne C 65 dX2_boundIfOneSided_19 (by decide) (fun c_19 => ?_) (fun c_19 => ?_)
          · refine h_sub [0, 1, 2] rfl ?_
            refine J_1 (a, b) ?_
            first
              | (have he := eq_end hI.2.1 (Int32.not_lt.mpr c_11); subst he; exact ⟨hI.2.2.1, hI.2.2.2.1, hI.2.2.2.2.1, hI.2.2.2.2.2⟩)
              | (have ha : a = 1 := hI.2.2.1.resolve_left c_15
                 have hb : b = 1 := hI.2.2.2.1.resolve_left c_19
                 have hn := tn_le hI.1 hI.2.1
                 refine ⟨Or.inr ha, Or.inr hb, ⟨fun _ => ?_, fun _ => ha⟩, ⟨fun _ => ?_, fun _ => hb⟩⟩
                 · obtain ⟨x, h1, h2⟩ := hI.2.2.2.2.1.mp ha
                   exact ⟨x, by omega, h2⟩
                 · obtain ⟨x, h1, h2⟩ := hI.2.2.2.2.2.mp hb
                   exact ⟨x, by omega, h2⟩)
          · refine h_aload_n C 0 dX2_boundIfOneSided_22 rfl rfl ?_
            refine h_iload_n C 3 dX2_boundIfOneSided_23 rfl rfl ?_
            refine h_callV C (m_X2_alongNormal hc hI.1 (Int32.lt_of_lt_of_le (Int32.not_le.mp c_11) hs1)) caX2_63 kX2 hc.1 ⟨by decide, by decide, by decide, by decide⟩ rfl rfl (Nat.le_of_ble_eq_true rfl) dX2_boundIfOneSided_24 ?_
            rintro v σ' ⟨rfl, h2⟩; rw [h2]; clear h2
            show hW _ _ _ _ _ _ _ _ _ _ _ _ _ 27 [(0, .ref (ad G c)), (1, .int a), (2, .int b), (3, .int i)] [.long (dotN σ c i.toNatClampNeg)] σ 0 0
            refine h_lstore C [(4, .long (dotN σ c i.toNatClampNeg)), (0, .ref (ad G c)), (1, .int a), (2, .int b), (3, .int i)] dX2_boundIfOneSided_27 (by decide) rfl ?_
            refine h_iload_n C 2 dX2_boundIfOneSided_29 rfl rfl ?_
            refine h_lload C 0 dX2_boundIfOneSided_30 rfl ?_
            refine h_lconst C 0 dX2_boundIfOneSided_32 rfl ?_
            refine h_lcmp C dX2_boundIfOneSided_33 ?_
            refine h_if_le C 41 dX2_boundIfOneSided_34 (by decide) (fun c_34 => ?_) (fun c_34 => ?_)
            · refine h_iconst C 0 dX2_boundIfOneSided_41 (by decide) ?_
              refine h_ior C dX2_boundIfOneSided_42 ?_
              refine h_istore_n C [(1, .int (a ||| 0)), (4, .long (dotN σ c i.toNatClampNeg)), (0, .ref (ad G c)), (2, .int b), (3, .int i)] dX2_boundIfOneSided_43 rfl (by decide) rfl ?_
              refine h_iload_n C 3 dX2_boundIfOneSided_44 rfl rfl ?_
              refine h_lload C 1 dX2_boundIfOneSided_45 rfl ?_
              refine h_lconst C 0 dX2_boundIfOneSided_47 rfl ?_
              refine h_lcmp C dX2_boundIfOneSided_48 ?_
              refine h_if_ge C 56 dX2_boundIfOneSided_49 (by decide) (fun c_49 => ?_) (fun c_49 => ?_)
              · refine h_iconst C 0 dX2_boundIfOneSided_56 (by decide) ?_
                refine h_ior C dX2_boundIfOneSided_57 ?_
                refine h_istore_n C [(2, .int (b ||| 0)), (1, .int (a ||| 0)), (4, .long (dotN σ c i.toNatClampNeg)), (0, .ref (ad G c)), (3, .int i)] dX2_boundIfOneSided_58 rfl (by decide) rfl ?_
                refine h_iinc C [(3, .int (i + 1)), (2, .int (b ||| 0)), (1, .int (a ||| 0)), (4, .long (dotN σ c i.toNatClampNeg)), (0, .ref (ad G c))] 4 (i + 1) dX2_boundIfOneSided_59 rfl rfl (by decide) rfl ?_
                refine h_goto C 6 dX2_boundIfOneSided_62 (by decide) ?_
                refine h_sub [4, 2, 1, 0] rfl ?_
                refine ih ((i + 1), (a ||| 0), (b ||| 0)) ?_ ?_
                · have ha := flag_step hI.1 (Int32.not_le.mp c_11) hI.2.2.1 hI.2.2.2.2.1 (Or.inr ⟨rfl, lg_le0.mp c_34⟩)
                  have hb := flag_step hI.1 (Int32.not_le.mp c_11) hI.2.2.2.1 hI.2.2.2.2.2 (Or.inr ⟨rfl, lg_ge0.mp c_49⟩)
                  exact ⟨(le_succ hI.1 (Int32.not_le.mp c_11)).1, (le_succ hI.1 (Int32.not_le.mp c_11)).2, ha.1, hb.1, ha.2, hb.2⟩
                · exact tm_lt (Int32.not_le.mp c_11)
              · refine h_iconst C 1 dX2_boundIfOneSided_52 (by decide) ?_
                refine h_goto C 57 dX2_boundIfOneSided_53 (by decide) ?_
                refine h_ior C dX2_boundIfOneSided_57 ?_
                refine h_istore_n C [(2, .int (b ||| 1)), (1, .int (a ||| 0)), (4, .long (dotN σ c i.toNatClampNeg)), (0, .ref (ad G c)), (3, .int i)] dX2_boundIfOneSided_58 rfl (by decide) rfl ?_
                refine h_iinc C [(3, .int (i + 1)), (2, .int (b ||| 1)), (1, .int (a ||| 0)), (4, .long (dotN σ c i.toNatClampNeg)), (0, .ref (ad G c))] 4 (i + 1) dX2_boundIfOneSided_59 rfl rfl (by decide) rfl ?_
                refine h_goto C 6 dX2_boundIfOneSided_62 (by decide) ?_
                refine h_sub [4, 2, 1, 0] rfl ?_
                refine ih ((i + 1), (a ||| 0), (b ||| 1)) ?_ ?_
                · have ha := flag_step hI.1 (Int32.not_le.mp c_11) hI.2.2.1 hI.2.2.2.2.1 (Or.inr ⟨rfl, lg_le0.mp c_34⟩)
                  have hb := flag_step hI.1 (Int32.not_le.mp c_11) hI.2.2.2.1 hI.2.2.2.2.2 (Or.inl ⟨rfl, Decidable.not_not.mp (fun q => c_49 (lg_ge0.mpr q))⟩)
                  exact ⟨(le_succ hI.1 (Int32.not_le.mp c_11)).1, (le_succ hI.1 (Int32.not_le.mp c_11)).2, ha.1, hb.1, ha.2, hb.2⟩
                · exact tm_lt (Int32.not_le.mp c_11)
            · refine h_iconst C 1 dX2_boundIfOneSided_37 (by decide) ?_
              refine h_goto C 42 dX2_boundIfOneSided_38 (by decide) ?_
              refine h_ior C dX2_boundIfOneSided_42 ?_
              refine h_istore_n C [(1, .int (a ||| 1)), (4, .long (dotN σ c i.toNatClampNeg)), (0, .ref (ad G c)), (2, .int b), (3, .int i)] dX2_boundIfOneSided_43 rfl (by decide) rfl ?_
              refine h_iload_n C 3 dX2_boundIfOneSided_44 rfl rfl ?_
              refine h_lload C 1 dX2_boundIfOneSided_45 rfl ?_
              refine h_lconst C 0 dX2_boundIfOneSided_47 rfl ?_
              refine h_lcmp C dX2_boundIfOneSided_48 ?_
              refine h_if_ge C 56 dX2_boundIfOneSided_49 (by decide) (fun c_49 => ?_) (fun c_49 => ?_)
              · refine h_iconst C 0 dX2_boundIfOneSided_56 (by decide) ?_
                refine h_ior C dX2_boundIfOneSided_57 ?_
                refine h_istore_n C [(2, .int (b ||| 0)), (1, .int (a ||| 1)), (4, .long (dotN σ c i.toNatClampNeg)), (0, .ref (ad G c)), (3, .int i)] dX2_boundIfOneSided_58 rfl (by decide) rfl ?_
                refine h_iinc C [(3, .int (i + 1)), (2, .int (b ||| 0)), (1, .int (a ||| 1)), (4, .long (dotN σ c i.toNatClampNeg)), (0, .ref (ad G c))] 4 (i + 1) dX2_boundIfOneSided_59 rfl rfl (by decide) rfl ?_
                refine h_goto C 6 dX2_boundIfOneSided_62 (by decide) ?_
                refine h_sub [4, 2, 1, 0] rfl ?_
                refine ih ((i + 1), (a ||| 1), (b ||| 0)) ?_ ?_
                · have ha := flag_step hI.1 (Int32.not_le.mp c_11) hI.2.2.1 hI.2.2.2.2.1 (Or.inl ⟨rfl, Decidable.not_not.mp (fun q => c_34 (lg_le0.mpr q))⟩)
                  have hb := flag_step hI.1 (Int32.not_le.mp c_11) hI.2.2.2.1 hI.2.2.2.2.2 (Or.inr ⟨rfl, lg_ge0.mp c_49⟩)
                  exact ⟨(le_succ hI.1 (Int32.not_le.mp c_11)).1, (le_succ hI.1 (Int32.not_le.mp c_11)).2, ha.1, hb.1, ha.2, hb.2⟩
                · exact tm_lt (Int32.not_le.mp c_11)
              · refine h_iconst C 1 dX2_boundIfOneSided_52 (by decide) ?_
                refine h_goto C 57 dX2_boundIfOneSided_53 (by decide) ?_
                refine h_ior C dX2_boundIfOneSided_57 ?_
                refine h_istore_n C [(2, .int (b ||| 1)), (1, .int (a ||| 1)), (4, .long (dotN σ c i.toNatClampNeg)), (0, .ref (ad G c)), (3, .int i)] dX2_boundIfOneSided_58 rfl (by decide) rfl ?_
                refine h_iinc C [(3, .int (i + 1)), (2, .int (b ||| 1)), (1, .int (a ||| 1)), (4, .long (dotN σ c i.toNatClampNeg)), (0, .ref (ad G c))] 4 (i + 1) dX2_boundIfOneSided_59 rfl rfl (by decide) rfl ?_
                refine h_goto C 6 dX2_boundIfOneSided_62 (by decide) ?_
                refine h_sub [4, 2, 1, 0] rfl ?_
                refine ih ((i + 1), (a ||| 1), (b ||| 1)) ?_ ?_
                · have ha := flag_step hI.1 (Int32.not_le.mp c_11) hI.2.2.1 hI.2.2.2.2.1 (Or.inl ⟨rfl, Decidable.not_not.mp (fun q => c_34 (lg_le0.mpr q))⟩)
                  have hb := flag_step hI.1 (Int32.not_le.mp c_11) hI.2.2.2.1 hI.2.2.2.2.2 (Or.inl ⟨rfl, Decidable.not_not.mp (fun q => c_49 (lg_ge0.mpr q))⟩)
                  exact ⟨(le_succ hI.1 (Int32.not_le.mp c_11)).1, (le_succ hI.1 (Int32.not_le.mp c_11)).2, ha.1, hb.1, ha.2, hb.2⟩
                · exact tm_lt (Int32.not_le.mp c_11)
    · exact ⟨by decide, hs0, Or.inl rfl, Or.inl rfl, ⟨fun q => absurd q (by decide), fun ⟨x, hx, _⟩ => absurd hx (by rw [tn_0]; omega)⟩, ⟨fun q => absurd q (by decide), fun ⟨x, hx, _⟩ => absurd hx (by rw [tn_0]; omega)⟩⟩
