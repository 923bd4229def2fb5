/-! ===== the reference: ranks, hidden motion, form ===== -/
def R1 (ρ : Nat → Int64) (n : Int32) : Prop := ∃ i, (0 ≤ i ∧ i < n) ∧ ¬ nzR ρ i
def R2 (ρ : Nat → Int64) (n : Int32) : Prop := ∃ i j, (0 ≤ j ∧ j < i ∧ i < n) ∧ crR ρ i j ≠ zer
def R3 (ρ : Nat → Int64) (n : Int32) : Prop := ∃ i j k, (0 ≤ k ∧ k < j ∧ j < i ∧ i < n) ∧ dtR (crR ρ i j) ρ k ≠ 0
def R2j (ρ : Nat → Int64) (i j : Int32) : Prop := R2 ρ i ∨ ∃ x, (0 ≤ x ∧ x < j) ∧ crR ρ i x ≠ zer
def R3j (ρ : Nat → Int64) (i j : Int32) : Prop := R3 ρ i ∨ ∃ x k, (0 ≤ k ∧ k < x ∧ x < j) ∧ dtR (crR ρ i x) ρ k ≠ 0
def rkV (r : Int32) (A B : Prop) : Prop := (r = 2 ∧ A) ∨ (r = 1 ∧ ¬ A ∧ B) ∨ (r = 0 ∧ ¬ A ∧ ¬ B)
def rkI (ρ : Nat → Int64) (i r : Int32) : Prop := ¬ R3 ρ i ∧ rkV r (R2 ρ i) (R1 ρ i)
def rkJ (ρ : Nat → Int64) (i j r : Int32) : Prop := ¬ R3j ρ i j ∧ rkV r (R2j ρ i j) (R1 ρ (i + 1))
def rkQ (ρ : Nat → Int64) (n r : Int32) : Prop := (r = 3 ∧ R3 ρ n) ∨ rkI ρ n r
theorem rkV_c {r : Int32} {A B A' B' : Prop} (h : rkV r A B) (ha : A ↔ A') (hb : B ↔ B') : rkV r A' B' := by unfold rkV at *; rw [← ha, ← hb]; exact h
theorem R1_s {ρ : Nat → Int64} {i n : Int32} (h0 : 0 ≤ i) (h : i < n) : R1 ρ (i + 1) ↔ (R1 ρ i ∨ ¬ nzR ρ i) := by
  constructor
  · rintro ⟨x, hx, hz⟩
    by_cases e : x = i
    · subst e; exact Or.inr hz
    · exact Or.inl ⟨x, by grind, hz⟩
  · rintro (⟨x, hx, hz⟩ | hz)
    · exact ⟨x, by grind, hz⟩
    · exact ⟨i, by grind, hz⟩
theorem R2_s {ρ : Nat → Int64} {i n : Int32} (h : i < n) : R2 ρ (i + 1) ↔ R2j ρ i i := by
  constructor
  · rintro ⟨x, j, hx, hz⟩
    by_cases e : x = i
    · subst e; exact Or.inr ⟨j, by grind, hz⟩
    · exact Or.inl ⟨x, j, by grind, hz⟩
  · rintro (⟨x, j, hx, hz⟩ | ⟨j, hj, hz⟩)
    · exact ⟨x, j, by grind, hz⟩
    · exact ⟨i, j, by grind, hz⟩
theorem R3_s {ρ : Nat → Int64} {i n : Int32} (h : i < n) : R3 ρ (i + 1) ↔ R3j ρ i i := by
  constructor
  · rintro ⟨x, j, k, hx, hz⟩
    by_cases e : x = i
    · subst e; exact Or.inr ⟨j, k, by grind, hz⟩
    · exact Or.inl ⟨x, j, k, by grind, hz⟩
  · rintro (⟨x, j, k, hx, hz⟩ | ⟨j, k, hj, hz⟩)
    · exact ⟨x, j, k, by grind, hz⟩
    · exact ⟨i, j, k, by grind, hz⟩
theorem R2j_0 {ρ : Nat → Int64} {i : Int32} : R2j ρ i 0 ↔ R2 ρ i := ⟨fun h => h.elim id (fun ⟨x, hx, _⟩ => by grind), Or.inl⟩
theorem R3j_0 {ρ : Nat → Int64} {i : Int32} : R3j ρ i 0 ↔ R3 ρ i := ⟨fun h => h.elim id (fun ⟨x, k, hx, _⟩ => by grind), Or.inl⟩
theorem R2j_s {ρ : Nat → Int64} {i j n : Int32} (h0 : 0 ≤ j) (h : j < n) : R2j ρ i (j + 1) ↔ (R2j ρ i j ∨ crR ρ i j ≠ zer) := by
  constructor
  · rintro (h | ⟨x, hx, hz⟩)
    · exact Or.inl (Or.inl h)
    · by_cases e : x = j
      · subst e; exact Or.inr hz
      · exact Or.inl (Or.inr ⟨x, by grind, hz⟩)
  · rintro ((h | ⟨x, hx, hz⟩) | hz)
    · exact Or.inl h
    · exact Or.inr ⟨x, by grind, hz⟩
    · exact Or.inr ⟨j, by grind, hz⟩
theorem R3j_s {ρ : Nat → Int64} {i j n : Int32} (h : j < n) : R3j ρ i (j + 1) ↔ (R3j ρ i j ∨ ¬ AL j (fun k => dtR (crR ρ i j) ρ k = 0)) := by
  constructor
  · rintro (h | ⟨x, k, hx, hz⟩)
    · exact Or.inl (Or.inl h)
    · by_cases e : x = j
      · subst e; exact Or.inr (fun q => hz (q k hx.1 hx.2.1))
      · exact Or.inl (Or.inr ⟨x, k, by grind, hz⟩)
  · rintro ((h | ⟨x, k, hx, hz⟩) | hz)
    · exact Or.inl h
    · exact Or.inr ⟨x, k, by grind, hz⟩
    · refine Classical.byContradiction (fun q => hz (fun k h0 h1 => Classical.byContradiction (fun q2 => q (Or.inr ⟨j, k, ?_, q2⟩))))
      grind
theorem dtR_z {ρ : Nat → Int64} {k : Int32} : dtR zer ρ k = 0 := by
  unfold dtR zer
  grind
theorem rkI_0 {ρ : Nat → Int64} : rkI ρ 0 0 := ⟨fun ⟨i, j, k, h, _⟩ => by grind, Or.inr (Or.inr ⟨rfl, fun ⟨i, j, h, _⟩ => by grind, fun ⟨i, h, _⟩ => by grind⟩)⟩
theorem rkJ_a {ρ : Nat → Int64} {i n r : Int32} (h : rkI ρ i r) (h0 : 0 ≤ i) (hn : i < n) (hr : ¬ r = 0) : rkJ ρ i 0 r := by
  refine ⟨fun q => h.1 (R3j_0.mp q), ?_⟩
  unfold rkV
  rw [R2j_0, R1_s h0 hn]
  rcases h.2 with ⟨e, a⟩ | ⟨e, a, b⟩ | ⟨e, -⟩
  · exact Or.inl ⟨e, a⟩
  · exact Or.inr (Or.inl ⟨e, a, Or.inl b⟩)
  · exact absurd e hr
theorem rkJ_b {ρ : Nat → Int64} {i n r : Int32} (h : rkI ρ i r) (h0 : 0 ≤ i) (hn : i < n) (hz : nzR ρ i) : rkJ ρ i 0 r := by
  refine ⟨fun q => h.1 (R3j_0.mp q), rkV_c h.2 R2j_0.symm ((R1_s h0 hn).trans ?_).symm⟩
  exact ⟨fun q => q.resolve_right (fun z => z hz), Or.inl⟩
theorem rkJ_c {ρ : Nat → Int64} {i n r : Int32} (h : rkI ρ i r) (h0 : 0 ≤ i) (hn : i < n) (hr : r = 0) (hz : ¬ nzR ρ i) : rkJ ρ i 0 1 := by
  refine ⟨fun q => h.1 (R3j_0.mp q), ?_⟩
  unfold rkV
  rw [R2j_0, R1_s h0 hn]
  rcases h.2 with ⟨e, a⟩ | ⟨e, a, b⟩ | ⟨e, a, -⟩
  · rw [e] at hr; exact absurd hr (by decide)
  · rw [e] at hr; exact absurd hr (by decide)
  · exact Or.inr (Or.inl ⟨rfl, a, Or.inr hz⟩)
theorem rkJ_d {ρ : Nat → Int64} {i j n r : Int32} (h : rkJ ρ i j r) (h0 : 0 ≤ j) (hn : j < n) (hz : crR ρ i j = zer) : rkJ ρ i (j + 1) r := by
  refine ⟨fun q => ?_, rkV_c h.2 ⟨fun q => (R2j_s h0 hn).mpr (Or.inl q), fun q => ((R2j_s h0 hn).mp q).resolve_right (fun z => z hz)⟩ Iff.rfl⟩
  rcases (R3j_s hn).mp q with q | q
  · exact h.1 q
  · exact q (fun k _ _ => by rw [hz]; exact dtR_z)
theorem rkJ_e {ρ : Nat → Int64} {i j n r : Int32} (h : rkJ ρ i j r) (h0 : 0 ≤ j) (hn : j < n) (hz : crR ρ i j ≠ zer) (ha : AL j (fun k => dtR (crR ρ i j) ρ k = 0)) : rkJ ρ i (j + 1) 2 := by
  refine ⟨fun q => ?_, Or.inl ⟨rfl, (R2j_s h0 hn).mpr (Or.inr hz)⟩⟩
  rcases (R3j_s hn).mp q with q | q
  · exact h.1 q
  · exact q ha
theorem rkJ_2 {ρ : Nat → Int64} {i j r : Int32} (h : rkJ ρ i j r) (hr : 2 ≤ r) : r = 2 := by
  rcases h.2 with ⟨e, -⟩ | ⟨e, -⟩ | ⟨e, -⟩
  · exact e
  · rw [e] at hr; exact absurd hr (by decide)
  · rw [e] at hr; exact absurd hr (by decide)
theorem rkJ_I {ρ : Nat → Int64} {i n r : Int32} (h : rkJ ρ i i r) (hn : i < n) : rkI ρ (i + 1) r := ⟨fun q => h.1 ((R3_s hn).mp q), rkV_c h.2 (R2_s hn).symm Iff.rfl⟩
theorem frX_44 {σ σ1 : ha_St} (h : frX 53 54 σ σ1) : gI σ1 44 9 = gI σ 44 9 := by rw [(h.2.2.2 44 (by omega)).1]
theorem frX_52 {σ σ1 : ha_St} (h : frX 53 54 σ σ1) : gL σ1 52 = gL σ 52 := (h.2.2.2 52 (by omega)).2
set_option maxRecDepth 100000 in
set_option maxHeartbeats 4000000 in
theorem m_X11_rankOf {G : ha_G} {l : Launch} {σ : ha_St} (hY : LY σ) (hm0 : 0 ≤ gI σ 44 9) (hm1 : gI σ 44 9 ≤ 30) : hM G l yX11_rankOf cX11_rankOf 5 (some .int) { frames := 1, cells := 0, slots := 0, locals := 23 } [.ref (ad G 44)] σ (fun v σ' => (∃ r, v = some (.int r) ∧ rkQ (gL σ 52) (gI σ 44 9) r) ∧ frX 53 54 σ σ') := by
  have hY0 := hY
  refine hM_ofF [(0, .ref (ad G 44))] (by decide +kernel) (Nat.le_of_ble_eq_true rfl) rfl ?_
  intro p e s m args below meth c0 C hin
  refine h_iconst C 0 dX11_rankOf_0 (by decide) ?_
  refine h_istore_n C [(1, .int 0), (0, .ref (ad G 44))] dX11_rankOf_1 rfl (by decide) rfl ?_
  refine h_iconst C 0 dX11_rankOf_2 (by decide) ?_
  refine h_istore_n C [(2, .int 0), (1, .int 0), (0, .ref (ad G 44))] dX11_rankOf_3 rfl (by decide) rfl ?_
  refine h_sub [2, 1, 0] rfl ?_
  refine h_loop (α := Int32 × Int32 × ha_St) (fun (r, i, σ1) => 0 ≤ i ∧ i ≤ gI σ 44 9 ∧ frX 53 54 σ σ1 ∧ rkI (gL σ 52) i r) (fun (r, i, σ1) => tm (gI σ 44 9) i) (fun (r, i, σ1) => [(0, .ref (ad G 44)), (1, .int r), (2, .int i)]) (fun (r, i, σ1) => []) (fun (r, i, σ1) => σ1) (fun (r, i, σ1) => 0) (fun (r, i, σ1) => 0) ?_ (0, 0, σ) ?_
  · rintro ⟨r, i, σ1⟩ hI1 ih1
    show hW _ _ _ _ _ _ _ _ _ _ _ _ _ 4 [(0, .ref (ad G 44)), (1, .int r), (2, .int i)] [] σ1 0 0
    have hY : LY σ1 := hI1.2.2.1.LY hY0
    have hz : gI σ1 44 9 = gI σ 44 9 := frX_44 hI1.2.2.1
    have h52 : gL σ1 52 = gL σ 52 := frX_52 hI1.2.2.1
    refine h_iload_n C 2 dX11_rankOf_4 rfl rfl ?_
    refine h_aload_n C 0 dX11_rankOf_5 rfl rfl ?_
    refine gfX11_38 C (ty_44 hY) dX11_rankOf_6 ?_
    refine h_icmp_ge C 100 dX11_rankOf_9 (by decide) (fun c_9 => ?_) (fun c_9 => ?_)
    · refine h_iload_n C 1 dX11_rankOf_100 rfl rfl ?_
      refine h_iret C rfl (Nat.zero_le _) (Nat.zero_le _) dX11_rankOf_101 ?_
      have he := eq_end hI1.2.1 (by rw [← hz]; exact Int32.not_lt.mpr c_9)
      have hq := hI1.2.2.2
      rw [he] at hq
      exact ⟨⟨_, rfl, Or.inr hq⟩, hI1.2.2.1⟩
    · have hil : i < gI σ 44 9 := by rw [← hz]; exact Int32.not_le.mp c_9
      have hib : 0 ≤ i ∧ i < 30 := ⟨hI1.1, Int32.lt_of_lt_of_le hil hm1⟩
      refine h_join (α := Int32) 29 (fun t => rkJ (gL σ 52) i 0 t) (fun t => [(0, .ref (ad G 44)), (2, .int i)]) (fun t => [.int t]) (fun t => σ1) (fun t => 0) (fun t => 0) ?_ (fun J_1 => ?_)
      · rintro t hJ1
        show hW _ _ _ _ _ _ _ _ _ _ _ _ _ 29 [(0, .ref (ad G 44)), (2, .int i)] [.int t] σ1 0 0
        refine h_istore_n C [(1, .int t), (0, .ref (ad G 44)), (2, .int i)] dX11_rankOf_29 rfl (by decide) rfl ?_
        refine h_iconst C 0 dX11_rankOf_30 (by decide) ?_
        refine h_istore_n C [(3, .int 0), (1, .int t), (0, .ref (ad G 44)), (2, .int i)] dX11_rankOf_31 rfl (by decide) rfl ?_
        refine h_sub [2, 1, 3, 0] rfl ?_
        refine h_loop (α := Int32 × Int32 × ha_St) (fun (t, j, σ2) => 0 ≤ j ∧ j ≤ i ∧ frX 53 54 σ σ2 ∧ rkJ (gL σ 52) i j t) (fun (t, j, σ2) => tm i j) (fun (t, j, σ2) => [(0, .ref (ad G 44)), (1, .int t), (2, .int i), (3, .int j)]) (fun (t, j, σ2) => []) (fun (t, j, σ2) => σ2) (fun (t, j, σ2) => 0) (fun (t, j, σ2) => 0) ?_ (t, 0, σ1) ?_
        · rintro ⟨t, j, σ2⟩ hI2 ih2
          show hW _ _ _ _ _ _ _ _ _ _ _ _ _ 32 [(0, .ref (ad G 44)), (1, .int t), (2, .int i), (3, .int j)] [] σ2 0 0
          have hY : LY σ2 := hI2.2.2.1.LY hY0
          have hz : gI σ2 44 9 = gI σ 44 9 := frX_44 hI2.2.2.1
          have h52 : gL σ2 52 = gL σ 52 := frX_52 hI2.2.2.1
          refine h_iload_n C 3 dX11_rankOf_32 rfl rfl ?_
          refine h_iload_n C 2 dX11_rankOf_33 rfl rfl ?_
          refine h_icmp_ge C 94 dX11_rankOf_34 (by decide) (fun c_34 => ?_) (fun c_34 => ?_)
          · refine h_iinc C [(2, .int (i + 1)), (0, .ref (ad G 44)), (1, .int t), (3, .int j)] 2 (i + 1) dX11_rankOf_94 rfl rfl (by decide) rfl ?_
            refine h_goto C 4 dX11_rankOf_97 (by decide) ?_
            refine h_sub [1, 2, 0] rfl ?_
            refine ih1 (t, (i + 1), σ2) ?_ ?_
            · have hje := eq_end hI2.2.1 (Int32.not_lt.mpr c_34)
              have hq := hI2.2.2.2
              rw [hje] at hq
              exact ⟨(le_succ hI1.1 hil).1, (le_succ hI1.1 hil).2, hI2.2.2.1, rkJ_I hq hil⟩
            · exact tm_lt hil
          · have hjl := Int32.not_le.mp c_34
            have hjb : 0 ≤ j ∧ j < 30 := ⟨hI2.1, by grind⟩
            refine h_aload_n C 0 dX11_rankOf_37 rfl rfl ?_
            refine h_iload_n C 2 dX11_rankOf_38 rfl rfl ?_
            refine h_iload_n C 3 dX11_rankOf_39 rfl rfl ?_
            refine h_callV C (m_X11_across hY hib hjb) caX11_176 kX11 (ty_44 hY) ⟨by decide, by decide, by decide, by decide⟩ rfl rfl (Nat.le_of_ble_eq_true rfl) dX11_rankOf_40 ?_
            rintro v σ3 ⟨⟨ra, rfl, ha⟩, h2⟩
            rw [h52] at ha
            have hx3 : frX 53 54 σ σ3 := by rw [h2]; exact hI2.2.2.1.tr acrF_x
            have hc3 : cr3 σ3 = crR (gL σ 52) i j := by rw [h2, acrF_c, h52]
            clear h2
            have hY : LY σ3 := hx3.LY hY0
            have hz : gI σ3 44 9 = gI σ 44 9 := frX_44 hx3
            have h52 : gL σ3 52 = gL σ 52 := frX_52 hx3
            show hW _ _ _ _ _ _ _ _ _ _ _ _ _ 43 [(0, .ref (ad G 44)), (1, .int t), (2, .int i), (3, .int j)] [.int ra] σ3 0 0
            refine h_if_ne C 49 dX11_rankOf_43 (by decide) (fun c_43 => ?_) (fun c_43 => ?_)
            · refine h_join (α := Int32) 59 (fun u => u = 2) (fun u => [(0, .ref (ad G 44)), (2, .int i), (3, .int j)]) (fun u => [.int u]) (fun u => σ3) (fun u => 0) (fun u => 0) ?_ (fun J_2 => ?_)
              · rintro u hJ2
                show hW _ _ _ _ _ _ _ _ _ _ _ _ _ 59 [(0, .ref (ad G 44)), (2, .int i), (3, .int j)] [.int u] σ3 0 0
                subst hJ2
                refine h_istore_n C [(1, .int 2), (0, .ref (ad G 44)), (2, .int i), (3, .int j)] dX11_rankOf_59 rfl (by decide) rfl ?_
                refine h_iconst C 0 dX11_rankOf_60 (by decide) ?_
                refine h_istore C [(4, .int 0), (1, .int 2), (0, .ref (ad G 44)), (2, .int i), (3, .int j)] dX11_rankOf_61 (by decide) rfl ?_
                refine h_sub [2, 1, 3, 4, 0] rfl ?_
                refine h_loop (α := Int32) (fun k => 0 ≤ k ∧ k ≤ j ∧ AL k (fun x => dtR (crR (gL σ 52) i j) (gL σ 52) x = 0)) (fun k => tm j k) (fun k => [(0, .ref (ad G 44)), (1, .int 2), (2, .int i), (3, .int j), (4, .int k)]) (fun k => []) (fun k => σ3) (fun k => 0) (fun k => 0) ?_ 0 ?_
                · rintro k hI3 ih3
                  show hW _ _ _ _ _ _ _ _ _ _ _ _ _ 63 [(0, .ref (ad G 44)), (1, .int 2), (2, .int i), (3, .int j), (4, .int k)] [] σ3 0 0
                  refine h_iload C 4 dX11_rankOf_63 rfl ?_
                  refine h_iload_n C 3 dX11_rankOf_65 rfl rfl ?_
                  refine h_icmp_ge C 88 dX11_rankOf_66 (by decide) (fun c_66 => ?_) (fun c_66 => ?_)
                  · refine h_iinc C [(3, .int (j + 1)), (0, .ref (ad G 44)), (1, .int 2), (2, .int i), (4, .int k)] 3 (j + 1) dX11_rankOf_88 rfl rfl (by decide) rfl ?_
                    refine h_goto C 32 dX11_rankOf_91 (by decide) ?_
                    refine h_sub [1, 2, 3, 0] rfl ?_
                    refine ih2 (2, (j + 1), σ3) ?_ ?_
                    · have he := eq_end hI3.2.1 (Int32.not_lt.mpr c_66)
                      have hq := hI3.2.2
                      rw [he] at hq
                      exact ⟨(le_succ hI2.1 hjl).1, (le_succ hI2.1 hjl).2, hx3, rkJ_e hI2.2.2.2 hI2.1 hjl (isB_1 ha c_43) hq⟩
                    · exact tm_lt hjl
                  · have hkl := Int32.not_le.mp c_66
                    have hkb : 0 ≤ k ∧ k < 30 := ⟨hI3.1, by grind⟩
                    refine h_aload_n C 0 dX11_rankOf_69 rfl rfl ?_
                    refine h_iload C 4 dX11_rankOf_70 rfl ?_
                    refine h_callV C (m_X11_against hY hkb) caX11_179 kX11 (ty_44 hY) ⟨by decide, by decide, by decide, by decide⟩ rfl rfl (Nat.le_of_ble_eq_true rfl) dX11_rankOf_72 ?_
                    rintro v σ' ⟨rfl, h2⟩; rw [h2]; clear h2; rw [hc3, h52]
                    show hW _ _ _ _ _ _ _ _ _ _ _ _ _ 75 [(0, .ref (ad G 44)), (1, .int 2), (2, .int i), (3, .int j), (4, .int k)] [.long (dtR (crR (gL σ 52) i j) (gL σ 52) k)] σ3 0 0
                    refine h_lconst C 0 dX11_rankOf_75 rfl ?_
                    refine h_lcmp C dX11_rankOf_76 ?_
                    refine h_if_eq C 82 dX11_rankOf_77 (by decide) (fun c_77 => ?_) (fun c_77 => ?_)
                    · refine h_iinc C [(4, .int (k + 1)), (0, .ref (ad G 44)), (1, .int 2), (2, .int i), (3, .int j)] 4 (k + 1) dX11_rankOf_82 rfl rfl (by decide) rfl ?_
                      refine h_goto C 63 dX11_rankOf_85 (by decide) ?_
                      refine h_sub [1, 2, 3, 4, 0] rfl ?_
                      refine ih3 (k + 1) ?_ ?_
                      · exact ⟨(le_succ hI3.1 hkl).1, (le_succ hI3.1 hkl).2, (AL_i hI3.1 hkl).mpr ⟨hI3.2.2, lg_0 c_77⟩⟩
                      · exact tm_lt hkl
                    · refine h_iconst C 3 dX11_rankOf_80 (by decide) ?_
                      refine h_iret C rfl (Nat.zero_le _) (Nat.zero_le _) dX11_rankOf_81 ?_
                      exact ⟨⟨_, rfl, Or.inl ⟨rfl, i, j, k, ⟨hI3.1, hkl, hjl, hil⟩, lg_n c_77⟩⟩, hx3⟩
                · exact ⟨by decide, hI2.1, AL_0⟩
              · refine h_iload_n C 1 dX11_rankOf_49 rfl rfl ?_
                refine h_iconst C 2 dX11_rankOf_50 (by decide) ?_
                refine h_icmp_ge C 58 dX11_rankOf_51 (by decide) (fun c_51 => ?_) (fun c_51 => ?_)
                · refine h_iload_n C 1 dX11_rankOf_58 rfl rfl ?_
                  refine h_sub [0, 2, 3] rfl ?_
                  refine J_2 t ?_
                  exact rkJ_2 hI2.2.2.2 c_51
                · refine h_iconst C 2 dX11_rankOf_54 (by decide) ?_
                  refine h_goto C 59 dX11_rankOf_55 (by decide) ?_
                  refine h_sub [0, 2, 3] rfl ?_
                  refine J_2 2 ?_
                  rfl
            · refine h_goto C 88 dX11_rankOf_46 (by decide) ?_
              refine h_iinc C [(3, .int (j + 1)), (0, .ref (ad G 44)), (1, .int t), (2, .int i)] 3 (j + 1) dX11_rankOf_88 rfl rfl (by decide) rfl ?_
              refine h_goto C 32 dX11_rankOf_91 (by decide) ?_
              refine h_sub [1, 2, 3, 0] rfl ?_
              refine ih2 (t, (j + 1), σ3) ?_ ?_
              · exact ⟨(le_succ hI2.1 hjl).1, (le_succ hI2.1 hjl).2, hx3, rkJ_d hI2.2.2.2 hI2.1 hjl (Classical.byContradiction (isB_0 ha c_43))⟩
              · exact tm_lt hjl
        · exact ⟨by decide, hI1.1, hI1.2.2.1, hJ1⟩
      · refine h_iload_n C 1 dX11_rankOf_12 rfl rfl ?_
        refine h_if_ne C 28 dX11_rankOf_13 (by decide) (fun c_13 => ?_) (fun c_13 => ?_)
        · refine h_iload_n C 1 dX11_rankOf_28 rfl rfl ?_
          refine h_sub [0, 2] rfl ?_
          refine J_1 r ?_
          exact rkJ_a hI1.2.2.2 hI1.1 hil c_13
        · refine h_aload_n C 0 dX11_rankOf_16 rfl rfl ?_
          refine h_iload_n C 2 dX11_rankOf_17 rfl rfl ?_
          refine h_callV C (m_X11_isNought hY hib) caX11_173 kX11 (ty_44 hY) ⟨by decide, by decide, by decide, by decide⟩ rfl rfl (Nat.le_of_ble_eq_true rfl) dX11_rankOf_18 ?_
          rintro v σ' ⟨⟨rn, rfl, hn⟩, h2⟩; rw [h2]; clear h2; rw [h52] at hn
          show hW _ _ _ _ _ _ _ _ _ _ _ _ _ 21 [(0, .ref (ad G 44)), (1, .int r), (2, .int i)] [.int rn] σ1 0 0
          refine h_if_ne C 28 dX11_rankOf_21 (by decide) (fun c_21 => ?_) (fun c_21 => ?_)
          · refine h_iload_n C 1 dX11_rankOf_28 rfl rfl ?_
            refine h_sub [0, 2] rfl ?_
            refine J_1 r ?_
            exact rkJ_b hI1.2.2.2 hI1.1 hil (isB_1 hn c_21)
          · refine h_iconst C 1 dX11_rankOf_24 (by decide) ?_
            refine h_goto C 29 dX11_rankOf_25 (by decide) ?_
            refine h_sub [0, 2] rfl ?_
            refine J_1 1 ?_
            exact rkJ_c hI1.2.2.2 hI1.1 hil c_13 (isB_0 hn c_21)
  · exact ⟨by decide, hm0, frX.rf, rkI_0⟩
def adP (σ : ha_St) (but cl : Int32) (c : Nat) : Prop := Int32.ofNat c ≠ but ∧ (cl ≠ 0 ∨ gI σ 45 c ≠ 2)
noncomputable def adL (σ : ha_St) (P : Nat → Prop) : Nat → List (Int64 × Int64 × Int64)
  | 0 => []
  | n + 1 => adL σ P n ++ (@ite _ (P n) (Classical.propDecidable _) [(dirV σ n 0, dirV σ n 1, dirV σ n 2)] [])
/-- the rows are those of a list -/
def mR (σ : ha_St) (L : List (Int64 × Int64 × Int64)) : Prop := L.length ≤ 30 ∧ gI σ 44 9 = Int32.ofNat L.length ∧ ∀ k, k < L.length → (gL σ 52 (3 * k), gL σ 52 (3 * k + 1), gL σ 52 (3 * k + 2)) = L.getD k zer
theorem t30n : ∀ k, k < 30 → (3 * Int32.ofNat k).toNatClampNeg = 3 * k ∧ (3 * Int32.ofNat k + 1).toNatClampNeg = 3 * k + 1 ∧ (3 * Int32.ofNat k + 2).toNatClampNeg = 3 * k + 2 := by decide
theorem i32s : ∀ k, k < 31 → Int32.ofNat k + 1 = Int32.ofNat (k + 1) ∧ 0 ≤ Int32.ofNat k ∧ (Int32.ofNat k).toNatClampNeg = k := by decide
theorem i32l : ∀ k, k < 30 → Int32.ofNat k < 30 := by decide
theorem mR_0 {σ : ha_St} : mR (sI σ 44 9 0) [] := ⟨Nat.zero_le _, by rw [gI_sI, if_pos ⟨rfl, rfl⟩]; rfl, fun k hk => absurd hk (Nat.not_lt_zero _)⟩
theorem mR_add {σ : ha_St} {L : List (Int64 × Int64 × Int64)} {x y z : Int64} (h : mR σ L) (hl : L.length < 30) : mR (mAdd σ x y z) (L ++ [(x, y, z)]) := by
  obtain ⟨h1, h2, h3⟩ := h
  have e := t30n _ hl
  refine ⟨by rw [List.length_append]; exact hl, ?_, fun k hk => ?_⟩
  · unfold mAdd
    rw [gI_sI, if_pos ⟨rfl, rfl⟩, h2, List.length_append]
    exact (i32s _ (by omega)).1
  · rw [List.length_append, List.length_singleton] at hk
    unfold mAdd
    simp only [gL_sI, gL_sL, h2, e.1, e.2.1, e.2.2, true_and]
    by_cases hke : k = L.length
    · subst hke
      rw [if_neg (by omega), if_neg (by omega), if_pos (by omega), if_neg (by omega), if_pos (by omega), if_pos (by omega), List.getD_eq_getElem?_getD, List.getElem?_append_right (Nat.le_refl _)]
      simp
    · have hk2 : k < L.length := by omega
      rw [if_neg (by omega), if_neg (by omega), if_neg (by omega), if_neg (by omega), if_neg (by omega), if_neg (by omega), if_neg (by omega), if_neg (by omega), if_neg (by omega), h3 k hk2, List.getD_eq_getElem?_getD, List.getD_eq_getElem?_getD, List.getElem?_append_left hk2]
theorem mR.b {σ : ha_St} {L : List (Int64 × Int64 × Int64)} (h : mR σ L) : 0 ≤ gI σ 44 9 ∧ gI σ 44 9 ≤ 30 := by
  rw [h.2.1]
  have : ∀ k, k ≤ 30 → 0 ≤ Int32.ofNat k ∧ Int32.ofNat k ≤ 30 := by decide
  exact this _ h.1
theorem mR.b' {σ : ha_St} {L : List (Int64 × Int64 × Int64)} (h : mR σ L) (hl : L.length < 30) : gI σ 44 9 < 30 := by rw [h.2.1]; exact i32l _ hl
theorem adL_le {σ : ha_St} {P : Nat → Prop} : ∀ n, (adL σ P n).length ≤ n
  | 0 => Nat.le_refl _
  | n + 1 => by
    have := adL_le (σ := σ) (P := P) n
    unfold adL
    rw [List.length_append]
    split <;> simp <;> omega
theorem adL_y {σ : ha_St} {P : Nat → Prop} {n : Nat} (h : P n) : adL σ P (n + 1) = adL σ P n ++ [(dirV σ n 0, dirV σ n 1, dirV σ n 2)] := by
  show _ ++ (@ite _ (P n) (Classical.propDecidable _) _ _) = _
  rw [if_pos h]
theorem adL_n {σ : ha_St} {P : Nat → Prop} {n : Nat} (h : ¬ P n) : adL σ P (n + 1) = adL σ P n := by
  show _ ++ (@ite _ (P n) (Classical.propDecidable _) _ _) = _
  rw [if_neg h, List.append_nil]
/-- the contacts of the reference are seen alike -/
theorem frJ_dir {σ σ' : ha_St} (h : frJ σ σ') {c : Nat} {k : Int32} : dirV σ' c k = dirV σ c k := by
  unfold dirV
  rw [h.2.2.2.1 46 c (by unfold scJ; omega), h.2.2.2.1 47 c (by unfold scJ; omega), h.2.2.2.1 48 c (by unfold scJ; omega)]
theorem frJ_n {σ σ' : ha_St} (h : frJ σ σ') : gI σ' 44 1 = gI σ 44 1 := h.2.2.2.1 44 1 (by unfold scJ; omega)
theorem frJ_MN {σ σ' : ha_St} (h : frJ σ σ') (hN : MN σ) : MN σ' := by unfold MN at *; rw [frJ_n h]; exact hN
theorem frJ_k {σ σ' : ha_St} (h : frJ σ σ') {c : Nat} : gI σ' 45 c = gI σ 45 c := h.2.2.2.1 45 c (by unfold scJ; omega)
theorem frX_J {σ σ' : ha_St} (h : frX 53 54 σ σ') : frJ σ σ' := ⟨h.1, h.2.1, h.2.2.1, fun a j hj => by rw [(h.2.2.2 a (by unfold scJ at hj; omega)).1], fun a ha => (h.2.2.2 a (by omega)).2⟩
theorem frX_mR {σ σ' : ha_St} (h : frX 53 54 σ σ') {L : List (Int64 × Int64 × Int64)} (g : mR σ L) : mR σ' L := by unfold mR at *; rw [frX_44 h, frX_52 h]; exact g
set_option maxRecDepth 100000 in
set_option maxHeartbeats 4000000 in
theorem m_X11_addDirections {G : ha_G} {l : Launch} {σ : ha_St} {but cl : Int32} (hY : LY σ) (hN : MN σ) : hM G l yX11_addDirections cX11_addDirections 4 none { frames := 2, cells := 0, slots := 0, locals := 49 } [.ref (ad G 44), .int but, .int cl] σ (fun v σ' => v = none ∧ frJ σ σ' ∧ mR σ' (adL σ (adP σ but cl) (gI σ 44 1).toNatClampNeg)) := by
  have hY0 := hY
  have hN0 := hN
  refine hM_ofF [(0, .ref (ad G 44)), (1, .int but), (2, .int cl)] (by decide +kernel) (Nat.le_of_ble_eq_true rfl) rfl ?_
  intro p e s m args below meth c0 C hin
  refine h_aload_n C 0 dX11_addDirections_0 rfl rfl ?_
  refine h_iconst C 0 dX11_addDirections_1 (by decide) ?_
  refine pfX11_38 C (ty_44 hY) dX11_addDirections_2 ?_
  refine h_iconst C 0 dX11_addDirections_5 (by decide) ?_
  refine h_istore_n C [(3, .int 0), (0, .ref (ad G 44)), (1, .int but), (2, .int cl)] dX11_addDirections_6 rfl (by decide) rfl ?_
  refine h_sub [1, 2, 3, 0] rfl ?_
  refine h_loop (α := Int32 × ha_St) (fun (c, σ1) => 0 ≤ c ∧ c ≤ gI σ 44 1 ∧ frJ σ σ1 ∧ mR σ1 (adL σ (adP σ but cl) c.toNatClampNeg)) (fun (c, σ1) => tm (gI σ 44 1) c) (fun (c, σ1) => [(0, .ref (ad G 44)), (1, .int but), (2, .int cl), (3, .int c)]) (fun (c, σ1) => []) (fun (c, σ1) => σ1) (fun (c, σ1) => 0) (fun (c, σ1) => 0) ?_ (0, (sI σ 44 9 0)) ?_
  · rintro ⟨c, σ1⟩ hI ih
    show hW _ _ _ _ _ _ _ _ _ _ _ _ _ 7 [(0, .ref (ad G 44)), (1, .int but), (2, .int cl), (3, .int c)] [] σ1 0 0
    have hY : LY σ1 := hI.2.2.1.LY hY0
    have hz := frJ_n hI.2.2.1
    refine h_iload_n C 3 dX11_addDirections_7 rfl rfl ?_
    refine h_aload_n C 0 dX11_addDirections_8 rfl rfl ?_
    refine gfX11_13 C (ty_44 hY) dX11_addDirections_9 ?_
    refine h_icmp_ge C 62 dX11_addDirections_12 (by decide) (fun c_12 => ?_) (fun c_12 => ?_)
    · refine h_vret C rfl (Nat.zero_le _) (Nat.zero_le _) dX11_addDirections_62 ?_
      have he := eq_end hI.2.1 (by rw [← hz]; exact Int32.not_lt.mpr c_12)
      have hq := hI.2.2.2
      rw [he] at hq
      exact ⟨rfl, hI.2.2.1, hq⟩
    · have hcl : c < gI σ 44 1 := by rw [← hz]; exact Int32.not_le.mp c_12
      have hlen : (adL σ (adP σ but cl) c.toNatClampNeg).length < 30 := by
        have h1 := adL_le (σ := σ) (P := adP σ but cl) c.toNatClampNeg
        have h2 := tn_lt (N := 10) hI.1 (Int32.lt_of_lt_of_le hcl hN0.2)
        rw [show (10 : Int32).toNatClampNeg = 10 by decide] at h2
        omega
      refine h_iload_n C 3 dX11_addDirections_15 rfl rfl ?_
      refine h_iload_n C 1 dX11_addDirections_16 rfl rfl ?_
      refine h_icmp_eq C 56 dX11_addDirections_17 (by decide) (fun c_17 => ?_) (fun c_17 => ?_)
      · refine h_iinc C [(3, .int (c + 1)), (0, .ref (ad G 44)), (1, .int but), (2, .int cl)] 3 (c + 1) dX11_addDirections_56 rfl rfl (by decide) rfl ?_
        refine h_goto C 7 dX11_addDirections_59 (by decide) ?_
        refine h_sub [1, 2, 3, 0] rfl ?_
        refine ih ((c + 1), σ1) ?_ ?_
        · refine ⟨(le_succ hI.1 hcl).1, (le_succ hI.1 hcl).2, ?_, ?_⟩
          · exact hI.2.2.1
          · rw [tn_succ hI.1 hcl, adL_n (fun q => q.1 ((nI_tn hI.1).trans c_17))]
            exact hI.2.2.2
        · exact tm_lt hcl
      · refine h_iload_n C 2 dX11_addDirections_20 rfl rfl ?_
        refine h_if_ne C 34 dX11_addDirections_21 (by decide) (fun c_21 => ?_) (fun c_21 => ?_)
        · refine h_aload_n C 0 dX11_addDirections_34 rfl rfl ?_
          refine h_aload_n C 0 dX11_addDirections_35 rfl rfl ?_
          refine h_iload_n C 3 dX11_addDirections_36 rfl rfl ?_
          refine h_iconst C 0 dX11_addDirections_37 (by decide) ?_
          refine h_callV C (m_X11_direct hY (vp32 (N := 10) hI.1 (Int32.lt_of_lt_of_le hcl hN0.2) (by decide))) caX11_161 kX11 (ty_44 hY) ⟨by decide, by decide, by decide, by decide⟩ rfl rfl (Nat.le_of_ble_eq_true rfl) dX11_addDirections_38 ?_
          rintro v σ' ⟨rfl, h2⟩; rw [h2]; clear h2; rw [frJ_dir hI.2.2.1]
          show hW _ _ _ _ _ _ _ _ _ _ _ _ _ 41 [(0, .ref (ad G 44)), (1, .int but), (2, .int cl), (3, .int c)] [.long (dirV σ c.toNatClampNeg 0), .ref (ad G 44)] σ1 0 0
          refine h_aload_n C 0 dX11_addDirections_41 rfl rfl ?_
          refine h_iload_n C 3 dX11_addDirections_42 rfl rfl ?_
          refine h_iconst C 1 dX11_addDirections_43 (by decide) ?_
          refine h_callV C (m_X11_direct hY (vp32 (N := 10) hI.1 (Int32.lt_of_lt_of_le hcl hN0.2) (by decide))) caX11_161 kX11 (ty_44 hY) ⟨by decide, by decide, by decide, by decide⟩ rfl rfl (Nat.le_of_ble_eq_true rfl) dX11_addDirections_44 ?_
          rintro v σ' ⟨rfl, h2⟩; rw [h2]; clear h2; rw [frJ_dir hI.2.2.1]
          show hW _ _ _ _ _ _ _ _ _ _ _ _ _ 47 [(0, .ref (ad G 44)), (1, .int but), (2, .int cl), (3, .int c)] [.long (dirV σ c.toNatClampNeg 1), .long (dirV σ c.toNatClampNeg 0), .ref (ad G 44)] σ1 0 0
          refine h_aload_n C 0 dX11_addDirections_47 rfl rfl ?_
          refine h_iload_n C 3 dX11_addDirections_48 rfl rfl ?_
          refine h_iconst C 2 dX11_addDirections_49 (by decide) ?_
          refine h_callV C (m_X11_direct hY (vp32 (N := 10) hI.1 (Int32.lt_of_lt_of_le hcl hN0.2) (by decide))) caX11_161 kX11 (ty_44 hY) ⟨by decide, by decide, by decide, by decide⟩ rfl rfl (Nat.le_of_ble_eq_true rfl) dX11_addDirections_50 ?_
          rintro v σ' ⟨rfl, h2⟩; rw [h2]; clear h2; rw [frJ_dir hI.2.2.1]
          show hW _ _ _ _ _ _ _ _ _ _ _ _ _ 53 [(0, .ref (ad G 44)), (1, .int but), (2, .int cl), (3, .int c)] [.long (dirV σ c.toNatClampNeg 2), .long (dirV σ c.toNatClampNeg 1), .long (dirV σ c.toNatClampNeg 0), .ref (ad G 44)] σ1 0 0
          refine h_callV C (m_X11_add hY hI.2.2.2.b.1 (hI.2.2.2.b' hlen)) caX11_169 kX11 (ty_44 hY) ⟨by decide, by decide, by decide, by decide⟩ rfl rfl (Nat.le_of_ble_eq_true rfl) dX11_addDirections_53 ?_
          rintro v σ' ⟨rfl, h2⟩; rw [h2]; clear h2
          show hW _ _ _ _ _ _ _ _ _ _ _ _ _ 56 [(0, .ref (ad G 44)), (1, .int but), (2, .int cl), (3, .int c)] [] (mAdd σ1 (dirV σ c.toNatClampNeg 0) (dirV σ c.toNatClampNeg 1) (dirV σ c.toNatClampNeg 2)) 0 0
          refine h_iinc C [(3, .int (c + 1)), (0, .ref (ad G 44)), (1, .int but), (2, .int cl)] 3 (c + 1) dX11_addDirections_56 rfl rfl (by decide) rfl ?_
          refine h_goto C 7 dX11_addDirections_59 (by decide) ?_
          refine h_sub [1, 2, 3, 0] rfl ?_
          refine ih ((c + 1), (mAdd σ1 (dirV σ c.toNatClampNeg 0) (dirV σ c.toNatClampNeg 1) (dirV σ c.toNatClampNeg 2))) ?_ ?_
          · refine ⟨(le_succ hI.1 hcl).1, (le_succ hI.1 hcl).2, ?_, ?_⟩
            · exact hI.2.2.1.tr mAdd_J
            · rw [tn_succ hI.1 hcl, adL_y ⟨fun z => c_17 ((nI_tn hI.1).symm.trans z), Or.inl c_21⟩]
              exact mR_add hI.2.2.2 hlen
          · exact tm_lt hcl
        · refine h_aload_n C 0 dX11_addDirections_24 rfl rfl ?_
          refine gfX11_16 C (ty_44 hY) dX11_addDirections_25 ?_
          refine h_tref (b := 45) (rf_44_2 hY) ?_
          refine h_iload_n C 3 dX11_addDirections_28 rfl rfl ?_
          refine h_iald C (ty_45 hY) (vp32 (N := 10) hI.1 (Int32.lt_of_lt_of_le hcl hN0.2) (by decide)) dX11_addDirections_29 ?_
          refine h_iconst C 2 dX11_addDirections_30 (by decide) ?_
          refine h_icmp_eq C 56 dX11_addDirections_31 (by decide) (fun c_31 => ?_) (fun c_31 => ?_)
          · refine h_iinc C [(3, .int (c + 1)), (0, .ref (ad G 44)), (1, .int but), (2, .int cl)] 3 (c + 1) dX11_addDirections_56 rfl rfl (by decide) rfl ?_
            refine h_goto C 7 dX11_addDirections_59 (by decide) ?_
            refine h_sub [1, 2, 3, 0] rfl ?_
            refine ih ((c + 1), σ1) ?_ ?_
            · refine ⟨(le_succ hI.1 hcl).1, (le_succ hI.1 hcl).2, ?_, ?_⟩
              · exact hI.2.2.1
              · rw [tn_succ hI.1 hcl, adL_n (fun q => q.2.elim (fun z => z c_21) (fun z => z ((frJ_k hI.2.2.1).symm.trans c_31)))]
                exact hI.2.2.2
            · exact tm_lt hcl
          · refine h_aload_n C 0 dX11_addDirections_34 rfl rfl ?_
            refine h_aload_n C 0 dX11_addDirections_35 rfl rfl ?_
            refine h_iload_n C 3 dX11_addDirections_36 rfl rfl ?_
            refine h_iconst C 0 dX11_addDirections_37 (by decide) ?_
            refine h_callV C (m_X11_direct hY (vp32 (N := 10) hI.1 (Int32.lt_of_lt_of_le hcl hN0.2) (by decide))) caX11_161 kX11 (ty_44 hY) ⟨by decide, by decide, by decide, by decide⟩ rfl rfl (Nat.le_of_ble_eq_true rfl) dX11_addDirections_38 ?_
            rintro v σ' ⟨rfl, h2⟩; rw [h2]; clear h2; rw [frJ_dir hI.2.2.1]
            show hW _ _ _ _ _ _ _ _ _ _ _ _ _ 41 [(0, .ref (ad G 44)), (1, .int but), (2, .int cl), (3, .int c)] [.long (dirV σ c.toNatClampNeg 0), .ref (ad G 44)] σ1 0 0
            refine h_aload_n C 0 dX11_addDirections_41 rfl rfl ?_
            refine h_iload_n C 3 dX11_addDirections_42 rfl rfl ?_
            refine h_iconst C 1 dX11_addDirections_43 (by decide) ?_
            refine h_callV C (m_X11_direct hY (vp32 (N := 10) hI.1 (Int32.lt_of_lt_of_le hcl hN0.2) (by decide))) caX11_161 kX11 (ty_44 hY) ⟨by decide, by decide, by decide, by decide⟩ rfl rfl (Nat.le_of_ble_eq_true rfl) dX11_addDirections_44 ?_
            rintro v σ' ⟨rfl, h2⟩; rw [h2]; clear h2; rw [frJ_dir hI.2.2.1]
            show hW _ _ _ _ _ _ _ _ _ _ _ _ _ 47 [(0, .ref (ad G 44)), (1, .int but), (2, .int cl), (3, .int c)] [.long (dirV σ c.toNatClampNeg 1), .long (dirV σ c.toNatClampNeg 0), .ref (ad G 44)] σ1 0 0
            refine h_aload_n C 0 dX11_addDirections_47 rfl rfl ?_
            refine h_iload_n C 3 dX11_addDirections_48 rfl rfl ?_
            refine h_iconst C 2 dX11_addDirections_49 (by decide) ?_
            refine h_callV C (m_X11_direct hY (vp32 (N := 10) hI.1 (Int32.lt_of_lt_of_le hcl hN0.2) (by decide))) caX11_161 kX11 (ty_44 hY) ⟨by decide, by decide, by decide, by decide⟩ rfl rfl (Nat.le_of_ble_eq_true rfl) dX11_addDirections_50 ?_
            rintro v σ' ⟨rfl, h2⟩; rw [h2]; clear h2; rw [frJ_dir hI.2.2.1]
            show hW _ _ _ _ _ _ _ _ _ _ _ _ _ 53 [(0, .ref (ad G 44)), (1, .int but), (2, .int cl), (3, .int c)] [.long (dirV σ c.toNatClampNeg 2), .long (dirV σ c.toNatClampNeg 1), .long (dirV σ c.toNatClampNeg 0), .ref (ad G 44)] σ1 0 0
            refine h_callV C (m_X11_add hY hI.2.2.2.b.1 (hI.2.2.2.b' hlen)) caX11_169 kX11 (ty_44 hY) ⟨by decide, by decide, by decide, by decide⟩ rfl rfl (Nat.le_of_ble_eq_true rfl) dX11_addDirections_53 ?_
            rintro v σ' ⟨rfl, h2⟩; rw [h2]; clear h2
            show hW _ _ _ _ _ _ _ _ _ _ _ _ _ 56 [(0, .ref (ad G 44)), (1, .int but), (2, .int cl), (3, .int c)] [] (mAdd σ1 (dirV σ c.toNatClampNeg 0) (dirV σ c.toNatClampNeg 1) (dirV σ c.toNatClampNeg 2)) 0 0
            refine h_iinc C [(3, .int (c + 1)), (0, .ref (ad G 44)), (1, .int but), (2, .int cl)] 3 (c + 1) dX11_addDirections_56 rfl rfl (by decide) rfl ?_
            refine h_goto C 7 dX11_addDirections_59 (by decide) ?_
            refine h_sub [1, 2, 3, 0] rfl ?_
            refine ih ((c + 1), (mAdd σ1 (dirV σ c.toNatClampNeg 0) (dirV σ c.toNatClampNeg 1) (dirV σ c.toNatClampNeg 2))) ?_ ?_
            · refine ⟨(le_succ hI.1 hcl).1, (le_succ hI.1 hcl).2, ?_, ?_⟩
              · exact hI.2.2.1.tr mAdd_J
              · rw [tn_succ hI.1 hcl, adL_y ⟨fun z => c_17 ((nI_tn hI.1).symm.trans z), Or.inr (fun z => c_31 ((frJ_k hI.2.2.1).trans z))⟩]
                exact mR_add hI.2.2.2 hlen
            · exact tm_lt hcl
  · exact ⟨by decide, hN0.1, frJ_sI (by unfold scJ; omega), mR_0⟩
/-- rows of directions: of those that place, of all but one -/
noncomputable def plR (σ : ha_St) : List (Int64 × Int64 × Int64) := adL σ (adP σ (-1) 0) (gI σ 44 1).toNatClampNeg
def rkL (L : List (Int64 × Int64 × Int64)) (r : Int32) : Prop := ∃ ρ, (∀ k, k < L.length → (ρ (3 * k), ρ (3 * k + 1), ρ (3 * k + 2)) = L.getD k zer) ∧ rkQ ρ (Int32.ofNat L.length) r
theorem rkL_of {σ : ha_St} {L : List (Int64 × Int64 × Int64)} {r : Int32} (h : mR σ L) (g : rkQ (gL σ 52) (gI σ 44 9) r) : rkL L r := ⟨_, h.2.2, by rw [← h.2.1]; exact g⟩
set_option maxRecDepth 100000 in
set_option maxHeartbeats 4000000 in
theorem m_X11_rank {G : ha_G} {l : Launch} {σ : ha_St} (hY : LY σ) (hN : MN σ) : hM G l yX11_rank cX11_rank 1 (some .int) { frames := 3, cells := 0, slots := 0, locals := 72 } [.ref (ad G 44)] σ (fun v σ' => ∃ r, v = some (.int r) ∧ frJ σ σ' ∧ mR σ' (plR σ) ∧ rkQ (gL σ' 52) (gI σ' 44 9) r) := by
  refine hM_ofF [(0, .ref (ad G 44))] (by decide +kernel) (Nat.le_of_ble_eq_true rfl) rfl ?_
  intro p e s m args below meth c0 C hin
  refine h_aload_n C 0 dX11_rank_0 rfl rfl ?_
  refine h_iconst C (-1) dX11_rank_1 (by decide) ?_
  refine h_iconst C 0 dX11_rank_2 (by decide) ?_
  refine h_callV C (m_X11_addDirections hY hN) caX11_183 kX11 (ty_44 hY) ⟨by decide, by decide, by decide, by decide⟩ rfl rfl (Nat.le_of_ble_eq_true rfl) dX11_rank_3 ?_
  rintro v σ1 ⟨rfl, hf1, hr1⟩
  have hY : LY σ1 := hf1.LY hY
  show hW _ _ _ _ _ _ _ _ _ _ _ _ _ 6 [(0, .ref (ad G 44))] [] σ1 0 0
  refine h_aload_n C 0 dX11_rank_6 rfl rfl ?_
  refine h_callV C (m_X11_rankOf hY hr1.b.1 hr1.b.2) caX11_187 kX11 (ty_44 hY) ⟨by decide, by decide, by decide, by decide⟩ rfl rfl (Nat.le_of_ble_eq_true rfl) dX11_rank_7 ?_
  rintro v σ2 ⟨⟨r, rfl, hrk⟩, hx2⟩
  show hW _ _ _ _ _ _ _ _ _ _ _ _ _ 10 [(0, .ref (ad G 44))] [.int r] σ2 0 0
  refine h_iret C rfl (Nat.zero_le _) (Nat.zero_le _) dX11_rank_10 ?_
  refine ⟨_, rfl, hf1.tr (frX_J hx2), frX_mR hx2 hr1, ?_⟩
  rw [frX_44 hx2, frX_52 hx2]
  exact hrk
