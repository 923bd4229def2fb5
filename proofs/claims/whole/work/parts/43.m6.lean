/-! ===== the reference: pushes, faces; loads, pull ===== -/
def pL (σ : ha_St) (c : Nat) : Nat → List I3
  | 0 => []
  | m + 1 => pL σ c m ++ [(psV σ c (Int32.ofNat m) 0, psV σ c (Int32.ofNat m) 1, psV σ c (Int32.ofNat m) 2)]
def puL (σ : ha_St) : Nat → List I3
  | 0 => []
  | n + 1 => puL σ n ++ (if gI σ 45 n = 2 then [] else pL σ n (mPc σ n).toNatClampNeg)
def clL (σ : ha_St) : Nat → I3
  | 0 => zer
  | n + 1 => if gI σ 45 n = 2 then ((clL σ n).1 + dirV σ n 0, (clL σ n).2.1 + dirV σ n 1, (clL σ n).2.2 + dirV σ n 2) else clL σ n
def c3 (σ : ha_St) : I3 := (gL σ 55 0, gL σ 55 1, gL σ 55 2)
theorem pL_len {σ : ha_St} {c : Nat} : ∀ m, (pL σ c m).length = m
  | 0 => rfl
  | m + 1 => by unfold pL; rw [List.length_append, pL_len m]; rfl
theorem mPc_b {σ : ha_St} {c : Nat} : 1 ≤ mPc σ c ∧ mPc σ c ≤ 3 ∧ (mPc σ c).toNatClampNeg ≤ 3 := by
  unfold mPc
  split
  · decide
  · split <;> decide
theorem puL_len {σ : ha_St} : ∀ n, (puL σ n).length ≤ 3 * n
  | 0 => Nat.le_refl _
  | n + 1 => by
    have h := puL_len (σ := σ) n
    have h2 := (mPc_b (σ := σ) (c := n)).2.2
    unfold puL
    rw [List.length_append]
    split
    · simp; omega
    · rw [pL_len]; omega
theorem mR_sL {σ : ha_St} {L : List I3} {a j : Nat} {v : Int64} (g : mR σ L) (h : a ≠ 52) : mR (sL σ a j v) L := by
  refine ⟨g.1, g.2.1, fun k hk => ?_⟩
  rw [← g.2.2 k hk]
  simp only [gL_sL]
  rw [if_neg (fun q => h q.1.symm), if_neg (fun q => h q.1.symm), if_neg (fun q => h q.1.symm)]
theorem frJ_ps {σ σ' : ha_St} (h : frJ σ σ') {c : Nat} {p k : Int32} : psV σ' c p k = psV σ c p k := by
  unfold psV
  rw [h.2.2.2.1 45 c (by unfold scJ; omega), h.2.2.2.1 46 c (by unfold scJ; omega), h.2.2.2.1 47 c (by unfold scJ; omega), h.2.2.2.1 48 c (by unfold scJ; omega), h.2.2.2.1 49 c (by unfold scJ; omega)]
theorem frJ_pc {σ σ' : ha_St} (h : frJ σ σ') {c : Nat} : mPc σ' c = mPc σ c := by unfold mPc; rw [frJ_k h]
def sc3 (s : Int32) (c : I3) : I3 := (s.toInt64 * c.1, s.toInt64 * c.2.1, s.toInt64 * c.2.2)
def cov (φ : Nat → Int64) (F : Int32) (c : I3) (s : Int32) : Prop := ∃ f, (0 ≤ f ∧ f < F) ∧ (fc φ f = sc3 s c ∨ smF (fc φ f) s.toInt64 c)
def fcA (ρ : Nat → Int64) (N F : Int32) (φ : Nat → Int64) (x y : Int32) : Prop := crR ρ x y ≠ zer → ∀ s, sdQ (crR ρ x y) ρ N s → s ≠ 0 → cov φ F (crR ρ x y) s
def fcP (ρ : Nat → Int64) (N F : Int32) (φ : Nat → Int64) (i : Int32) : Prop := ∀ x y, (0 ≤ y ∧ y < x ∧ x < i) → fcA ρ N F φ x y
def fcJ (ρ : Nat → Int64) (N F : Int32) (φ : Nat → Int64) (i j : Int32) : Prop := fcP ρ N F φ i ∧ AL j (fcA ρ N F φ i)
def fcS (ρ : Nat → Int64) (N F : Int32) (φ : Nat → Int64) : Prop := AL F (fun f => ∃ x y s, (0 ≤ y ∧ y < x ∧ x < N) ∧ crR ρ x y ≠ zer ∧ sdQ (crR ρ x y) ρ N s ∧ s ≠ 0 ∧ fc φ f = sc3 s (crR ρ x y))
theorem fcP_s {ρ φ : Nat → Int64} {N F i m : Int32} (h : i < m) (hj : fcJ ρ N F φ i i) : fcP ρ N F φ (i + 1) := by
  intro x y hx
  by_cases e : x = i
  · subst e; exact hj.2 y hx.1 hx.2.1
  · exact hj.1 x y (by grind)
theorem cov_up {φ φ' : Nat → Int64} {F : Int32} {c : I3} {s m : Int32} (hF : F < m) (h : ∀ f, 0 ≤ f → f < F → fc φ' f = fc φ f) (g : cov φ F c s) : cov φ' (F + 1) c s := by
  obtain ⟨f, hf, q⟩ := g
  refine ⟨f, by grind, ?_⟩
  rw [h f hf.1 hf.2]
  exact q
theorem fcA_up {ρ φ φ' : Nat → Int64} {N F x y m : Int32} (hF : F < m) (h : ∀ f, 0 ≤ f → f < F → fc φ' f = fc φ f) (g : fcA ρ N F φ x y) : fcA ρ N (F + 1) φ' x y := fun a s b c => cov_up hF h (g a s b c)
theorem fcJ_up {ρ φ φ' : Nat → Int64} {N F i j m : Int32} (hF : F < m) (h : ∀ f, 0 ≤ f → f < F → fc φ' f = fc φ f) (g : fcJ ρ N F φ i j) : fcJ ρ N (F + 1) φ' i j := ⟨fun x y hx => fcA_up hF h (g.1 x y hx), fun y h0 h1 => fcA_up hF h (g.2 y h0 h1)⟩
theorem fcS_up {ρ φ φ' : Nat → Int64} {N F m : Int32} (hF0 : 0 ≤ F) (hF : F < m) (h : ∀ f, 0 ≤ f → f < F → fc φ' f = fc φ f) (g : fcS ρ N F φ) (n : ∃ x y s, (0 ≤ y ∧ y < x ∧ x < N) ∧ crR ρ x y ≠ zer ∧ sdQ (crR ρ x y) ρ N s ∧ s ≠ 0 ∧ fc φ' F = sc3 s (crR ρ x y)) : fcS ρ N (F + 1) φ' := by
  refine (AL_i hF0 hF).mpr ⟨fun f h0 h1 => ?_, n⟩
  obtain ⟨x, y, s, a, b, c, d, e⟩ := g f h0 h1
  exact ⟨x, y, s, a, b, c, d, (h f h0 h1).trans e⟩
theorem sdQ_det {c : I3} {ρ : Nat → Int64} {n r s : Int32} (h : sdQ c ρ n r) (g : sdQ c ρ n s) : r = s := by
  rcases h with ⟨e, a⟩ | ⟨e, a, b⟩ | ⟨e, a, b⟩ <;> rcases g with ⟨e', a'⟩ | ⟨e', a', b'⟩ | ⟨e', a', b'⟩ <;> first | exact absurd a a' | exact absurd a' a | exact absurd b b' | exact absurd b' b | (rw [e, e'])
/-- only the cross, the faces and their number have changed -/
def frF (σ σ' : ha_St) : Prop := gT σ' = gT σ ∧ gR σ' = gR σ ∧ gn σ' = gn σ ∧ (∀ a j, a ≠ 53 → a ≠ 54 → ¬ (a = 44 ∧ j = 13) → gI σ' a j = gI σ a j) ∧ ∀ a, a ≠ 53 → a ≠ 54 → gL σ' a = gL σ a
theorem frF.rf {σ : ha_St} : frF σ σ := ⟨rfl, rfl, rfl, fun _ _ _ _ _ => rfl, fun _ _ _ => rfl⟩
theorem frF.tr {σ σ1 σ2 : ha_St} (h : frF σ σ1) (g : frF σ1 σ2) : frF σ σ2 := ⟨g.1.trans h.1, g.2.1.trans h.2.1, g.2.2.1.trans h.2.2.1, fun a j h1 h2 h3 => (g.2.2.2.1 a j h1 h2 h3).trans (h.2.2.2.1 a j h1 h2 h3), fun a h1 h2 => (g.2.2.2.2 a h1 h2).trans (h.2.2.2.2 a h1 h2)⟩
theorem frF.LY {σ σ' : ha_St} (h : frF σ σ') (hY : LY σ) : LY σ' := hY.same h.1 h.2.1 h.2.2.1
theorem frF_X {σ σ' : ha_St} (h : frX 53 54 σ σ') : frF σ σ' := ⟨h.1, h.2.1, h.2.2.1, fun a j h1 _ _ => by rw [(h.2.2.2 a (by omega)).1], fun a h1 _ => (h.2.2.2 a (by omega)).2⟩
theorem frF.J {σ σ' : ha_St} (h : frF σ σ') : frJ σ σ' := ⟨h.1, h.2.1, h.2.2.1, fun a j hj => h.2.2.2.1 a j (by unfold scJ at hj; omega) (by unfold scJ at hj; omega) (by unfold scJ at hj; omega), fun a ha => h.2.2.2.2 a (by omega) (by omega)⟩
theorem frF_sL {σ : ha_St} {j : Nat} {v : Int64} : frF σ (sL σ 54 j v) := ⟨rfl, rfl, rfl, fun _ _ _ _ _ => rfl, fun a _ h2 => funext fun y => by rw [gL_sL, if_neg (fun q => h2 q.1)]⟩
theorem frF_sI {σ : ha_St} {v : Int32} : frF σ (sI σ 44 13 v) := ⟨rfl, rfl, rfl, fun a j _ _ h3 => by rw [gI_sI, if_neg h3], fun _ _ _ => rfl⟩
theorem frF_9 {σ σ' : ha_St} (h : frF σ σ') : gI σ' 44 9 = gI σ 44 9 := h.2.2.2.1 44 9 (by omega) (by omega) (by omega)
theorem frF_12 {σ σ' : ha_St} (h : frF σ σ') : gI σ' 44 12 = gI σ 44 12 := h.2.2.2.1 44 12 (by omega) (by omega) (by omega)
theorem frF_52 {σ σ' : ha_St} (h : frF σ σ') : gL σ' 52 = gL σ 52 := h.2.2.2.2 52 (by omega) (by omega)
theorem frX_13 {σ σ1 : ha_St} (h : frX 53 54 σ σ1) : gI σ1 44 13 = gI σ 44 13 := by rw [(h.2.2.2 44 (by omega)).1]
theorem frX_54 {σ σ1 : ha_St} (h : frX 53 54 σ σ1) : gL σ1 54 = gL σ 54 := (h.2.2.2 54 (by omega)).2
def fcF (σ : ha_St) (s : Int32) : ha_St := sI (sL (sL (sL σ 54 (3 * gI σ 44 13 + 0).toNatClampNeg (s.toInt64 * gL σ 53 0)) 54 (3 * gI σ 44 13 + 1).toNatClampNeg (s.toInt64 * gL σ 53 1)) 54 (3 * gI σ 44 13 + 2).toNatClampNeg (s.toInt64 * gL σ 53 2)) 44 13 (gI σ 44 13 + 1)
theorem fcF_fr {σ : ha_St} {s : Int32} : frF σ (fcF σ s) := ((frF_sL.tr frF_sL).tr frF_sL).tr frF_sI
theorem fcF_n {σ : ha_St} {s : Int32} : gI (fcF σ s) 44 13 = gI σ 44 13 + 1 := by unfold fcF; rw [gI_sI, if_pos ⟨rfl, rfl⟩]
theorem fcF_old {σ : ha_St} {s : Int32} (h0 : 0 ≤ gI σ 44 13) (h1 : gI σ 44 13 < 900) : ∀ f, 0 ≤ f → f < gI σ 44 13 → fc (gL (fcF σ s) 54) f = fc (gL σ 54) f := by
  intro f g0 g1
  have a := t900_n h0 h1
  have b := t900_n g0 (Int32.lt_trans g1 h1)
  have c := tn_lt g0 g1
  unfold fc q0 q1 q2 fcF
  rw [show 3 * gI σ 44 13 + 0 = 3 * gI σ 44 13 by grind]
  simp only [gL_sI, gL_sL, a.1, a.2.1, a.2.2, b.1, b.2.1, b.2.2, true_and]
  rw [if_neg (by omega), if_neg (by omega), if_neg (by omega), if_neg (by omega), if_neg (by omega), if_neg (by omega), if_neg (by omega), if_neg (by omega), if_neg (by omega)]
theorem fcF_new {σ : ha_St} {s : Int32} (h0 : 0 ≤ gI σ 44 13) (h1 : gI σ 44 13 < 900) : fc (gL (fcF σ s) 54) (gI σ 44 13) = sc3 s (cr3 σ) := by
  have a := t900_n h0 h1
  unfold fc q0 q1 q2 fcF sc3 cr3
  rw [show 3 * gI σ 44 13 + 0 = 3 * gI σ 44 13 by grind]
  simp only [gL_sI, gL_sL, a.1, a.2.1, a.2.2, true_and]
  rw [if_neg (by omega), if_neg (by omega), if_pos (by first | trivial | omega), if_neg (by omega), if_pos (by first | trivial | omega), if_pos (by first | trivial | omega)]
/-- made ready -/
def prQ (σ σ' : ha_St) : Prop := frJ σ σ' ∧ mR σ' (puL σ (gI σ 44 1).toNatClampNeg) ∧ c3 σ' = clL σ (gI σ 44 1).toNatClampNeg ∧ rkQ (gL σ' 52) (gI σ' 44 9) (gI σ' 44 12) ∧ (0 ≤ gI σ' 44 13 ∧ gI σ' 44 13 ≤ 900) ∧
  (gI σ' 44 12 = 3 → fcP (gL σ' 52) (gI σ' 44 9) (gI σ' 44 13) (gL σ' 54) (gI σ' 44 9) ∧ fcS (gL σ' 52) (gI σ' 44 9) (gI σ' 44 13) (gL σ' 54))
set_option maxRecDepth 100000 in
set_option maxHeartbeats 4000000 in
theorem m_X11_prepare {G : ha_G} {l : Launch} {σ : ha_St} (hY : LY σ) (hN : MN σ) : hM G l yX11_prepare cX11_prepare 5 none { frames := 2, cells := 0, slots := 0, locals := 55 } [.ref (ad G 44)] σ (fun v σ' => v = none ∧ prQ σ σ') := by
  have hY0 := hY
  have hN0 := hN
  refine hM_ofF [(0, .ref (ad G 44))] (by decide +kernel) (Nat.le_of_ble_eq_true rfl) rfl ?_
  intro p e s m args below meth c0 C hin
  refine h_aload_n C 0 dX11_prepare_0 rfl rfl ?_
  refine h_iconst C 0 dX11_prepare_1 (by decide) ?_
  refine pfX11_38 C (ty_44 hY) dX11_prepare_2 ?_
  refine h_iconst C 0 dX11_prepare_5 (by decide) ?_
  refine h_istore_n C [(1, .int 0), (0, .ref (ad G 44))] dX11_prepare_6 rfl (by decide) rfl ?_
  refine h_iload_n C 0 dX11_prepare_7 rfl rfl ?_
  refine h_iconst C 3 dX11_prepare_8 (by decide) ?_
  refine h_icmp_ge C 25 dX11_prepare_9 (by decide) (fun c_9 => ?_) (fun c_9 => ?_)
  · exact absurd c_9 (by decide)
  · refine h_aload_n C 1 dX11_prepare_12 rfl rfl ?_
    refine gfX11_57 C (ty_44 hY) dX11_prepare_13 ?_
    refine h_tref (b := 55) (rf_44_15 hY) ?_
    refine h_iload_n C 0 dX11_prepare_16 rfl rfl ?_
    refine h_lconst C 0 dX11_prepare_17 rfl ?_
    refine h_last C _ (ty_55 hY) (vp32 (N := 3) (by decide) (by decide) (by decide)) dX11_prepare_18 rfl ?_
    show hW _ _ _ _ _ _ _ _ _ _ _ _ _ 19 [(1, .int 0), (0, .ref (ad G 44))] [] (sL (sI σ 44 9 0) 55 0 0) 0 0
    refine h_iinc C [(1, .int 1), (0, .ref (ad G 44))] 0 1 dX11_prepare_19 rfl rfl (by decide) rfl ?_
    refine h_goto C 7 dX11_prepare_22 (by decide) ?_
    refine h_iload_n C 0 dX11_prepare_7 rfl rfl ?_
    refine h_iconst C 3 dX11_prepare_8 (by decide) ?_
    refine h_icmp_ge C 25 dX11_prepare_9 (by decide) (fun c_9 => ?_) (fun c_9 => ?_)
    · exact absurd c_9 (by decide)
    · refine h_aload_n C 1 dX11_prepare_12 rfl rfl ?_
      refine gfX11_57 C (ty_44 hY) dX11_prepare_13 ?_
      refine h_tref (b := 55) (rf_44_15 hY) ?_
      refine h_iload_n C 0 dX11_prepare_16 rfl rfl ?_
      refine h_lconst C 0 dX11_prepare_17 rfl ?_
      refine h_last C _ (ty_55 hY) (vp32 (N := 3) (by decide) (by decide) (by decide)) dX11_prepare_18 rfl ?_
      show hW _ _ _ _ _ _ _ _ _ _ _ _ _ 19 [(1, .int 1), (0, .ref (ad G 44))] [] (sL (sL (sI σ 44 9 0) 55 0 0) 55 1 0) 0 0
      refine h_iinc C [(1, .int 2), (0, .ref (ad G 44))] 0 2 dX11_prepare_19 rfl rfl (by decide) rfl ?_
      refine h_goto C 7 dX11_prepare_22 (by decide) ?_
      refine h_iload_n C 0 dX11_prepare_7 rfl rfl ?_
      refine h_iconst C 3 dX11_prepare_8 (by decide) ?_
      refine h_icmp_ge C 25 dX11_prepare_9 (by decide) (fun c_9 => ?_) (fun c_9 => ?_)
      · exact absurd c_9 (by decide)
      · refine h_aload_n C 1 dX11_prepare_12 rfl rfl ?_
        refine gfX11_57 C (ty_44 hY) dX11_prepare_13 ?_
        refine h_tref (b := 55) (rf_44_15 hY) ?_
        refine h_iload_n C 0 dX11_prepare_16 rfl rfl ?_
        refine h_lconst C 0 dX11_prepare_17 rfl ?_
        refine h_last C _ (ty_55 hY) (vp32 (N := 3) (by decide) (by decide) (by decide)) dX11_prepare_18 rfl ?_
        show hW _ _ _ _ _ _ _ _ _ _ _ _ _ 19 [(1, .int 2), (0, .ref (ad G 44))] [] (sL (sL (sL (sI σ 44 9 0) 55 0 0) 55 1 0) 55 2 0) 0 0
        refine h_iinc C [(1, .int 3), (0, .ref (ad G 44))] 0 3 dX11_prepare_19 rfl rfl (by decide) rfl ?_
        refine h_goto C 7 dX11_prepare_22 (by decide) ?_
        refine h_iload_n C 0 dX11_prepare_7 rfl rfl ?_
        refine h_iconst C 3 dX11_prepare_8 (by decide) ?_
        refine h_icmp_ge C 25 dX11_prepare_9 (by decide) (fun c_9 => ?_) (fun c_9 => ?_)
        · refine h_iconst C 0 dX11_prepare_25 (by decide) ?_
          refine h_istore_n C [(1, .int 0), (0, .ref (ad G 44))] dX11_prepare_26 rfl (by decide) rfl ?_
          refine h_sub [1, 0] rfl ?_
          refine h_loop (α := Int32 × ha_St) (fun (c, σ1) => 0 ≤ c ∧ c ≤ gI σ 44 1 ∧ frJ σ σ1 ∧ mR σ1 (puL σ c.toNatClampNeg) ∧ c3 σ1 = clL σ c.toNatClampNeg) (fun (c, σ1) => tm (gI σ 44 1) c) (fun (c, σ1) => [(0, .ref (ad G 44)), (1, .int c)]) (fun (c, σ1) => []) (fun (c, σ1) => σ1) (fun (c, σ1) => 0) (fun (c, σ1) => 0) ?_ (0, (sL (sL (sL (sI σ 44 9 0) 55 0 0) 55 1 0) 55 2 0)) ?_
          · rintro ⟨c, σ1⟩ hI1 ih1
            show hW _ _ _ _ _ _ _ _ _ _ _ _ _ 27 [(0, .ref (ad G 44)), (1, .int c)] [] σ1 0 0
            have hY : LY σ1 := hI1.2.2.1.LY hY0
            have hz := frJ_n hI1.2.2.1
            refine h_iload_n C 1 dX11_prepare_27 rfl rfl ?_
            refine h_aload_n C 0 dX11_prepare_28 rfl rfl ?_
            refine gfX11_13 C (ty_44 hY) dX11_prepare_29 ?_
            refine h_icmp_ge C 124 dX11_prepare_32 (by decide) (fun c_32 => ?_) (fun c_32 => ?_)
            · have hce := eq_end hI1.2.1 (by rw [← hz]; exact Int32.not_lt.mpr c_32)
              have hP := hI1.2.2
              rw [hce] at hP
              clear hI1 ih1
              refine h_aload_n C 0 dX11_prepare_124 rfl rfl ?_
              refine h_aload_n C 0 dX11_prepare_125 rfl rfl ?_
              refine h_callV C (m_X11_rankOf hY hP.2.1.b.1 hP.2.1.b.2) caX11_187 kX11 (ty_44 hY) ⟨by decide, by decide, by decide, by decide⟩ rfl rfl (Nat.le_of_ble_eq_true rfl) dX11_prepare_126 ?_
              rintro v σ3 ⟨⟨r, rfl, hrk⟩, hx3⟩
              have hY : LY σ3 := hx3.LY hY
              show hW _ _ _ _ _ _ _ _ _ _ _ _ _ 129 [(0, .ref (ad G 44)), (1, .int c)] [.int r, .ref (ad G 44)] σ3 0 0
              refine pfX11_48 C (ty_44 hY) dX11_prepare_129 ?_
              refine h_aload_n C 0 dX11_prepare_132 rfl rfl ?_
              refine h_iconst C 0 dX11_prepare_133 (by decide) ?_
              refine pfX11_51 C (ty_44 hY) dX11_prepare_134 ?_
              obtain ⟨σ5, e5⟩ : ∃ z, z = (sI (sI σ3 44 12 r) 44 13 0) := ⟨_, rfl⟩
              rw [← e5]
              have hj5 : frJ σ σ5 := by rw [e5]; exact ((hP.1.tr (frX_J hx3)).tr (frJ_sI (by unfold scJ; omega))).tr (frJ_sI (by unfold scJ; omega))
              have hr5 : mR σ5 (puL σ (gI σ 44 1).toNatClampNeg) := by rw [e5]; exact frX_mR hx3 hP.2.1
              have hc5 : c3 σ5 = clL σ (gI σ 44 1).toNatClampNeg := by
                rw [e5, ← hP.2.2]
                unfold c3
                rw [← (hx3.2.2.2 55 (by omega)).2]
                rfl
              have hk5 : rkQ (gL σ5 52) (gI σ5 44 9) (gI σ5 44 12) := by
                rw [← frX_52 hx3, ← frX_44 hx3] at hrk
                rw [e5]
                exact hrk
              have h13 : gI σ5 44 13 = 0 := by rw [e5]; rfl
              have hY5 : LY σ5 := hj5.LY hY0
              have hm0 := hr5.b.1
              have hm1 := hr5.b.2
              clear e5 hx3 hrk hP
              show hW _ _ _ _ _ _ _ _ _ _ _ _ _ 137 [(0, .ref (ad G 44)), (1, .int c)] [] σ5 0 0
              refine h_iconst C 0 dX11_prepare_137 (by decide) ?_
              refine h_istore_n C [(1, .int 0), (0, .ref (ad G 44))] dX11_prepare_138 rfl (by decide) rfl ?_
              refine h_sub [1, 0] rfl ?_
              refine h_loop (α := Int32 × ha_St) (fun (i, σ6) => 0 ≤ i ∧ i ≤ gI σ5 44 9 ∧ frF σ5 σ6 ∧ (0 ≤ gI σ6 44 13 ∧ gI σ6 44 13 ≤ 30 * i) ∧ fcP (gL σ5 52) (gI σ5 44 9) (gI σ6 44 13) (gL σ6 54) i ∧ fcS (gL σ5 52) (gI σ5 44 9) (gI σ6 44 13) (gL σ6 54)) (fun (i, σ6) => tm (gI σ5 44 9) i) (fun (i, σ6) => [(0, .ref (ad G 44)), (1, .int i)]) (fun (i, σ6) => []) (fun (i, σ6) => σ6) (fun (i, σ6) => 0) (fun (i, σ6) => 0) ?_ (0, σ5) ?_
              · rintro ⟨i, σ6⟩ hI3 ih3
                show hW _ _ _ _ _ _ _ _ _ _ _ _ _ 139 [(0, .ref (ad G 44)), (1, .int i)] [] σ6 0 0
                have hY : LY σ6 := hI3.2.2.1.LY hY5
                have hz : gI σ6 44 9 = gI σ5 44 9 := frF_9 hI3.2.2.1
                have h52 : gL σ6 52 = gL σ5 52 := frF_52 hI3.2.2.1
                refine h_iload_n C 1 dX11_prepare_139 rfl rfl ?_
                refine h_aload_n C 0 dX11_prepare_140 rfl rfl ?_
                refine gfX11_38 C (ty_44 hY) dX11_prepare_141 ?_
                refine h_icmp_ge C 255 dX11_prepare_144 (by decide) (fun c_144 => ?_) (fun c_144 => ?_)
                · refine h_vret C rfl (Nat.zero_le _) (Nat.zero_le _) dX11_prepare_255 ?_
                  have hj6 : frJ σ σ6 := hj5.tr hI3.2.2.1.J
                  refine ⟨rfl, hj6, ?_, ?_, ?_, ?_, ?_⟩
                  · unfold mR; rw [hz, h52]; exact hr5
                  · rw [← hc5]; unfold c3; rw [hI3.2.2.1.2.2.2.2 55 (by omega) (by omega)]
                  · rw [hz, h52, frF_12 hI3.2.2.1]; exact hk5
                  · exact ⟨hI3.2.2.2.1.1, by have h1 := hI3.2.2.2.1.2; have h2 := hI3.2.1; have h3 := hm1; have h4 := hI3.1; clear C; grind⟩
                  · intro _
                    rw [hz, h52]
                    have he := eq_end hI3.2.1 (by rw [← hz]; exact Int32.not_lt.mpr c_144)
                    have hq := hI3.2.2.2.2
                    rw [he] at hq
                    exact hq
                · refine h_aload_n C 0 dX11_prepare_147 rfl rfl ?_
                  refine gfX11_48 C (ty_44 hY) dX11_prepare_148 ?_
                  refine h_iconst C 3 dX11_prepare_151 (by decide) ?_
                  refine h_icmp_ne C 255 dX11_prepare_152 (by decide) (fun c_152 => ?_) (fun c_152 => ?_)
                  · refine h_vret C rfl (Nat.zero_le _) (Nat.zero_le _) dX11_prepare_255 ?_
                    have hj6 : frJ σ σ6 := hj5.tr hI3.2.2.1.J
                    refine ⟨rfl, hj6, ?_, ?_, ?_, ?_, ?_⟩
                    · unfold mR; rw [hz, h52]; exact hr5
                    · rw [← hc5]; unfold c3; rw [hI3.2.2.1.2.2.2.2 55 (by omega) (by omega)]
                    · rw [hz, h52, frF_12 hI3.2.2.1]; exact hk5
                    · exact ⟨hI3.2.2.2.1.1, by have h1 := hI3.2.2.2.1.2; have h2 := hI3.2.1; have h3 := hm1; have h4 := hI3.1; clear C; grind⟩
                    · exact fun q => absurd q c_152
                  · have hil : i < gI σ5 44 9 := by rw [← hz]; exact Int32.not_le.mp c_144
                    have hib : 0 ≤ i ∧ i < 30 := ⟨hI3.1, Int32.lt_of_lt_of_le hil hm1⟩
                    refine h_iconst C 0 dX11_prepare_155 (by decide) ?_
                    refine h_istore_n C [(2, .int 0), (0, .ref (ad G 44)), (1, .int i)] dX11_prepare_156 rfl (by decide) rfl ?_
                    refine h_sub [1, 2, 0] rfl ?_
                    refine h_loop (α := Int32 × ha_St) (fun (j, σ7) => 0 ≤ j ∧ j ≤ i ∧ frF σ5 σ7 ∧ (0 ≤ gI σ7 44 13 ∧ gI σ7 44 13 ≤ 30 * i + j) ∧ fcJ (gL σ5 52) (gI σ5 44 9) (gI σ7 44 13) (gL σ7 54) i j ∧ fcS (gL σ5 52) (gI σ5 44 9) (gI σ7 44 13) (gL σ7 54)) (fun (j, σ7) => tm i j) (fun (j, σ7) => [(0, .ref (ad G 44)), (1, .int i), (2, .int j)]) (fun (j, σ7) => []) (fun (j, σ7) => σ7) (fun (j, σ7) => 0) (fun (j, σ7) => 0) ?_ (0, σ6) ?_
                    · rintro ⟨j, σ7⟩ hI4 ih4
                      show hW _ _ _ _ _ _ _ _ _ _ _ _ _ 157 [(0, .ref (ad G 44)), (1, .int i), (2, .int j)] [] σ7 0 0
                      have hY : LY σ7 := hI4.2.2.1.LY hY5
                      have hz : gI σ7 44 9 = gI σ5 44 9 := frF_9 hI4.2.2.1
                      have h52 : gL σ7 52 = gL σ5 52 := frF_52 hI4.2.2.1
                      refine h_iload_n C 2 dX11_prepare_157 rfl rfl ?_
                      refine h_iload_n C 1 dX11_prepare_158 rfl rfl ?_
                      refine h_icmp_ge C 249 dX11_prepare_159 (by decide) (fun c_159 => ?_) (fun c_159 => ?_)
                      · refine h_iinc C [(1, .int (i + 1)), (0, .ref (ad G 44)), (2, .int j)] 1 (i + 1) dX11_prepare_249 rfl rfl (by decide) rfl ?_
                        refine h_goto C 139 dX11_prepare_252 (by decide) ?_
                        refine h_sub [1, 0] rfl ?_
                        refine ih3 ((i + 1), σ7) ?_ ?_
                        · have hje := eq_end hI4.2.1 (Int32.not_lt.mpr c_159)
                          have hq := hI4.2.2.2
                          rw [hje] at hq
                          exact ⟨(le_succ hI3.1 hil).1, (le_succ hI3.1 hil).2, hI4.2.2.1, ⟨hq.1.1, by have h1 := hq.1.2; have h2 := hib; clear C; grind⟩, fcP_s hil hq.2.1, hq.2.2⟩
                        · exact tm_lt hil
                      · have hjl := Int32.not_le.mp c_159
                        have hjb : 0 ≤ j ∧ j < 30 := ⟨hI4.1, by have h1 := hib; clear C; grind⟩
                        refine h_aload_n C 0 dX11_prepare_162 rfl rfl ?_
                        refine h_iload_n C 1 dX11_prepare_163 rfl rfl ?_
                        refine h_iload_n C 2 dX11_prepare_164 rfl rfl ?_
                        refine h_callV C (m_X11_across hY hib hjb) caX11_176 kX11 (ty_44 hY) ⟨by decide, by decide, by decide, by decide⟩ rfl rfl (Nat.le_of_ble_eq_true rfl) dX11_prepare_165 ?_
                        rintro v σ8 ⟨⟨ra, rfl, ha⟩, h2⟩
                        rw [h52] at ha
                        have hx8 : frX 53 54 σ7 σ8 := by rw [h2]; exact acrF_x
                        have hc8 : cr3 σ8 = crR (gL σ5 52) i j := by rw [h2, acrF_c, h52]
                        clear h2
                        have hf8 : frF σ5 σ8 := hI4.2.2.1.tr (frF_X hx8)
                        have hF8 : gI σ8 44 13 ≤ 30 * i + j := by rw [frX_13 hx8]; exact hI4.2.2.2.1.2
                        have hFb : 0 ≤ gI σ8 44 13 ∧ gI σ8 44 13 < 900 := ⟨by rw [frX_13 hx8]; exact hI4.2.2.2.1.1, by have h2 := hF8; have h3 := hib; have h4 := hjl; have h5 := hjb; clear C; grind⟩
                        have hG8 : fcJ (gL σ5 52) (gI σ5 44 9) (gI σ8 44 13) (gL σ8 54) i j ∧ fcS (gL σ5 52) (gI σ5 44 9) (gI σ8 44 13) (gL σ8 54) := by rw [frX_13 hx8, frX_54 hx8]; exact hI4.2.2.2.2
                        have hY : LY σ8 := hf8.LY hY5
                        have hz : gI σ8 44 9 = gI σ5 44 9 := frF_9 hf8
                        have h52 : gL σ8 52 = gL σ5 52 := frF_52 hf8
                        show hW _ _ _ _ _ _ _ _ _ _ _ _ _ 168 [(0, .ref (ad G 44)), (1, .int i), (2, .int j)] [.int ra] σ8 0 0
                        refine h_if_ne C 174 dX11_prepare_168 (by decide) (fun c_168 => ?_) (fun c_168 => ?_)
                        · refine h_aload_n C 0 dX11_prepare_174 rfl rfl ?_
                          refine h_callV C (m_X11_sideOf hY (by rw [hz]; exact hm0) (by rw [hz]; exact hm1)) caX11_205 kX11 (ty_44 hY) ⟨by decide, by decide, by decide, by decide⟩ rfl rfl (Nat.le_of_ble_eq_true rfl) dX11_prepare_175 ?_
                          rintro v σ' ⟨⟨rs, rfl, hs⟩, h2⟩; rw [h2]; clear h2; rw [hc8, h52, hz] at hs
                          show hW _ _ _ _ _ _ _ _ _ _ _ _ _ 178 [(0, .ref (ad G 44)), (1, .int i), (2, .int j)] [.int rs] σ8 0 0
                          refine h_istore_n C [(3, .int rs), (0, .ref (ad G 44)), (1, .int i), (2, .int j)] dX11_prepare_178 rfl (by decide) rfl ?_
                          refine h_iload_n C 0 dX11_prepare_179 rfl rfl ?_
                          refine h_if_eq C 243 dX11_prepare_180 (by decide) (fun c_180 => ?_) (fun c_180 => ?_)
                          · refine h_iinc C [(2, .int (j + 1)), (3, .int rs), (0, .ref (ad G 44)), (1, .int i)] 3 (j + 1) dX11_prepare_243 rfl rfl (by decide) rfl ?_
                            refine h_goto C 157 dX11_prepare_246 (by decide) ?_
                            refine h_sub [2, 3, 0] rfl ?_
                            refine ih4 ((j + 1), σ8) ?_ ?_
                            · refine ⟨(le_succ hI4.1 hjl).1, (le_succ hI4.1 hjl).2, hf8, ⟨hFb.1, by have h2 := hF8; have h3 := hib; have h4 := hjb; clear C; grind⟩, ⟨hG8.1.1, (AL_i hI4.1 hjl).mpr ⟨hG8.1.2, ?_⟩⟩, hG8.2⟩
                              exact fun _ s g1 g2 => absurd ((sdQ_det hs g1).symm.trans c_180) g2
                            · exact tm_lt hjl
                          · refine h_aload_n C 1 dX11_prepare_183 rfl rfl ?_
                            refine h_iload_n C 0 dX11_prepare_184 rfl rfl ?_
                            refine h_callV C (m_X11_isFace hY hFb.1 (Int32.le_of_lt hFb.2)) caX11_211 kX11 (ty_44 hY) ⟨by decide, by decide, by decide, by decide⟩ rfl rfl (Nat.le_of_ble_eq_true rfl) dX11_prepare_185 ?_
                            rintro v σ' ⟨⟨rf, rfl, hfa⟩, h2⟩; rw [h2]; clear h2; rw [hc8] at hfa
                            show hW _ _ _ _ _ _ _ _ _ _ _ _ _ 188 [(3, .int rs), (0, .ref (ad G 44)), (1, .int i), (2, .int j)] [.int rf] σ8 0 0
                            refine h_if_eq C 194 dX11_prepare_188 (by decide) (fun c_188 => ?_) (fun c_188 => ?_)
                            · refine h_iconst C 0 dX11_prepare_194 (by decide) ?_
                              refine h_istore C [(4, .int 0), (3, .int rs), (0, .ref (ad G 44)), (1, .int i), (2, .int j)] dX11_prepare_195 (by decide) rfl ?_
                              refine h_iload C 0 dX11_prepare_197 rfl ?_
                              refine h_iconst C 3 dX11_prepare_199 (by decide) ?_
                              refine h_icmp_ge C 233 dX11_prepare_200 (by decide) (fun c_200 => ?_) (fun c_200 => ?_)
                              · exact absurd c_200 (by decide)
                              · refine h_aload_n C 2 dX11_prepare_203 rfl rfl ?_
                                refine gfX11_54 C (ty_44 hY) dX11_prepare_204 ?_
                                refine h_tref (b := 54) (rf_44_14 hY) ?_
                                refine h_iconst C 3 dX11_prepare_207 (by decide) ?_
                                refine h_aload_n C 2 dX11_prepare_208 rfl rfl ?_
                                refine gfX11_51 C (ty_44 hY) dX11_prepare_209 ?_
                                refine h_imul C dX11_prepare_212 ?_
                                refine h_iload C 0 dX11_prepare_213 rfl ?_
                                refine h_iadd C dX11_prepare_215 ?_
                                refine h_iload_n C 1 dX11_prepare_216 rfl rfl ?_
                                refine h_i2l C dX11_prepare_217 ?_
                                refine h_aload_n C 2 dX11_prepare_218 rfl rfl ?_
                                refine gfX11_45 C (ty_44 hY) dX11_prepare_219 ?_
                                refine h_tref (b := 53) (rf_44_11 hY) ?_
                                refine h_iload C 0 dX11_prepare_222 rfl ?_
                                refine h_lald C (ty_53 hY) (vp32 (N := 3) (by decide) (by decide) (by decide)) dX11_prepare_224 ?_
                                show hW _ _ _ _ _ _ _ _ _ _ _ _ _ 225 [(4, .int 0), (3, .int rs), (0, .ref (ad G 44)), (1, .int i), (2, .int j)] [.long (gL σ8 53 0), .long rs.toInt64, .int ((3 * (gI σ8 44 13)) + 0), .ref (ad G 54)] σ8 0 0
                                refine h_lmul C dX11_prepare_225 ?_
                                refine h_last C _ (ty_54 hY) (t900z hFb.1 hFb.2) dX11_prepare_226 rfl ?_
                                refine h_iinc C [(4, .int 1), (3, .int rs), (0, .ref (ad G 44)), (1, .int i), (2, .int j)] 0 1 dX11_prepare_227 rfl rfl (by decide) rfl ?_
                                refine h_goto C 197 dX11_prepare_230 (by decide) ?_
                                refine h_iload C 0 dX11_prepare_197 rfl ?_
                                refine h_iconst C 3 dX11_prepare_199 (by decide) ?_
                                refine h_icmp_ge C 233 dX11_prepare_200 (by decide) (fun c_200 => ?_) (fun c_200 => ?_)
                                · exact absurd c_200 (by decide)
                                · refine h_aload_n C 2 dX11_prepare_203 rfl rfl ?_
                                  refine gfX11_54 C (ty_44 hY) dX11_prepare_204 ?_
                                  refine h_tref (b := 54) (rf_44_14 hY) ?_
                                  refine h_iconst C 3 dX11_prepare_207 (by decide) ?_
                                  refine h_aload_n C 2 dX11_prepare_208 rfl rfl ?_
                                  refine gfX11_51 C (ty_44 hY) dX11_prepare_209 ?_
                                  show hW _ _ _ _ _ _ _ _ _ _ _ _ _ 212 [(4, .int 1), (3, .int rs), (0, .ref (ad G 44)), (1, .int i), (2, .int j)] [.int (gI σ8 44 13), .int 3, .ref (ad G 54)] (sL σ8 54 ((3 * (gI σ8 44 13)) + 0).toNatClampNeg (rs.toInt64 * (gL σ8 53 0))) 0 0
                                  refine h_imul C dX11_prepare_212 ?_
                                  refine h_iload C 0 dX11_prepare_213 rfl ?_
                                  refine h_iadd C dX11_prepare_215 ?_
                                  refine h_iload_n C 1 dX11_prepare_216 rfl rfl ?_
                                  refine h_i2l C dX11_prepare_217 ?_
                                  refine h_aload_n C 2 dX11_prepare_218 rfl rfl ?_
                                  refine gfX11_45 C (ty_44 hY) dX11_prepare_219 ?_
                                  refine h_tref (b := 53) (rf_44_11 hY) ?_
                                  refine h_iload C 0 dX11_prepare_222 rfl ?_
                                  refine h_lald C (ty_53 hY) (vp32 (N := 3) (by decide) (by decide) (by decide)) dX11_prepare_224 ?_
                                  show hW _ _ _ _ _ _ _ _ _ _ _ _ _ 225 [(4, .int 1), (3, .int rs), (0, .ref (ad G 44)), (1, .int i), (2, .int j)] [.long (gL σ8 53 1), .long rs.toInt64, .int ((3 * (gI σ8 44 13)) + 1), .ref (ad G 54)] (sL σ8 54 ((3 * (gI σ8 44 13)) + 0).toNatClampNeg (rs.toInt64 * (gL σ8 53 0))) 0 0
                                  refine h_lmul C dX11_prepare_225 ?_
                                  refine h_last C _ (ty_54 hY) (t900 hFb.1 hFb.2).2.1 dX11_prepare_226 rfl ?_
                                  refine h_iinc C [(4, .int 2), (3, .int rs), (0, .ref (ad G 44)), (1, .int i), (2, .int j)] 0 2 dX11_prepare_227 rfl rfl (by decide) rfl ?_
                                  refine h_goto C 197 dX11_prepare_230 (by decide) ?_
                                  refine h_iload C 0 dX11_prepare_197 rfl ?_
                                  refine h_iconst C 3 dX11_prepare_199 (by decide) ?_
                                  refine h_icmp_ge C 233 dX11_prepare_200 (by decide) (fun c_200 => ?_) (fun c_200 => ?_)
                                  · exact absurd c_200 (by decide)
                                  · refine h_aload_n C 2 dX11_prepare_203 rfl rfl ?_
                                    refine gfX11_54 C (ty_44 hY) dX11_prepare_204 ?_
                                    refine h_tref (b := 54) (rf_44_14 hY) ?_
                                    refine h_iconst C 3 dX11_prepare_207 (by decide) ?_
                                    refine h_aload_n C 2 dX11_prepare_208 rfl rfl ?_
                                    refine gfX11_51 C (ty_44 hY) dX11_prepare_209 ?_
                                    show hW _ _ _ _ _ _ _ _ _ _ _ _ _ 212 [(4, .int 2), (3, .int rs), (0, .ref (ad G 44)), (1, .int i), (2, .int j)] [.int (gI σ8 44 13), .int 3, .ref (ad G 54)] (sL (sL σ8 54 ((3 * (gI σ8 44 13)) + 0).toNatClampNeg (rs.toInt64 * (gL σ8 53 0))) 54 ((3 * (gI σ8 44 13)) + 1).toNatClampNeg (rs.toInt64 * (gL σ8 53 1))) 0 0
                                    refine h_imul C dX11_prepare_212 ?_
                                    refine h_iload C 0 dX11_prepare_213 rfl ?_
                                    refine h_iadd C dX11_prepare_215 ?_
                                    refine h_iload_n C 1 dX11_prepare_216 rfl rfl ?_
                                    refine h_i2l C dX11_prepare_217 ?_
                                    refine h_aload_n C 2 dX11_prepare_218 rfl rfl ?_
                                    refine gfX11_45 C (ty_44 hY) dX11_prepare_219 ?_
                                    refine h_tref (b := 53) (rf_44_11 hY) ?_
                                    refine h_iload C 0 dX11_prepare_222 rfl ?_
                                    refine h_lald C (ty_53 hY) (vp32 (N := 3) (by decide) (by decide) (by decide)) dX11_prepare_224 ?_
                                    show hW _ _ _ _ _ _ _ _ _ _ _ _ _ 225 [(4, .int 2), (3, .int rs), (0, .ref (ad G 44)), (1, .int i), (2, .int j)] [.long (gL σ8 53 2), .long rs.toInt64, .int ((3 * (gI σ8 44 13)) + 2), .ref (ad G 54)] (sL (sL σ8 54 ((3 * (gI σ8 44 13)) + 0).toNatClampNeg (rs.toInt64 * (gL σ8 53 0))) 54 ((3 * (gI σ8 44 13)) + 1).toNatClampNeg (rs.toInt64 * (gL σ8 53 1))) 0 0
                                    refine h_lmul C dX11_prepare_225 ?_
                                    refine h_last C _ (ty_54 hY) (t900 hFb.1 hFb.2).2.2 dX11_prepare_226 rfl ?_
                                    refine h_iinc C [(4, .int 3), (3, .int rs), (0, .ref (ad G 44)), (1, .int i), (2, .int j)] 0 3 dX11_prepare_227 rfl rfl (by decide) rfl ?_
                                    refine h_goto C 197 dX11_prepare_230 (by decide) ?_
                                    refine h_iload C 0 dX11_prepare_197 rfl ?_
                                    refine h_iconst C 3 dX11_prepare_199 (by decide) ?_
                                    refine h_icmp_ge C 233 dX11_prepare_200 (by decide) (fun c_200 => ?_) (fun c_200 => ?_)
                                    · refine h_aload_n C 2 dX11_prepare_233 rfl rfl ?_
                                      refine h_dup C dX11_prepare_234 rfl ?_
                                      refine gfX11_51 C (ty_44 hY) dX11_prepare_235 ?_
                                      show hW _ _ _ _ _ _ _ _ _ _ _ _ _ 238 [(4, .int 3), (3, .int rs), (0, .ref (ad G 44)), (1, .int i), (2, .int j)] [.int (gI σ8 44 13), .ref (ad G 44)] (sL (sL (sL σ8 54 ((3 * (gI σ8 44 13)) + 0).toNatClampNeg (rs.toInt64 * (gL σ8 53 0))) 54 ((3 * (gI σ8 44 13)) + 1).toNatClampNeg (rs.toInt64 * (gL σ8 53 1))) 54 ((3 * (gI σ8 44 13)) + 2).toNatClampNeg (rs.toInt64 * (gL σ8 53 2))) 0 0
                                      refine h_iconst C 1 dX11_prepare_238 (by decide) ?_
                                      refine h_iadd C dX11_prepare_239 ?_
                                      refine pfX11_51 C (ty_44 hY) dX11_prepare_240 ?_
                                      obtain ⟨σ9, e9⟩ : ∃ z, z = (sI (sL (sL (sL σ8 54 ((3 * (gI σ8 44 13)) + 0).toNatClampNeg (rs.toInt64 * (gL σ8 53 0))) 54 ((3 * (gI σ8 44 13)) + 1).toNatClampNeg (rs.toInt64 * (gL σ8 53 1))) 54 ((3 * (gI σ8 44 13)) + 2).toNatClampNeg (rs.toInt64 * (gL σ8 53 2))) 44 13 ((gI σ8 44 13) + 1)) := ⟨_, rfl⟩
                                      rw [← e9]
                                      have h9 : σ9 = fcF σ8 rs := e9
                                      clear e9
                                      have hn9 : gI σ9 44 13 = gI σ8 44 13 + 1 := by rw [h9]; exact fcF_n
                                      have hf9 : frF σ5 σ9 := by rw [h9]; exact hf8.tr fcF_fr
                                      have ho9 : ∀ f, 0 ≤ f → f < gI σ8 44 13 → fc (gL σ9 54) f = fc (gL σ8 54) f := by rw [h9]; exact fcF_old hFb.1 hFb.2
                                      have hw9 : fc (gL σ9 54) (gI σ8 44 13) = sc3 rs (crR (gL σ5 52) i j) := by rw [h9, ← hc8]; exact fcF_new hFb.1 hFb.2
                                      clear h9
                                      show hW _ _ _ _ _ _ _ _ _ _ _ _ _ 243 [(4, .int 3), (3, .int rs), (0, .ref (ad G 44)), (1, .int i), (2, .int j)] [] σ9 0 0
                                      refine h_iinc C [(2, .int (j + 1)), (4, .int 3), (3, .int rs), (0, .ref (ad G 44)), (1, .int i)] 4 (j + 1) dX11_prepare_243 rfl rfl (by decide) rfl ?_
                                      refine h_goto C 157 dX11_prepare_246 (by decide) ?_
                                      refine h_sub [3, 4, 0] rfl ?_
                                      refine ih4 ((j + 1), σ9) ?_ ?_
                                      · refine ⟨(le_succ hI4.1 hjl).1, (le_succ hI4.1 hjl).2, hf9, ⟨?_, ?_⟩, ⟨?_, ?_⟩, ?_⟩
                                        · rw [hn9]; have h1 := hFb; clear C; grind
                                        · rw [hn9]; have h1 := hFb; have h2 := hF8; have h3 := hib; have h4 := hjb; clear C; grind
                                        · rw [hn9]; exact (fcJ_up hFb.2 ho9 hG8.1).1
                                        · rw [hn9]
                                          refine (AL_i hI4.1 hjl).mpr ⟨(fcJ_up hFb.2 ho9 hG8.1).2, ?_⟩
                                          intro _ s g1 _
                                          have e := sdQ_det hs g1
                                          subst e
                                          exact ⟨gI σ8 44 13, by have h1 := hFb; clear C; grind, Or.inl hw9⟩
                                        · rw [hn9]
                                          exact fcS_up hFb.1 hFb.2 ho9 hG8.2 ⟨i, j, rs, ⟨hI4.1, hjl, hil⟩, isB_1 ha c_168, hs, c_180, hw9⟩
                                      · exact tm_lt hjl
                                    · exact absurd c_200 (by decide)
                            · refine h_goto C 243 dX11_prepare_191 (by decide) ?_
                              refine h_iinc C [(2, .int (j + 1)), (3, .int rs), (0, .ref (ad G 44)), (1, .int i)] 3 (j + 1) dX11_prepare_243 rfl rfl (by decide) rfl ?_
                              refine h_goto C 157 dX11_prepare_246 (by decide) ?_
                              refine h_sub [2, 3, 0] rfl ?_
                              refine ih4 ((j + 1), σ8) ?_ ?_
                              · refine ⟨(le_succ hI4.1 hjl).1, (le_succ hI4.1 hjl).2, hf8, ⟨hFb.1, by have h2 := hF8; have h3 := hib; have h4 := hjb; clear C; grind⟩, ⟨hG8.1.1, (AL_i hI4.1 hjl).mpr ⟨hG8.1.2, ?_⟩⟩, hG8.2⟩
                                intro _ s g1 _
                                have e := sdQ_det hs g1
                                subst e
                                obtain ⟨f, h1, h2⟩ := isB_1 hfa c_188
                                exact ⟨f, h1, Or.inr h2⟩
                              · exact tm_lt hjl
                        · refine h_goto C 243 dX11_prepare_171 (by decide) ?_
                          refine h_iinc C [(2, .int (j + 1)), (0, .ref (ad G 44)), (1, .int i)] 2 (j + 1) dX11_prepare_243 rfl rfl (by decide) rfl ?_
                          refine h_goto C 157 dX11_prepare_246 (by decide) ?_
                          refine h_sub [1, 2, 0] rfl ?_
                          refine ih4 ((j + 1), σ8) ?_ ?_
                          · refine ⟨(le_succ hI4.1 hjl).1, (le_succ hI4.1 hjl).2, hf8, ⟨hFb.1, by have h2 := hF8; have h3 := hib; have h4 := hjb; clear C; grind⟩, ⟨hG8.1.1, (AL_i hI4.1 hjl).mpr ⟨hG8.1.2, ?_⟩⟩, hG8.2⟩
                            exact fun q => absurd q (isB_0 ha c_168)
                          · exact tm_lt hjl
                    · exact ⟨by decide, hI3.1, hI3.2.2.1, ⟨hI3.2.2.2.1.1, by have h1 := hI3.2.2.2.1.2; clear C; grind⟩, ⟨hI3.2.2.2.2.1, AL_0⟩, hI3.2.2.2.2.2⟩
              · refine ⟨by decide, hm0, frF.rf, by rw [h13]; decide, fun x y h => by grind, ?_⟩
                rw [h13]
                exact AL_0
            · have hcl : c < gI σ 44 1 := by rw [← hz]; exact Int32.not_le.mp c_32
              refine h_aload_n C 0 dX11_prepare_35 rfl rfl ?_
              refine gfX11_16 C (ty_44 hY) dX11_prepare_36 ?_
              refine h_tref (b := 45) (rf_44_2 hY) ?_
              refine h_iload_n C 1 dX11_prepare_39 rfl rfl ?_
              refine h_iald C (ty_45 hY) (vp32 (N := 10) hI1.1 (Int32.lt_of_lt_of_le hcl hN0.2) (by decide)) dX11_prepare_40 ?_
              refine h_iconst C 2 dX11_prepare_41 (by decide) ?_
              refine h_icmp_ne C 76 dX11_prepare_42 (by decide) (fun c_42 => ?_) (fun c_42 => ?_)
              · refine h_iconst C 0 dX11_prepare_76 (by decide) ?_
                refine h_istore_n C [(2, .int 0), (0, .ref (ad G 44)), (1, .int c)] dX11_prepare_77 rfl (by decide) rfl ?_
                refine h_sub [1, 2, 0] rfl ?_
                refine h_loop (α := Int32 × ha_St) (fun (pu, σ2) => 0 ≤ pu ∧ pu ≤ mPc σ c.toNatClampNeg ∧ frJ σ σ2 ∧ mR σ2 (puL σ c.toNatClampNeg ++ pL σ c.toNatClampNeg pu.toNatClampNeg) ∧ c3 σ2 = clL σ c.toNatClampNeg) (fun (pu, σ2) => tm (mPc σ c.toNatClampNeg) pu) (fun (pu, σ2) => [(0, .ref (ad G 44)), (1, .int c), (2, .int pu)]) (fun (pu, σ2) => []) (fun (pu, σ2) => σ2) (fun (pu, σ2) => 0) (fun (pu, σ2) => 0) ?_ (0, σ1) ?_
                · rintro ⟨pu, σ2⟩ hI2 ih2
                  show hW _ _ _ _ _ _ _ _ _ _ _ _ _ 78 [(0, .ref (ad G 44)), (1, .int c), (2, .int pu)] [] σ2 0 0
                  have hY : LY σ2 := hI2.2.2.1.LY hY0
                  refine h_iload_n C 2 dX11_prepare_78 rfl rfl ?_
                  refine h_aload_n C 0 dX11_prepare_79 rfl rfl ?_
                  refine h_iload_n C 1 dX11_prepare_80 rfl rfl ?_
                  refine h_callV C (m_X11_pushesOf hY (vp32 (N := 10) hI1.1 (Int32.lt_of_lt_of_le hcl hN0.2) (by decide))) caX11_145 kX11 (ty_44 hY) ⟨by decide, by decide, by decide, by decide⟩ rfl rfl (Nat.le_of_ble_eq_true rfl) dX11_prepare_81 ?_
                  rintro v σ' ⟨rfl, h2⟩; rw [h2]; clear h2; rw [frJ_pc hI2.2.2.1]
                  show hW _ _ _ _ _ _ _ _ _ _ _ _ _ 84 [(0, .ref (ad G 44)), (1, .int c), (2, .int pu)] [.int (mPc σ c.toNatClampNeg), .int pu] σ2 0 0
                  refine h_icmp_ge C 118 dX11_prepare_84 (by decide) (fun c_84 => ?_) (fun c_84 => ?_)
                  · refine h_iinc C [(1, .int (c + 1)), (0, .ref (ad G 44)), (2, .int pu)] 1 (c + 1) dX11_prepare_118 rfl rfl (by decide) rfl ?_
                    refine h_goto C 27 dX11_prepare_121 (by decide) ?_
                    refine h_sub [1, 0] rfl ?_
                    refine ih1 ((c + 1), σ2) ?_ ?_
                    · have hk : gI σ 45 c.toNatClampNeg ≠ 2 := fun q => c_42 ((frJ_k hI1.2.2.1).trans q)
                      have he := eq_end hI2.2.1 (Int32.not_lt.mpr c_84)
                      have hq := hI2.2.2.2
                      rw [he] at hq
                      refine ⟨(le_succ hI1.1 hcl).1, (le_succ hI1.1 hcl).2, hI2.2.2.1, ?_, ?_⟩
                      · rw [tn_succ hI1.1 hcl]
                        unfold puL
                        rw [if_neg hk]
                        exact hq.1
                      · rw [tn_succ hI1.1 hcl]
                        unfold clL
                        rw [if_neg hk]
                        exact hq.2
                    · exact tm_lt hcl
                  · have hpl := Int32.not_le.mp c_84
                    have hlen : (puL σ c.toNatClampNeg ++ pL σ c.toNatClampNeg pu.toNatClampNeg).length < 30 := by
                      have h1 := puL_len (σ := σ) c.toNatClampNeg
                      have h2 := tn_lt (N := 10) hI1.1 (Int32.lt_of_lt_of_le hcl hN0.2)
                      have h3 := tn_lt hI2.1 hpl
                      have h4 := (mPc_b (σ := σ) (c := c.toNatClampNeg)).2.2
                      rw [show (10 : Int32).toNatClampNeg = 10 by decide] at h2
                      rw [List.length_append, pL_len]
                      omega
                    refine h_aload_n C 0 dX11_prepare_87 rfl rfl ?_
                    refine h_aload_n C 0 dX11_prepare_88 rfl rfl ?_
                    refine h_iload_n C 1 dX11_prepare_89 rfl rfl ?_
                    refine h_iload_n C 2 dX11_prepare_90 rfl rfl ?_
                    refine h_iconst C 0 dX11_prepare_91 (by decide) ?_
                    refine h_callV C (m_X11_pushed hY (vp32 (N := 10) hI1.1 (Int32.lt_of_lt_of_le hcl hN0.2) (by decide))) caX11_165 kX11 (ty_44 hY) ⟨by decide, by decide, by decide, by decide⟩ rfl rfl (Nat.le_of_ble_eq_true rfl) dX11_prepare_92 ?_
                    rintro v σ' ⟨rfl, h2⟩; rw [h2]; clear h2; rw [frJ_ps hI2.2.2.1]
                    show hW _ _ _ _ _ _ _ _ _ _ _ _ _ 95 [(0, .ref (ad G 44)), (1, .int c), (2, .int pu)] [.long (psV σ c.toNatClampNeg pu 0), .ref (ad G 44)] σ2 0 0
                    refine h_aload_n C 0 dX11_prepare_95 rfl rfl ?_
                    refine h_iload_n C 1 dX11_prepare_96 rfl rfl ?_
                    refine h_iload_n C 2 dX11_prepare_97 rfl rfl ?_
                    refine h_iconst C 1 dX11_prepare_98 (by decide) ?_
                    refine h_callV C (m_X11_pushed hY (vp32 (N := 10) hI1.1 (Int32.lt_of_lt_of_le hcl hN0.2) (by decide))) caX11_165 kX11 (ty_44 hY) ⟨by decide, by decide, by decide, by decide⟩ rfl rfl (Nat.le_of_ble_eq_true rfl) dX11_prepare_99 ?_
                    rintro v σ' ⟨rfl, h2⟩; rw [h2]; clear h2; rw [frJ_ps hI2.2.2.1]
                    show hW _ _ _ _ _ _ _ _ _ _ _ _ _ 102 [(0, .ref (ad G 44)), (1, .int c), (2, .int pu)] [.long (psV σ c.toNatClampNeg pu 1), .long (psV σ c.toNatClampNeg pu 0), .ref (ad G 44)] σ2 0 0
                    refine h_aload_n C 0 dX11_prepare_102 rfl rfl ?_
                    refine h_iload_n C 1 dX11_prepare_103 rfl rfl ?_
                    refine h_iload_n C 2 dX11_prepare_104 rfl rfl ?_
                    refine h_iconst C 2 dX11_prepare_105 (by decide) ?_
                    refine h_callV C (m_X11_pushed hY (vp32 (N := 10) hI1.1 (Int32.lt_of_lt_of_le hcl hN0.2) (by decide))) caX11_165 kX11 (ty_44 hY) ⟨by decide, by decide, by decide, by decide⟩ rfl rfl (Nat.le_of_ble_eq_true rfl) dX11_prepare_106 ?_
                    rintro v σ' ⟨rfl, h2⟩; rw [h2]; clear h2; rw [frJ_ps hI2.2.2.1]
                    show hW _ _ _ _ _ _ _ _ _ _ _ _ _ 109 [(0, .ref (ad G 44)), (1, .int c), (2, .int pu)] [.long (psV σ c.toNatClampNeg pu 2), .long (psV σ c.toNatClampNeg pu 1), .long (psV σ c.toNatClampNeg pu 0), .ref (ad G 44)] σ2 0 0
                    refine h_callV C (m_X11_add hY hI2.2.2.2.1.b.1 (hI2.2.2.2.1.b' hlen)) caX11_169 kX11 (ty_44 hY) ⟨by decide, by decide, by decide, by decide⟩ rfl rfl (Nat.le_of_ble_eq_true rfl) dX11_prepare_109 ?_
                    rintro v σ' ⟨rfl, h2⟩; rw [h2]; clear h2
                    show hW _ _ _ _ _ _ _ _ _ _ _ _ _ 112 [(0, .ref (ad G 44)), (1, .int c), (2, .int pu)] [] (mAdd σ2 (psV σ c.toNatClampNeg pu 0) (psV σ c.toNatClampNeg pu 1) (psV σ c.toNatClampNeg pu 2)) 0 0
                    refine h_iinc C [(2, .int (pu + 1)), (0, .ref (ad G 44)), (1, .int c)] 2 (pu + 1) dX11_prepare_112 rfl rfl (by decide) rfl ?_
                    refine h_goto C 78 dX11_prepare_115 (by decide) ?_
                    refine h_sub [1, 2, 0] rfl ?_
                    refine ih2 ((pu + 1), (mAdd σ2 (psV σ c.toNatClampNeg pu 0) (psV σ c.toNatClampNeg pu 1) (psV σ c.toNatClampNeg pu 2))) ?_ ?_
                    · refine ⟨(le_succ hI2.1 hpl).1, (le_succ hI2.1 hpl).2, hI2.2.2.1.tr mAdd_J, ?_, hI2.2.2.2.2⟩
                      rw [tn_succ hI2.1 hpl]
                      have h := mR_add (x := psV σ c.toNatClampNeg pu 0) (y := psV σ c.toNatClampNeg pu 1) (z := psV σ c.toNatClampNeg pu 2) hI2.2.2.2.1 hlen
                      rw [List.append_assoc] at h
                      unfold pL
                      rw [nI_tn hI2.1]
                      exact h
                    · exact tm_lt hpl
                · refine ⟨by decide, Int32.le_trans (by decide) mPc_b.1, hI1.2.2.1, ?_, hI1.2.2.2.2⟩
                  rw [tn_0]
                  unfold pL
                  rw [List.append_nil]
                  exact hI1.2.2.2.1
              · refine h_iconst C 0 dX11_prepare_45 (by decide) ?_
                refine h_istore_n C [(2, .int 0), (0, .ref (ad G 44)), (1, .int c)] dX11_prepare_46 rfl (by decide) rfl ?_
                refine h_iload_n C 0 dX11_prepare_47 rfl rfl ?_
                refine h_iconst C 3 dX11_prepare_48 (by decide) ?_
                refine h_icmp_ge C 73 dX11_prepare_49 (by decide) (fun c_49 => ?_) (fun c_49 => ?_)
                · exact absurd c_49 (by decide)
                · refine h_aload_n C 1 dX11_prepare_52 rfl rfl ?_
                  refine gfX11_57 C (ty_44 hY) dX11_prepare_53 ?_
                  refine h_tref (b := 55) (rf_44_15 hY) ?_
                  refine h_iload_n C 0 dX11_prepare_56 rfl rfl ?_
                  refine h_dup2 C dX11_prepare_57 rfl rfl ?_
                  refine h_lald C (ty_55 hY) (vp32 (N := 3) (by decide) (by decide) (by decide)) dX11_prepare_58 ?_
                  show hW _ _ _ _ _ _ _ _ _ _ _ _ _ 59 [(2, .int 0), (0, .ref (ad G 44)), (1, .int c)] [.long (gL σ1 55 0), .int 0, .ref (ad G 55)] σ1 0 0
                  refine h_aload_n C 1 dX11_prepare_59 rfl rfl ?_
                  refine h_iload_n C 2 dX11_prepare_60 rfl rfl ?_
                  refine h_iload_n C 0 dX11_prepare_61 rfl rfl ?_
                  refine h_callV C (m_X11_direct (σ := σ1) (hY.same rfl rfl rfl) (vp32 (N := 10) hI1.1 (Int32.lt_of_lt_of_le hcl hN0.2) (by decide))) caX11_161 kX11 (ty_44 hY) ⟨by decide, by decide, by decide, by decide⟩ rfl rfl (Nat.le_of_ble_eq_true rfl) dX11_prepare_62 ?_
                  rintro v σ' ⟨rfl, h2⟩; rw [h2]; clear h2; rw [show dirV σ1 c.toNatClampNeg 0 = dirV σ c.toNatClampNeg 0 from frJ_dir hI1.2.2.1]
                  show hW _ _ _ _ _ _ _ _ _ _ _ _ _ 65 [(2, .int 0), (0, .ref (ad G 44)), (1, .int c)] [.long (dirV σ c.toNatClampNeg 0), .long (gL σ1 55 0), .int 0, .ref (ad G 55)] σ1 0 0
                  refine h_ladd C dX11_prepare_65 ?_
                  refine h_last C _ (ty_55 hY) (vp32 (N := 3) (by decide) (by decide) (by decide)) dX11_prepare_66 rfl ?_
                  show hW _ _ _ _ _ _ _ _ _ _ _ _ _ 67 [(2, .int 0), (0, .ref (ad G 44)), (1, .int c)] [] (sL σ1 55 0 ((gL σ1 55 0) + (dirV σ c.toNatClampNeg 0))) 0 0
                  refine h_iinc C [(2, .int 1), (0, .ref (ad G 44)), (1, .int c)] 0 1 dX11_prepare_67 rfl rfl (by decide) rfl ?_
                  refine h_goto C 47 dX11_prepare_70 (by decide) ?_
                  refine h_iload_n C 0 dX11_prepare_47 rfl rfl ?_
                  refine h_iconst C 3 dX11_prepare_48 (by decide) ?_
                  refine h_icmp_ge C 73 dX11_prepare_49 (by decide) (fun c_49 => ?_) (fun c_49 => ?_)
                  · exact absurd c_49 (by decide)
                  · refine h_aload_n C 1 dX11_prepare_52 rfl rfl ?_
                    refine gfX11_57 C (ty_44 hY) dX11_prepare_53 ?_
                    refine h_tref (b := 55) (rf_44_15 hY) ?_
                    refine h_iload_n C 0 dX11_prepare_56 rfl rfl ?_
                    refine h_dup2 C dX11_prepare_57 rfl rfl ?_
                    refine h_lald C (ty_55 hY) (vp32 (N := 3) (by decide) (by decide) (by decide)) dX11_prepare_58 ?_
                    show hW _ _ _ _ _ _ _ _ _ _ _ _ _ 59 [(2, .int 1), (0, .ref (ad G 44)), (1, .int c)] [.long (gL σ1 55 1), .int 1, .ref (ad G 55)] (sL σ1 55 0 ((gL σ1 55 0) + (dirV σ c.toNatClampNeg 0))) 0 0
                    refine h_aload_n C 1 dX11_prepare_59 rfl rfl ?_
                    refine h_iload_n C 2 dX11_prepare_60 rfl rfl ?_
                    refine h_iload_n C 0 dX11_prepare_61 rfl rfl ?_
                    refine h_callV C (m_X11_direct (σ := (sL σ1 55 0 ((gL σ1 55 0) + (dirV σ c.toNatClampNeg 0)))) (hY.same rfl rfl rfl) (vp32 (N := 10) hI1.1 (Int32.lt_of_lt_of_le hcl hN0.2) (by decide))) caX11_161 kX11 (ty_44 hY) ⟨by decide, by decide, by decide, by decide⟩ rfl rfl (Nat.le_of_ble_eq_true rfl) dX11_prepare_62 ?_
                    rintro v σ' ⟨rfl, h2⟩; rw [h2]; clear h2; rw [show dirV (sL σ1 55 0 ((gL σ1 55 0) + (dirV σ c.toNatClampNeg 0))) c.toNatClampNeg 1 = dirV σ c.toNatClampNeg 1 from frJ_dir hI1.2.2.1]
                    show hW _ _ _ _ _ _ _ _ _ _ _ _ _ 65 [(2, .int 1), (0, .ref (ad G 44)), (1, .int c)] [.long (dirV σ c.toNatClampNeg 1), .long (gL σ1 55 1), .int 1, .ref (ad G 55)] (sL σ1 55 0 ((gL σ1 55 0) + (dirV σ c.toNatClampNeg 0))) 0 0
                    refine h_ladd C dX11_prepare_65 ?_
                    refine h_last C _ (ty_55 hY) (vp32 (N := 3) (by decide) (by decide) (by decide)) dX11_prepare_66 rfl ?_
                    show hW _ _ _ _ _ _ _ _ _ _ _ _ _ 67 [(2, .int 1), (0, .ref (ad G 44)), (1, .int c)] [] (sL (sL σ1 55 0 ((gL σ1 55 0) + (dirV σ c.toNatClampNeg 0))) 55 1 ((gL σ1 55 1) + (dirV σ c.toNatClampNeg 1))) 0 0
                    refine h_iinc C [(2, .int 2), (0, .ref (ad G 44)), (1, .int c)] 0 2 dX11_prepare_67 rfl rfl (by decide) rfl ?_
                    refine h_goto C 47 dX11_prepare_70 (by decide) ?_
                    refine h_iload_n C 0 dX11_prepare_47 rfl rfl ?_
                    refine h_iconst C 3 dX11_prepare_48 (by decide) ?_
                    refine h_icmp_ge C 73 dX11_prepare_49 (by decide) (fun c_49 => ?_) (fun c_49 => ?_)
                    · exact absurd c_49 (by decide)
                    · refine h_aload_n C 1 dX11_prepare_52 rfl rfl ?_
                      refine gfX11_57 C (ty_44 hY) dX11_prepare_53 ?_
                      refine h_tref (b := 55) (rf_44_15 hY) ?_
                      refine h_iload_n C 0 dX11_prepare_56 rfl rfl ?_
                      refine h_dup2 C dX11_prepare_57 rfl rfl ?_
                      refine h_lald C (ty_55 hY) (vp32 (N := 3) (by decide) (by decide) (by decide)) dX11_prepare_58 ?_
                      show hW _ _ _ _ _ _ _ _ _ _ _ _ _ 59 [(2, .int 2), (0, .ref (ad G 44)), (1, .int c)] [.long (gL σ1 55 2), .int 2, .ref (ad G 55)] (sL (sL σ1 55 0 ((gL σ1 55 0) + (dirV σ c.toNatClampNeg 0))) 55 1 ((gL σ1 55 1) + (dirV σ c.toNatClampNeg 1))) 0 0
                      refine h_aload_n C 1 dX11_prepare_59 rfl rfl ?_
                      refine h_iload_n C 2 dX11_prepare_60 rfl rfl ?_
                      refine h_iload_n C 0 dX11_prepare_61 rfl rfl ?_
                      refine h_callV C (m_X11_direct (σ := (sL (sL σ1 55 0 ((gL σ1 55 0) + (dirV σ c.toNatClampNeg 0))) 55 1 ((gL σ1 55 1) + (dirV σ c.toNatClampNeg 1)))) (hY.same rfl rfl rfl) (vp32 (N := 10) hI1.1 (Int32.lt_of_lt_of_le hcl hN0.2) (by decide))) caX11_161 kX11 (ty_44 hY) ⟨by decide, by decide, by decide, by decide⟩ rfl rfl (Nat.le_of_ble_eq_true rfl) dX11_prepare_62 ?_
                      rintro v σ' ⟨rfl, h2⟩; rw [h2]; clear h2; rw [show dirV (sL (sL σ1 55 0 ((gL σ1 55 0) + (dirV σ c.toNatClampNeg 0))) 55 1 ((gL σ1 55 1) + (dirV σ c.toNatClampNeg 1))) c.toNatClampNeg 2 = dirV σ c.toNatClampNeg 2 from frJ_dir hI1.2.2.1]
                      show hW _ _ _ _ _ _ _ _ _ _ _ _ _ 65 [(2, .int 2), (0, .ref (ad G 44)), (1, .int c)] [.long (dirV σ c.toNatClampNeg 2), .long (gL σ1 55 2), .int 2, .ref (ad G 55)] (sL (sL σ1 55 0 ((gL σ1 55 0) + (dirV σ c.toNatClampNeg 0))) 55 1 ((gL σ1 55 1) + (dirV σ c.toNatClampNeg 1))) 0 0
                      refine h_ladd C dX11_prepare_65 ?_
                      refine h_last C _ (ty_55 hY) (vp32 (N := 3) (by decide) (by decide) (by decide)) dX11_prepare_66 rfl ?_
                      show hW _ _ _ _ _ _ _ _ _ _ _ _ _ 67 [(2, .int 2), (0, .ref (ad G 44)), (1, .int c)] [] (sL (sL (sL σ1 55 0 ((gL σ1 55 0) + (dirV σ c.toNatClampNeg 0))) 55 1 ((gL σ1 55 1) + (dirV σ c.toNatClampNeg 1))) 55 2 ((gL σ1 55 2) + (dirV σ c.toNatClampNeg 2))) 0 0
                      refine h_iinc C [(2, .int 3), (0, .ref (ad G 44)), (1, .int c)] 0 3 dX11_prepare_67 rfl rfl (by decide) rfl ?_
                      refine h_goto C 47 dX11_prepare_70 (by decide) ?_
                      refine h_iload_n C 0 dX11_prepare_47 rfl rfl ?_
                      refine h_iconst C 3 dX11_prepare_48 (by decide) ?_
                      refine h_icmp_ge C 73 dX11_prepare_49 (by decide) (fun c_49 => ?_) (fun c_49 => ?_)
                      · refine h_goto C 118 dX11_prepare_73 (by decide) ?_
                        refine h_iinc C [(1, .int (c + 1)), (2, .int 3), (0, .ref (ad G 44))] 2 (c + 1) dX11_prepare_118 rfl rfl (by decide) rfl ?_
                        refine h_goto C 27 dX11_prepare_121 (by decide) ?_
                        refine h_sub [2, 0] rfl ?_
                        refine ih1 ((c + 1), (sL (sL (sL σ1 55 0 ((gL σ1 55 0) + (dirV σ c.toNatClampNeg 0))) 55 1 ((gL σ1 55 1) + (dirV σ c.toNatClampNeg 1))) 55 2 ((gL σ1 55 2) + (dirV σ c.toNatClampNeg 2)))) ?_ ?_
                        · have hk : gI σ 45 c.toNatClampNeg = 2 := (frJ_k hI1.2.2.1).symm.trans c_42
                          refine ⟨(le_succ hI1.1 hcl).1, (le_succ hI1.1 hcl).2, ((hI1.2.2.1.tr (frJ_sL (by omega) (by omega))).tr (frJ_sL (by omega) (by omega))).tr (frJ_sL (by omega) (by omega)), ?_, ?_⟩
                          · rw [tn_succ hI1.1 hcl]
                            unfold puL
                            rw [if_pos hk, List.append_nil]
                            exact mR_sL (mR_sL (mR_sL hI1.2.2.2.1 (by omega)) (by omega)) (by omega)
                          · rw [tn_succ hI1.1 hcl]
                            unfold clL
                            rw [if_pos hk, ← hI1.2.2.2.2]
                            rfl
                        · exact tm_lt hcl
                      · exact absurd c_49 (by decide)
          · refine ⟨by decide, hN0.1, ((((frJ_sI (by unfold scJ; omega)).tr (frJ_sL (by omega) (by omega))).tr (frJ_sL (by omega) (by omega))).tr (frJ_sL (by omega) (by omega))), ?_, rfl⟩
            exact mR_sL (mR_sL (mR_sL mR_0 (by omega)) (by omega)) (by omega)
        · exact absurd c_9 (by decide)
