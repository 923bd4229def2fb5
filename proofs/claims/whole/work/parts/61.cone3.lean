/-! ===== mathematics: a cone of rank 3, by its sides ===== -/
def r3 (W : Nat → V3) (n : Nat) : Prop := ∃ i j k, i < n ∧ j < n ∧ k < n ∧ vd (vc (W i) (W j)) (W k) ≠ 0
def spn (W : Nat → V3) (n : Nat) : Prop := ∀ N, N ≠ v0 → ∃ k, k < n ∧ vd N (W k) ≠ 0
theorem r3_spn {W : Nat → V3} {n : Nat} (h : r3 W n) : spn W n := by
  intro N hN
  obtain ⟨i, j, k, hi, hj, hk, hd⟩ := h
  refine Classical.byContradiction (fun q => hd ?_)
  have z : ∀ k, k < n → vd (W k) N = 0 := fun k hk => by rw [vd_comm]; exact Classical.byContradiction (fun q2 => q ⟨k, hk, q2⟩)
  exact det_dep hN (z i hi) (z j hj) (z k hk)
def FF (W : Nat → V3) (n : Nat) (g : V3) : Prop := ∀ i j, i < n → j < n → vc (W i) (W j) ≠ v0 → (∀ k, k < n → 0 ≤ vd (vc (W i) (W j)) (W k)) → 0 ≤ vd (vc (W i) (W j)) g
def allP (W : Nat → V3) (n : Nat) (c : V3) : Prop := ∀ k, k < n → 0 ≤ vd c (W k)
def allM (W : Nat → V3) (n : Nat) (c : V3) : Prop := ∀ k, k < n → vd c (W k) ≤ 0
theorem allM_n {W : Nat → V3} {n : Nat} {c : V3} : allM W n c ↔ allP W n (vn c) := by
  constructor
  · intro h k hk; rw [vd_n]; have := h k hk; omega
  · intro h k hk; have := h k hk; rw [vd_n] at this; omega
def osd (W : Nat → V3) (n : Nat) (c : V3) (Ns Ns' : List V3) : Prop := (allP W n c ∧ Ns' = Ns ++ [c]) ∨ (¬ allP W n c ∧ allM W n c ∧ Ns' = Ns ++ [vn c]) ∨ (¬ allP W n c ∧ ¬ allM W n c ∧ Ns' = Ns)
def onb (W : Nat → V3) (i j : Nat) (Ns : List V3) : Prop := ∃ N, N ∈ Ns ∧ vd N (W i) = 0 ∧ vd N (W j) = 0
def pst (W : Nat → V3) (n i j : Nat) (Ns Ns' : List V3) : Prop := (onb W i j Ns ∧ Ns' = Ns) ∨ (¬ onb W i j Ns ∧ vc (W i) (W j) = v0 ∧ Ns' = Ns) ∨ (¬ onb W i j Ns ∧ vc (W i) (W j) ≠ v0 ∧ osd W n (vc (W i) (W j)) Ns Ns')
def pIv (W : Nat → V3) (n : Nat) (P : Nat → Nat → Prop) (Ns : List V3) : Prop := (∀ N, N ∈ Ns → fct W n N) ∧ List.Pairwise (fun a b => vc a b ≠ v0) Ns ∧ ∀ i j, P i j → vc (W i) (W j) ≠ v0 → (allP W n (vc (W i) (W j)) ∨ allM W n (vc (W i) (W j))) → onb W i j Ns
theorem onb_app {W : Nat → V3} {i j : Nat} {Ns Ms : List V3} (h : onb W i j Ns) : onb W i j (Ns ++ Ms) := by
  obtain ⟨N, h1, h2⟩ := h
  exact ⟨N, List.mem_append_left _ h1, h2⟩
theorem vd_vn0 {c a : V3} (h : vd c a = 0) : vd (vn c) a = 0 := by rw [vd_n, h]; rfl
theorem pIv_add {W : Nat → V3} {n i j : Nat} {P : Nat → Nat → Prop} {Ns : List V3} {c : V3} (hs : spn W n) (hij : i < j) (hj : j < n) (h : pIv W n P Ns) (hb : ¬ onb W i j Ns) (hc : vc (W i) (W j) ≠ v0)
    (c0 : c ≠ v0) (ci : vd c (W i) = 0) (cj : vd c (W j) = 0) (ca : allP W n c) : pIv W n (fun a b => P a b ∨ (a = i ∧ b = j)) (Ns ++ [c]) := by
  obtain ⟨h1, h2, h3⟩ := h
  refine ⟨fun N hN => ?_, ?_, fun a b hP ha hs' => ?_⟩
  · rcases List.mem_append.mp hN with q | q
    · exact h1 N q
    · rw [List.mem_singleton.mp q]
      exact ⟨ca, hs c c0, i, j, hij, hj, ci, cj, hc⟩
  · refine List.pairwise_append.mpr ⟨h2, List.pairwise_singleton _ _, fun N hN M hM q => hb ⟨N, hN, ?_⟩⟩
    rw [List.mem_singleton.mp hM] at q
    have e1 := par_dot (g := W i) q
    have e2 := par_dot (g := W j) q
    rw [ci, Int.mul_zero] at e1
    rw [cj, Int.mul_zero] at e2
    have hp := vd_pos c0
    exact ⟨(Int.mul_eq_zero.mp e1).resolve_left (by omega), (Int.mul_eq_zero.mp e2).resolve_left (by omega)⟩
  · rcases hP with hP | ⟨rfl, rfl⟩
    · exact onb_app (h3 a b hP ha hs')
    · exact ⟨c, List.mem_append_right _ List.mem_cons_self, ci, cj⟩
theorem pIv_same {W : Nat → V3} {n i j : Nat} {P : Nat → Nat → Prop} {Ns : List V3} (h : pIv W n P Ns) (hb : vc (W i) (W j) ≠ v0 → (allP W n (vc (W i) (W j)) ∨ allM W n (vc (W i) (W j))) → onb W i j Ns) : pIv W n (fun a b => P a b ∨ (a = i ∧ b = j)) Ns := by
  refine ⟨h.1, h.2.1, fun a b hP ha hs' => ?_⟩
  rcases hP with hP | ⟨rfl, rfl⟩
  · exact h.2.2 a b hP ha hs'
  · exact hb ha hs'
theorem pst_inv {W : Nat → V3} {n i j : Nat} {P : Nat → Nat → Prop} {Ns Ns' : List V3} (hs : spn W n) (hij : i < j) (hj : j < n) (h : pIv W n P Ns) (g : pst W n i j Ns Ns') : pIv W n (fun a b => P a b ∨ (a = i ∧ b = j)) Ns' := by
  rcases g with ⟨g1, rfl⟩ | ⟨g1, g2, rfl⟩ | ⟨g1, g2, g3⟩
  · exact pIv_same h (fun _ _ => g1)
  · exact pIv_same h (fun q => absurd g2 q)
  · rcases g3 with ⟨q1, rfl⟩ | ⟨q1, q2, rfl⟩ | ⟨q1, q2, rfl⟩
    · exact pIv_add hs hij hj h g1 g2 g2 (vc_l _ _) (vc_r _ _) q1
    · exact pIv_add hs hij hj h g1 g2 (vn_ne g2) (vd_vn0 (vc_l _ _)) (vd_vn0 (vc_r _ _)) (allM_n.mp q2)
    · exact pIv_same h (fun _ q => q.elim (fun z => absurd z q1) (fun z => absurd z q2))
theorem pIv_len {W : Nat → V3} {n : Nat} {P : Nat → Nat → Prop} {Ns : List V3} (hW : ∀ k, k < n → W k ≠ v0) (h : pIv W n P Ns) : Ns.length ≤ n := by
  refine fct_count (N := fun k => Ns.getD k v0) hW (fun k hk => ?_) (fun k l hkl hl => ?_)
  · refine h.1 _ ?_
    simp only [List.getD_eq_getElem?_getD, List.getElem?_eq_getElem hk, Option.getD_some]
    exact List.getElem_mem hk
  · have hk : k < Ns.length := by omega
    simp only [List.getD_eq_getElem?_getD, List.getElem?_eq_getElem hk, List.getElem?_eq_getElem hl, Option.getD_some]
    exact (List.pairwise_iff_getElem.mp h.2.1) k l hk hl hkl
/-- along a side: the same plane, the same way -/
theorem same_way {W : Nat → V3} {n : Nat} {N c g : V3} (hp : vc N c = v0) (hc : c ≠ v0) (hN : allP W n N) (hz : ∃ k, k < n ∧ vd N (W k) ≠ 0) (ha : allP W n c) : 0 < vd N c := by
  obtain ⟨k, hk, hne⟩ := hz
  have e := par_dot (g := W k) hp
  have h1 := hN k hk
  have h2 := ha k hk
  have h3 := vd_pos hc
  have h4 := Int.mul_pos h3 (show 0 < vd N (W k) by omega)
  rw [e] at h4
  refine Classical.byContradiction (fun q => ?_)
  have := Int.mul_nonpos_of_nonpos_of_nonneg (show vd N c ≤ 0 by omega) h2
  omega
theorem sgn_of {a b x y : Int} (ha : 0 < a) (hb : 0 < b) (e : a * x = b * y) (hx : 0 ≤ x) : 0 ≤ y := by
  refine Classical.byContradiction (fun q => ?_)
  have h1 := Int.mul_nonneg (Int.le_of_lt ha) hx
  have h2 := Int.mul_neg_of_pos_of_neg hb (show y < 0 by omega)
  omega
theorem pIv_FF {W : Nat → V3} {n : Nat} {P : Nat → Nat → Prop} {Ns : List V3} (hP : ∀ i j, i < j → j < n → P i j) (h : pIv W n P Ns) (g : V3) : (∀ N, N ∈ Ns → 0 ≤ vd N g) ↔ FF W n g := by
  constructor
  · intro hg i j hi hj hc ha
    have ho : onb W i j Ns := by
      rcases Nat.lt_or_ge i j with q | q
      · exact h.2.2 i j (hP i j q hj) hc (Or.inl ha)
      · have hne : i ≠ j := fun z => hc (by rw [z]; exact vc_self _)
        obtain ⟨N, a, b, c⟩ := h.2.2 j i (hP j i (by omega) hi) (vc_sw hc) (Or.inr (allM_n.mpr (by rw [← vc_anti]; exact ha)))
        exact ⟨N, a, c, b⟩
    obtain ⟨N, hN, z1, z2⟩ := ho
    have hp : vc N (vc (W i) (W j)) = v0 := par_of z1 z2
    have f := h.1 N hN
    have hpos := same_way (g := g) hp hc f.1 f.2.1 ha
    exact sgn_of (vd_pos hc) hpos (par_dot hp) (hg N hN)
  · intro hF N hN
    obtain ⟨f1, f2, i, j, hij, hj, z1, z2, hc⟩ := h.1 N hN
    have hp : vc N (vc (W i) (W j)) = v0 := par_of z1 z2
    have hN0 : N ≠ v0 := by
      intro q
      obtain ⟨k, -, hk⟩ := f2
      exact hk (by rw [q]; unfold vd v0; grind)
    have hnz := par_nz hp hN0 hc
    have hpp := vd_pos hN0
    have hcc := vd_pos hc
    have hsw : vc (vc (W i) (W j)) N = v0 := by rw [vc_anti, hp]; rfl
    rcases Int.lt_or_gt_of_ne hnz with q | q
    · have hc' : vc (W j) (W i) ≠ v0 := vc_sw hc
      have e : vc (W j) (W i) = vn (vc (W i) (W j)) := vc_anti _ _
      have ha : allP W n (vc (W j) (W i)) := by
        intro k hk
        rw [e, vd_n]
        have e2 := par_dot (g := W k) hsw
        rw [vd_comm] at e2
        have h1 := f1 k hk
        have := sgn_of (a := -vd N (vc (W i) (W j))) (b := vd N N) (x := vd N (W k)) (y := -vd (vc (W i) (W j)) (W k)) (by omega) hpp (by rw [Int.neg_mul, Int.mul_neg, e2, vd_comm (vc (W i) (W j)) N]) h1
        exact this
      have h2 := hF j i hj (by omega) hc' ha
      rw [e, vd_n] at h2
      have e3 := par_dot (g := g) hp
      exact sgn_of (a := -vd N (vc (W i) (W j))) (b := vd (vc (W i) (W j)) (vc (W i) (W j))) (x := -vd (vc (W i) (W j)) g) (y := vd N g) (by omega) hcc (by rw [e3]; grind) h2
    · have ha : allP W n (vc (W i) (W j)) := by
        intro k hk
        have e2 := par_dot (g := W k) hsw
        exact sgn_of (a := vd (vc (W i) (W j)) N) (b := vd N N) (by rw [vd_comm]; exact q) hpp e2.symm (f1 k hk)
      have h2 := hF i j (by omega) hj hc ha
      have e3 := par_dot (g := g) hp
      exact sgn_of (a := vd N (vc (W i) (W j))) q hcc e3.symm h2
/-- no side: no pair bears one -/
theorem pIv_nil {W : Nat → V3} {n : Nat} {P : Nat → Nat → Prop} {Ns : List V3} (hP : ∀ i j, i < j → j < n → P i j) (h : pIv W n P Ns) : Ns = [] ↔ ∀ i j, i < j → j < n → vc (W i) (W j) ≠ v0 → ¬ allP W n (vc (W i) (W j)) ∧ ¬ allM W n (vc (W i) (W j)) := by
  constructor
  · intro hn i j hij hj hc
    have no : ¬ onb W i j Ns := by
      rintro ⟨N, q, -⟩
      rw [hn] at q
      exact absurd q List.not_mem_nil
    exact ⟨fun q => no (h.2.2 i j (hP i j hij hj) hc (Or.inl q)), fun q => no (h.2.2 i j (hP i j hij hj) hc (Or.inr q))⟩
  · intro hq
    cases hNs : Ns with
    | nil => rfl
    | cons N T =>
      exfalso
      obtain ⟨f1, f2, i, j, hij, hj, z1, z2, hc⟩ := h.1 N (by rw [hNs]; exact List.mem_cons_self)
      have hp : vc N (vc (W i) (W j)) = v0 := par_of z1 z2
      have hN0 : N ≠ v0 := by
        intro q
        obtain ⟨k, -, hk⟩ := f2
        exact hk (by rw [q]; unfold vd v0; grind)
      have hnz := par_nz hp hN0 hc
      have hpp := vd_pos hN0
      have hsw : vc (vc (W i) (W j)) N = v0 := by rw [vc_anti, hp]; rfl
      have hno := hq i j hij hj hc
      rcases Int.lt_or_gt_of_ne hnz with q | q
      · refine hno.2 (fun k hk => ?_)
        have e2 := par_dot (g := W k) hsw
        rw [vd_comm] at e2
        have := sgn_of (a := -vd N (vc (W i) (W j))) (b := vd N N) (x := vd N (W k)) (y := -vd (vc (W i) (W j)) (W k)) (by omega) hpp (by rw [Int.neg_mul, Int.mul_neg, e2, vd_comm (vc (W i) (W j)) N]) (f1 k hk)
        omega
      · refine hno.1 (fun k hk => ?_)
        have e2 := par_dot (g := W k) hsw
        exact sgn_of (a := vd (vc (W i) (W j)) N) (b := vd N N) (by rw [vd_comm]; exact q) hpp e2.symm (f1 k hk)
