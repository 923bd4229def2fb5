/-! ===== the store, and the heap that holds it ===== -/
/-- the store: whole numbers, long numbers, references by address and place; kind and length of each cell; the number of cells -/
abbrev ha_St : Type := (Nat → Nat → Int32) × (Nat → Nat → Int64) × (Nat → Nat → Option Nat) × (Nat → Nat × Nat) × Nat
def gI (σ : ha_St) : Nat → Nat → Int32 := σ.1
def gL (σ : ha_St) : Nat → Nat → Int64 := σ.2.1
def gR (σ : ha_St) : Nat → Nat → Option Nat := σ.2.2.1
def gT (σ : ha_St) : Nat → Nat × Nat := σ.2.2.2.1
def gn (σ : ha_St) : Nat := σ.2.2.2.2
def sI (σ : ha_St) (a j : Nat) (v : Int32) : ha_St := (fun x y => if x = a ∧ y = j then v else σ.1 x y, σ.2)
def sL (σ : ha_St) (a j : Nat) (v : Int64) : ha_St := (σ.1, fun x y => if x = a ∧ y = j then v else σ.2.1 x y, σ.2.2)
def sR (σ : ha_St) (a j : Nat) (v : Option Nat) : ha_St := (σ.1, σ.2.1, fun x y => if x = a ∧ y = j then v else σ.2.2.1 x y, σ.2.2.2)
/-- a new cell of kind t, length n -/
def sN (σ : ha_St) (t n : Nat) : ha_St := (fun x y => if x = gn σ then 0 else σ.1 x y, fun x y => if x = gn σ then 0 else σ.2.1 x y, fun x y => if x = gn σ then none else σ.2.2.1 x y, fun x => if x = gn σ then (t, n) else σ.2.2.2.1 x, gn σ + 1)
/-- a stretch of an array of whole numbers copied -/
def sC (σ : ha_St) (a b sp dp n : Nat) : ha_St := (fun x y => if x = b then va_cpy (σ.1 a) (σ.1 b) sp dp n y else σ.1 x y, σ.2)
theorem gI_sI (σ : ha_St) (a j : Nat) (v : Int32) (x y : Nat) : gI (sI σ a j v) x y = if x = a ∧ y = j then v else gI σ x y := rfl
theorem gL_sI (σ : ha_St) (a j : Nat) (v : Int32) : gL (sI σ a j v) = gL σ := rfl
theorem gR_sI (σ : ha_St) (a j : Nat) (v : Int32) : gR (sI σ a j v) = gR σ := rfl
theorem gT_sI (σ : ha_St) (a j : Nat) (v : Int32) : gT (sI σ a j v) = gT σ := rfl
theorem gn_sI (σ : ha_St) (a j : Nat) (v : Int32) : gn (sI σ a j v) = gn σ := rfl
theorem gI_sL (σ : ha_St) (a j : Nat) (v : Int64) : gI (sL σ a j v) = gI σ := rfl
theorem gL_sL (σ : ha_St) (a j : Nat) (v : Int64) (x y : Nat) : gL (sL σ a j v) x y = if x = a ∧ y = j then v else gL σ x y := rfl
theorem gR_sL (σ : ha_St) (a j : Nat) (v : Int64) : gR (sL σ a j v) = gR σ := rfl
theorem gT_sL (σ : ha_St) (a j : Nat) (v : Int64) : gT (sL σ a j v) = gT σ := rfl
theorem gn_sL (σ : ha_St) (a j : Nat) (v : Int64) : gn (sL σ a j v) = gn σ := rfl
theorem gI_sR (σ : ha_St) (a j : Nat) (v : Option Nat) : gI (sR σ a j v) = gI σ := rfl
theorem gL_sR (σ : ha_St) (a j : Nat) (v : Option Nat) : gL (sR σ a j v) = gL σ := rfl
theorem gR_sR (σ : ha_St) (a j : Nat) (v : Option Nat) (x y : Nat) : gR (sR σ a j v) x y = if x = a ∧ y = j then v else gR σ x y := rfl
theorem gT_sR (σ : ha_St) (a j : Nat) (v : Option Nat) : gT (sR σ a j v) = gT σ := rfl
theorem gn_sR (σ : ha_St) (a j : Nat) (v : Option Nat) : gn (sR σ a j v) = gn σ := rfl
theorem gI_sN (σ : ha_St) (t n x y : Nat) : gI (sN σ t n) x y = if x = gn σ then 0 else gI σ x y := rfl
theorem gL_sN (σ : ha_St) (t n x y : Nat) : gL (sN σ t n) x y = if x = gn σ then 0 else gL σ x y := rfl
theorem gR_sN (σ : ha_St) (t n x y : Nat) : gR (sN σ t n) x y = if x = gn σ then none else gR σ x y := rfl
theorem gT_sN (σ : ha_St) (t n x : Nat) : gT (sN σ t n) x = if x = gn σ then (t, n) else gT σ x := rfl
theorem gn_sN (σ : ha_St) (t n : Nat) : gn (sN σ t n) = gn σ + 1 := rfl
theorem gI_sC (σ : ha_St) (a b sp dp n x y : Nat) : gI (sC σ a b sp dp n) x y = if x = b then va_cpy (gI σ a) (gI σ b) sp dp n y else gI σ x y := rfl
theorem gL_sC (σ : ha_St) (a b sp dp n : Nat) : gL (sC σ a b sp dp n) = gL σ := rfl
theorem gR_sC (σ : ha_St) (a b sp dp n : Nat) : gR (sC σ a b sp dp n) = gR σ := rfl
theorem gT_sC (σ : ha_St) (a b sp dp n : Nat) : gT (sC σ a b sp dp n) = gT σ := rfl
theorem gn_sC (σ : ha_St) (a b sp dp n : Nat) : gn (sC σ a b sp dp n) = gn σ := rfl
/-- the launch's numbers: classes and places; where the store begins; the classes of arrays (int, long, byte, Pin, Shelf); the two rows of directions -/
abbrev ha_G : Type := va_G × Nat × (Nat → ClassId) × Nat × Nat
def ad (G : ha_G) (a : Nat) : Nat := G.2.1 + a
def rf (G : ha_G) (r : Option Nat) : Value := va_rf (r.map (ad G))
theorem rf_some (G : ha_G) (a : Nat) : rf G (some a) = .ref (ad G a) := rfl
theorem rf_none (G : ha_G) : rf G none = .null := rfl
theorem ad_inj {G : ha_G} {a b : Nat} : ad G a = ad G b ↔ a = b := by unfold ad; omega
/-- own cells -/
def gA (G : ha_G) : Nat → Prop := fun q => G.2.1 ≤ q
def fkT : List (List (Nat × Nat)) := [[(0, 8), (0, 0), (0, 1), (0, 2), (0, 3), (0, 4), (0, 5), (0, 6), (0, 7)], [(0, 0), (0, 1), (0, 2), (0, 3), (0, 4), (0, 5), (0, 6), (0, 7)], [(2, 0), (2, 1), (2, 2), (0, 3), (2, 4), (2, 5), (2, 6), (0, 7), (1, 8), (1, 9), (1, 10)], [(2, 0), (2, 1), (2, 2), (0, 3), (1, 4), (1, 5)], [(2, 0), (2, 1), (2, 2), (2, 3), (1, 4), (1, 5), (1, 6), (1, 7), (0, 8)], [(0, 0), (0, 1), (0, 2), (0, 3), (0, 4), (0, 5), (0, 6), (0, 7), (0, 8)], [(2, 0), (2, 1), (0, 2), (0, 3)], [(0, 0), (0, 1), (0, 2), (0, 3), (0, 4), (0, 5), (0, 6), (0, 7)], [(2, 0), (2, 1), (0, 2), (2, 3), (2, 4), (2, 5), (0, 6), (3, 7)], [(2, 0), (2, 1), (2, 2)], [(2, 0), (0, 1), (2, 2), (2, 3), (2, 4), (3, 5), (2, 6), (2, 7), (2, 8), (2, 9), (2, 10)], [(0, 0), (0, 1), (2, 2), (2, 3), (2, 4), (2, 5), (2, 6), (2, 7), (2, 8), (0, 9), (2, 10), (2, 11), (0, 12), (0, 13), (2, 14), (2, 15), (2, 16), (0, 17), (2, 18), (2, 19), (2, 20), (1, 21), (1, 22), (0, 23), (2, 24), (2, 25), (2, 26), (0, 27), (0, 28), (2, 29), (2, 30), (2, 31), (2, 32), (2, 33), (2, 34), (2, 35), (2, 36), (2, 37), (2, 38)]]
def fk (ci k : Nat) : Nat × Nat := (fkT.getD ci []).getD k (0, 0)
def fN (ci : Nat) : Nat := (fkT.getD ci []).length
def fv (G : ha_G) (σ : ha_St) (a : Nat) (q : Nat × Nat) : Value := if q.1 = 1 then .long (gL σ a q.2) else if q.1 = 2 then rf G (gR σ a q.2) else .int (gI σ a q.2)
def fs (G : ha_G) (σ : ha_St) (a ci : Nat) : List Value := (List.range (fN ci)).map (fun k => fv G σ a (fk ci k))
theorem fs_get {G : ha_G} {σ : ha_St} {a ci k : Nat} (h : k < fN ci) : (fs G σ a ci)[k]? = some (fv G σ a (fk ci k)) := by
  simp [fs, List.getElem?_map, List.getElem?_range h]
theorem fs_len {G : ha_G} {σ : ha_St} {a ci : Nat} : (fs G σ a ci).length = fN ci := by simp [fs]
def hE (G : ha_G) (σ : ha_St) (a : Nat) : va_E :=
  if (gT σ a).1 = 20 then .inl (G.2.2.1 0, (gT σ a).2, .inl (gI σ a)) else if (gT σ a).1 = 21 then .inl (G.2.2.1 1, (gT σ a).2, .inr (.inl (gL σ a)))
  else if (gT σ a).1 = 22 then .inl (G.2.2.1 2, (gT σ a).2, .inl (gI σ a)) else if (gT σ a).1 = 23 then .inl (G.2.2.1 3, (gT σ a).2, .inr (.inr (.inr (.inr (fun j => (gR σ a j).map (ad G))))))
  else if (gT σ a).1 = 24 then .inl (G.2.2.1 4, (gT σ a).2, .inr (.inr (.inr (.inr (fun j => (gR σ a j).map (ad G)))))) else .inr ((gT σ a).1 - 1, fs G σ a ((gT σ a).1 - 1))
theorem hE_o {G : ha_G} {σ : ha_St} {a ci n : Nat} (h : gT σ a = (ci + 1, n)) (hc : ci < 12) : hE G σ a = .inr (ci, fs G σ a ci) := by
  unfold hE
  rw [h]
  simp only [Nat.add_sub_cancel]
  rw [if_neg (by omega), if_neg (by omega), if_neg (by omega), if_neg (by omega), if_neg (by omega)]
theorem hE_i {G : ha_G} {σ : ha_St} {a n : Nat} (h : gT σ a = (20, n)) : hE G σ a = .inl (G.2.2.1 0, n, .inl (gI σ a)) := by simp [hE, h]
theorem hE_l {G : ha_G} {σ : ha_St} {a n : Nat} (h : gT σ a = (21, n)) : hE G σ a = .inl (G.2.2.1 1, n, .inr (.inl (gL σ a))) := by simp [hE, h]
theorem hE_b {G : ha_G} {σ : ha_St} {a n : Nat} (h : gT σ a = (22, n)) : hE G σ a = .inl (G.2.2.1 2, n, .inl (gI σ a)) := by simp [hE, h]
theorem hE_p {G : ha_G} {σ : ha_St} {a n : Nat} (h : gT σ a = (23, n)) : hE G σ a = .inl (G.2.2.1 3, n, .inr (.inr (.inr (.inr (fun j => (gR σ a j).map (ad G)))))) := by simp [hE, h]
theorem hE_s {G : ha_G} {σ : ha_St} {a n : Nat} (h : gT σ a = (24, n)) : hE G σ a = .inl (G.2.2.1 4, n, .inr (.inr (.inr (.inr (fun j => (gR σ a j).map (ad G)))))) := by simp [hE, h]
/-- the heap holds the store -/
def hH (G : ha_G) (σ : ha_St) (H : Heap) : Prop := H.size = G.2.1 + gn σ ∧ ∀ a, (gT σ a).1 ≠ 0 → a < gn σ ∧ va_at G.1 vwCl (ad G a, hE G σ a) H
theorem hH.one {G : ha_G} {σ : ha_St} {H : Heap} (h : hH G σ H) {a : Nat} {e : va_E} (ha : (gT σ a).1 ≠ 0) (he : hE G σ a = e) : va_P G.1 vwCl [(ad G a, e)] H := by
  intro k q hk
  have hz : k < 1 := (List.getElem?_eq_some_iff.mp hk).1
  rw [show k = 0 by omega] at hk
  cases hk
  rw [← he]
  exact (h.2 a ha).2
/-- one cell has changed -/
theorem hH.set {G : ha_G} {σ σ' : ha_St} {H H1 : Heap} (h : hH G σ H) {a : Nat} (hn : gn σ' = gn σ) (hT : gT σ' = gT σ) (hz : H1.size = H.size) (ho : ∀ q : Nat, q ≠ ad G a → H1[q]? = H[q]?)
    (he : ∀ x, x ≠ a → hE G σ' x = hE G σ x) (hat : va_at G.1 vwCl (ad G a, hE G σ' a) H1) : hH G σ' H1 := by
  refine ⟨by rw [hz, hn]; exact h.1, fun x hx => ?_⟩
  rw [hT] at hx
  rw [hn]
  refine ⟨(h.2 x hx).1, ?_⟩
  by_cases hxa : x = a
  · subst hxa; exact hat
  · rw [he x hxa]
    exact ((h.2 x hx).2).kept (ho _ (fun q => hxa (ad_inj.mp q)))
theorem hS_put {G : ha_G} {H0 H H1 : Heap} {locs : List Loc} {a k : Nat} (h : va_S (gA G) H0 H locs) (z : H1.size = H.size) (oq : ∀ q : Nat, q ≠ ad G a → H1[q]? = H[q]?) : va_S (gA G) H0 H1 (locs ++ [⟨ad G a, k⟩]) :=
  h.put z oq (by show G.2.1 ≤ ad G a; unfold ad; omega)
/-! ===== the words: all of the tables that keep ===== -/
def gtbl : List Cond := lw_tbl.filter goodWord
theorem g_at {w : Cond} (i : Nat) (h : lw_tbl[i]? = some w) (hg : goodWord w = true) : w ∈ gtbl := List.mem_filter.mpr ⟨List.mem_of_getElem? h, hg⟩
theorem g_in {ws : List Cond} (ps : List Nat) (h : ps.map (fun i => lw_tbl[i]?) = ws.map some) (hg : ws.all goodWord = true) : ∀ w ∈ ws, w ∈ gtbl := by
  intro w hw
  refine List.mem_filter.mpr ⟨?_, List.all_eq_true.mp hg w hw⟩
  have h1 : some w ∈ ws.map some := List.mem_map.mpr ⟨w, hw, rfl⟩
  rw [← h] at h1
  obtain ⟨i, -, hi⟩ := List.mem_map.mp h1
  exact List.mem_of_getElem? hi
theorem g_good {w : Cond} (h : w ∈ gtbl) : (w.onTables && w.keeps) = true ∨ ∃ ty, w = .arrayClass ty := good_of_word (List.mem_filter.mp h).2
theorem g_goodIn {ws : List Cond} (h : ∀ w ∈ ws, w ∈ gtbl) : GoodIn gtbl ws := fun w hw => ⟨h w hw, g_good (h w hw)⟩
