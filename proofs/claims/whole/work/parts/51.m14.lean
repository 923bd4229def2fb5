/-! ===== the reference: keep ===== -/
def mHM (σ : ha_St) : Prop := ∀ σ', mfQ σ σ' → 0 ≤ gI σ' 62 0 ∧ gI σ' 62 0 ≤ 12
/-- the steps are the same -/
def sSt (σ τ : ha_St) : Prop := gI τ 44 23 = gI σ 44 23 ∧ gI τ 60 = gI σ 60 ∧ gI τ 61 = gI σ 61
def PLN (σ : ha_St) : Prop := ∀ τ, sSt σ τ → WB τ ∧ mHE τ ∧ mHM τ
def kpP (σ : ha_St) (d w k : Int32) : Prop := shOK d ∧ (w = 0 ∨ w = 3 ∨ w = 4 ∨ (w = 1 ∧ ¬ icV σ k = 0))
def kp0 (σ : ha_St) (d w : Int32) : ha_St := wpF (sI σ 65 d.toNatClampNeg w) d
def kp1 (σ : ha_St) (d k : Int32) : ha_St := sI (sI (sI (sI (sI (kp0 σ d 1) 66 d.toNatClampNeg k) 67 d.toNatClampNeg (gI σ 45 k.toNatClampNeg)) 68 d.toNatClampNeg (gI σ 49 k.toNatClampNeg)) 69 d.toNatClampNeg (gI σ 50 k.toNatClampNeg)) 70 d.toNatClampNeg 0
def wrD (σ : ha_St) (j : Nat) : Int32 := (dirV σ (j / 3) (Int32.ofNat (j % 3))).toInt32
def kp3 (σ : ha_St) (d : Int32) (n : Nat) : ha_St := rgA (sI (kp0 σ d 3) 70 d.toNatClampNeg (3 * gI σ 44 1)) 71 (60 * d.toNatClampNeg) n (wrD σ)
def kp4 (σ1 : ha_St) (d : Int32) (n : Nat) (f : Nat → Int32) : ha_St := rgA (sI σ1 70 d.toNatClampNeg (gI σ1 62 0)) 71 (60 * d.toNatClampNeg) n f
def mKeepQ (σ : ha_St) (d w k r : Int32) (σ' : ha_St) : Prop := (¬ kpP σ d w k ∧ r = -1 ∧ σ' = σ) ∨ (kpP σ d w k ∧ r = 0 ∧ ((w = 0 ∧ σ' = sI (kp0 σ d 0) 70 d.toNatClampNeg 0) ∨ (w = 1 ∧ ¬ icV σ k = 0 ∧ σ' = kp1 σ d k) ∨ (w = 3 ∧ σ' = kp3 σ d (3 * gI σ 44 1).toNatClampNeg) ∨
  (w = 4 ∧ ∃ σ1 f, mfQ (sI (kp0 σ d 4) 70 d.toNatClampNeg 0) σ1 ∧ σ' = kp4 σ1 d (gI σ1 62 0).toNatClampNeg f ∧ ∀ j, j < (gI σ1 62 0).toNatClampNeg → ∃ e, mPath σ1 j e ∧ sfQ σ1 e (f j))))
theorem kp0_g {σ : ha_St} {d w : Int32} {x : Nat} (h1 : x ≠ 65) (h2 : x ≠ 71) : gI (kp0 σ d w) x = gI σ x := by
  unfold kp0 wpF
  rw [gI_rgN h2]
  funext y
  rw [gI_sI, if_neg (fun q => h1 q.1)]
theorem kp0_Y {σ : ha_St} {d w : Int32} (hY : LY σ) : LY (kp0 σ d w) := rgA_Y (hY.same rfl rfl rfl)
theorem sI_g {σ : ha_St} {a j : Nat} {v : Int32} {x : Nat} (h : x ≠ a) : gI (sI σ a j v) x = gI σ x := by
  funext y
  rw [gI_sI, if_neg (fun q => h q.1)]
theorem dirV_c {σ τ : ha_St} (h1 : gI τ 46 = gI σ 46) (h2 : gI τ 47 = gI σ 47) (h3 : gI τ 48 = gI σ 48) {c : Nat} {k : Int32} : dirV τ c k = dirV σ c k := by unfold dirV; rw [h1, h2, h3]
theorem d3_n {i : Int32} (h0 : 0 ≤ i) (h1 : i < 30) : i / 3 = Int32.ofNat (i.toNatClampNeg / 3) ∧ i - i / 3 * 3 = Int32.ofNat (i.toNatClampNeg % 3) ∧ (0 ≤ i / 3 ∧ i / 3 < 10) := by
  have k : ∀ n : Nat, n < 30 → (Int32.ofNat n / 3 = Int32.ofNat (n / 3) ∧ Int32.ofNat n - Int32.ofNat n / 3 * 3 = Int32.ofNat (n % 3)) ∧ (0 ≤ Int32.ofNat n / 3 ∧ Int32.ofNat n / 3 < 10) := by decide
  have e := tn_lt h0 h1
  rw [show (30 : Int32).toNatClampNeg = 30 by decide] at e
  have a := k _ e
  rw [nI_tn h0] at a
  exact ⟨a.1.1, a.1.2, a.2⟩
theorem wkS_c {σ τ : ha_St} (h : sSt σ τ) : WK τ = WK σ := by
  funext d s
  unfold WK
  rw [h.1]
  congr 1
  funext x y
  unfold wkS
  rw [h.2.1, h.2.2]
theorem sfQ_c {σ τ : ha_St} (h : sSt σ τ) (g : gI τ 62 = gI σ 62) {d r : Int32} : sfQ τ d r ↔ sfQ σ d r := by
  unfold sfQ sfG
  rw [wkS_c h, g]
theorem mAll_c {σ τ : ha_St} (h : sSt σ τ) : mAll τ = mAll σ := by unfold mAll; rw [h.1]
theorem sfE_c {σ τ : ha_St} (h : sSt σ τ) (g : gI τ 62 = gI σ 62) {d : Int32} : sfE τ d ↔ sfE σ d := by
  unfold sfE sfG
  rw [wkS_c h, g]
theorem WB_c {σ τ : ha_St} (h : sSt σ τ) (g : WB σ) : WB τ := by
  unfold WB at *
  rw [mAll_c h, wkS_c h]
  exact g
set_option maxRecDepth 100000 in
set_option maxHeartbeats 4000000 in
theorem m_X11_keep {G : ha_G} {l : Launch} {σ : ha_St} {d w k : Int32} (hY : LY σ) (hs0 : 0 ≤ gI σ 44 23) (hs1 : gI σ 44 23 ≤ 12) (hN : MN σ) (hP : PLN σ) : hM G l yX11_keep cX11_keep 7 (some .int) { frames := 2, cells := 0, slots := 0, locals := 49 } [.ref (ad G 44), .int d, .int w, .int k] σ (fun v σ' => ∃ r, v = some (.int r) ∧ mKeepQ σ d w k r σ') := by
  have hY0 := hY
  refine hM_ofF [(0, .ref (ad G 44)), (1, .int d), (2, .int w), (3, .int k)] (by decide +kernel) (Nat.le_of_ble_eq_true rfl) rfl ?_
  intro p e s m args below meth c0 C hin
  refine h_join (α := Int32) 40 (fun g => isB g (kpP σ d w k)) (fun g => [(0, .ref (ad G 44)), (1, .int d), (2, .int w), (3, .int k)]) (fun g => [.int g]) (fun g => σ) (fun g => 0) (fun g => 0) ?_ (fun J_1 => ?_)
  · rintro g hJ
    show hW _ _ _ _ _ _ _ _ _ _ _ _ _ 40 [(0, .ref (ad G 44)), (1, .int d), (2, .int w), (3, .int k)] [.int g] σ 0 0
    refine h_istore C [(4, .int g), (0, .ref (ad G 44)), (1, .int d), (2, .int w), (3, .int k)] dX11_keep_40 (by decide) rfl ?_
    refine h_iload C 0 dX11_keep_42 rfl ?_
    refine h_if_ne C 49 dX11_keep_44 (by decide) (fun c_44 => ?_) (fun c_44 => ?_)
    · have hok := isB_1 hJ c_44
      have hd : shOK d := hok.1
      refine h_aload_n C 1 dX11_keep_49 rfl rfl ?_
      refine gfX11_106 C (ty_44 hY) dX11_keep_50 ?_
      refine h_tref (b := 65) (rf_44_31 hY) ?_
      refine h_iload_n C 2 dX11_keep_53 rfl rfl ?_
      refine h_iload_n C 3 dX11_keep_54 rfl rfl ?_
      refine h_iast C _ (ty_65 hY) hd.v dX11_keep_55 rfl ?_
      refine h_aload_n C 1 dX11_keep_56 rfl rfl ?_
      refine h_iload_n C 2 dX11_keep_57 rfl rfl ?_
      refine h_callV C (m_X11_wipe (σ := (sI σ 65 d.toNatClampNeg w)) (hY.same rfl rfl rfl) hd) caX11_275 kX11 (ty_44 hY) ⟨by decide, by decide, by decide, by decide⟩ rfl rfl (Nat.le_of_ble_eq_true rfl) dX11_keep_58 ?_
      rintro v σ' ⟨rfl, h2⟩; rw [show wpF (sI σ 65 d.toNatClampNeg w) d = kp0 σ d w from rfl] at h2; rw [h2]; clear h2
      show hW _ _ _ _ _ _ _ _ _ _ _ _ _ 61 [(4, .int g), (0, .ref (ad G 44)), (1, .int d), (2, .int w), (3, .int k)] [] (kp0 σ d w) 0 0
      have hY : LY (kp0 σ d w) := kp0_Y hY
      refine h_iload_n C 3 dX11_keep_61 rfl rfl ?_
      refine h_iconst C 1 dX11_keep_62 (by decide) ?_
      refine h_icmp_ne C 109 dX11_keep_63 (by decide) (fun c_63 => ?_) (fun c_63 => ?_)
      · refine h_aload_n C 1 dX11_keep_109 rfl rfl ?_
        refine gfX11_121 C (ty_44 hY) dX11_keep_110 ?_
        refine h_tref (b := 70) (rf_44_36 hY) ?_
        refine h_iload_n C 2 dX11_keep_113 rfl rfl ?_
        refine h_iload_n C 3 dX11_keep_114 rfl rfl ?_
        refine h_iconst C 3 dX11_keep_115 (by decide) ?_
        refine h_icmp_ne C 128 dX11_keep_116 (by decide) (fun c_116 => ?_) (fun c_116 => ?_)
        · refine h_iconst C 0 dX11_keep_128 (by decide) ?_
          refine h_iast C _ (ty_70 hY) hd.v dX11_keep_129 rfl ?_
          refine h_iconst C 0 dX11_keep_130 (by decide) ?_
          refine h_istore C [(5, .int 0), (4, .int g), (0, .ref (ad G 44)), (1, .int d), (2, .int w), (3, .int k)] dX11_keep_131 (by decide) rfl ?_
          refine h_iload C 0 dX11_keep_133 rfl ?_
          refine h_iconst C 3 dX11_keep_135 (by decide) ?_
          refine h_aload_n C 2 dX11_keep_136 rfl rfl ?_
          refine gfX11_13 C (ty_44 hY) dX11_keep_137 ?_
          show hW _ _ _ _ _ _ _ _ _ _ _ _ _ 140 [(5, .int 0), (4, .int g), (0, .ref (ad G 44)), (1, .int d), (2, .int w), (3, .int k)] [.int (gI (kp0 σ d w) 44 1), .int 3, .int 0] (sI (kp0 σ d w) 70 d.toNatClampNeg 0) 0 0
          refine h_imul C dX11_keep_140 ?_
          refine h_icmp_ge C 180 dX11_keep_141 (by decide) (fun c_141 => ?_) (fun c_141 => ?_)
          · refine h_iload_n C 4 dX11_keep_180 rfl rfl ?_
            refine h_iconst C 4 dX11_keep_181 (by decide) ?_
            refine h_icmp_eq C 187 dX11_keep_182 (by decide) (fun c_182 => ?_) (fun c_182 => ?_)
            · have hw4 : w = 4 := c_182
              subst hw4
              have hs : sSt σ (sI (kp0 σ d 4) 70 d.toNatClampNeg 0) := by
                refine ⟨?_, ?_, ?_⟩
                · rw [sI_g (by omega), kp0_g (by omega) (by omega)]
                · rw [sI_g (by omega), kp0_g (by omega) (by omega)]
                · rw [sI_g (by omega), kp0_g (by omega) (by omega)]
              have hB := (hP _ hs).1
              have hE := (hP _ hs).2.1
              have hM := (hP _ hs).2.2
              have hY : LY (sI (kp0 σ d 4) 70 d.toNatClampNeg 0) := (kp0_Y (d := d) (w := 4) hY0).same rfl rfl rfl
              show hW _ _ _ _ _ _ _ _ _ _ _ _ _ 187 [(5, .int 0), (4, .int g), (0, .ref (ad G 44)), (1, .int d), (2, .int 4), (3, .int k)] [] (sI (kp0 σ d 4) 70 d.toNatClampNeg 0) 0 0
              refine h_aload_n C 2 dX11_keep_187 rfl rfl ?_
              refine h_callV C (m_X11_findFewest hY (by rw [hs.1]; exact hs0) (by rw [hs.1]; exact hs1) hB) caX11_260 kX11 (ty_44 hY) ⟨by decide, by decide, by decide, by decide⟩ rfl rfl (Nat.le_of_ble_eq_true rfl) dX11_keep_188 ?_
              rintro v σ1 ⟨rfl, hm⟩
              have hY : LY σ1 := hm.1.LY hY
              have hY1 := hY
              have hn1 : gI σ1 44 23 = gI σ 44 23 := (frM_n hm.1).trans hs.1
              have hB1 : WB σ1 := frM_WB hm.1 hB
              have hal : mAll σ1 = mAll (sI (kp0 σ d 4) 70 d.toNatClampNeg 0) := frM_all hm.1
              have hmb := hM σ1 hm
              show hW _ _ _ _ _ _ _ _ _ _ _ _ _ 191 [(5, .int 0), (4, .int g), (0, .ref (ad G 44)), (1, .int d), (2, .int 4), (3, .int k)] [] σ1 0 0
              refine h_aload_n C 2 dX11_keep_191 rfl rfl ?_
              refine gfX11_121 C (ty_44 hY) dX11_keep_192 ?_
              refine h_tref (b := 70) (rf_44_36 hY) ?_
              refine h_iload_n C 3 dX11_keep_195 rfl rfl ?_
              refine h_aload_n C 2 dX11_keep_196 rfl rfl ?_
              refine gfX11_91 C (ty_44 hY) dX11_keep_197 ?_
              refine h_tref (b := 62) (rf_44_26 hY) ?_
              refine h_iconst C 0 dX11_keep_200 (by decide) ?_
              refine h_iald C (ty_62 hY) (vp32 (N := 4096) (by decide) (by decide) (by decide)) dX11_keep_201 ?_
              show hW _ _ _ _ _ _ _ _ _ _ _ _ _ 202 [(5, .int 0), (4, .int g), (0, .ref (ad G 44)), (1, .int d), (2, .int 4), (3, .int k)] [.int (gI σ1 62 0), .int d, .ref (ad G 70)] σ1 0 0
              refine h_iast C _ (ty_70 hY) hd.v dX11_keep_202 rfl ?_
              refine h_iconst C 0 dX11_keep_203 (by decide) ?_
              refine h_istore C [(5, .int 0), (4, .int g), (0, .ref (ad G 44)), (1, .int d), (2, .int 4), (3, .int k)] dX11_keep_204 (by decide) rfl ?_
              refine h_iconst C 0 dX11_keep_206 (by decide) ?_
              refine h_istore C [(6, .int 0), (5, .int 0), (4, .int g), (0, .ref (ad G 44)), (1, .int d), (2, .int 4), (3, .int k)] dX11_keep_207 (by decide) rfl ?_
              refine h_sub [3, 4, 1, 0] rfl ?_
              refine h_loop (α := Int32 × Int32 × ha_St) (fun (e1, i, σ2) => 0 ≤ i ∧ i ≤ gI σ1 62 0 ∧ mPath σ1 i.toNatClampNeg e1 ∧ (0 ≤ e1 ∧ e1 ≤ mAll σ1) ∧ gI σ1 62 e1.toNatClampNeg + i = gI σ1 62 0 ∧ ∃ f, σ2 = kp4 σ1 d i.toNatClampNeg f ∧ ∀ j, j < i.toNatClampNeg → ∃ e, mPath σ1 j e ∧ sfQ σ1 e (f j)) (fun (e1, i, σ2) => tm (gI σ1 62 0) i) (fun (e1, i, σ2) => [(0, .ref (ad G 44)), (1, .int d), (5, .int e1), (6, .int i)]) (fun (e1, i, σ2) => []) (fun (e1, i, σ2) => σ2) (fun (e1, i, σ2) => 0) (fun (e1, i, σ2) => 0) ?_ (0, 0, (sI σ1 70 d.toNatClampNeg (gI σ1 62 0))) ?_
              · rintro ⟨e1, i, σ2⟩ hI ih
                show hW _ _ _ _ _ _ _ _ _ _ _ _ _ 209 [(0, .ref (ad G 44)), (1, .int d), (5, .int e1), (6, .int i)] [] σ2 0 0
                obtain ⟨f, hf⟩ := hI.2.2.2.2.2
                have hY : LY σ2 := by rw [hf.1]; exact rgA_Y (hY1.same rfl rfl rfl)
                have h62 : gI σ2 62 = gI σ1 62 := by rw [hf.1]; unfold kp4; rw [gI_rgN (by omega), sI_g (by omega)]
                have hst : sSt σ1 σ2 := by
                  refine ⟨?_, ?_, ?_⟩ <;> rw [hf.1] <;> unfold kp4 <;> rw [gI_rgN (by omega), sI_g (by omega)]
                refine h_iload C 3 dX11_keep_209 rfl ?_
                refine h_aload_n C 0 dX11_keep_211 rfl rfl ?_
                refine gfX11_91 C (ty_44 hY) dX11_keep_212 ?_
                refine h_tref (b := 62) (rf_44_26 hY) ?_
                refine h_iconst C 0 dX11_keep_215 (by decide) ?_
                refine h_iald C (ty_62 hY) (vp32 (N := 4096) (by decide) (by decide) (by decide)) dX11_keep_216 ?_
                show hW _ _ _ _ _ _ _ _ _ _ _ _ _ 217 [(0, .ref (ad G 44)), (1, .int d), (5, .int e1), (6, .int i)] [.int (gI σ2 62 0), .int i] σ2 0 0
                refine h_icmp_ge C 258 dX11_keep_217 (by decide) (fun c_217 => ?_) (fun c_217 => ?_)
                · refine h_iconst C 0 dX11_keep_258 (by decide) ?_
                  refine h_iret C rfl (Nat.zero_le _) (Nat.zero_le _) dX11_keep_259 ?_
                  have he := eq_end hI.2.1 (by rw [← h62]; exact Int32.not_lt.mpr c_217)
                  rw [he] at hf
                  exact ⟨_, rfl, Or.inr ⟨hok, rfl, Or.inr (Or.inr (Or.inr ⟨rfl, σ1, f, hm, hf⟩))⟩⟩
                · have hil : i < gI σ1 62 0 := by rw [← h62]; exact Int32.not_le.mp c_217
                  have hb := t480 hd.1 hd.l hI.1 (by have h1 := hmb.2; clear C; grind)
                  have hel : e1 < mAll σ1 := by
                    have hle := hI.2.2.2.1.2
                    have hz : e1 ≠ mAll σ1 := by
                      intro z
                      have h1 := hI.2.2.2.2.1
                      rw [z, hal, hm.2.1] at h1
                      have h3 := hil
                      clear C
                      grind
                    clear C
                    grind
                  have hse : sfE σ1 e1 := hE σ1 hm e1 hI.2.2.2.1.1 (by rw [← hal]; exact hel)
                  have hB2 : WB σ2 := WB_c hst hB1
                  have hal2 : mAll σ2 = mAll σ1 := mAll_c hst
                  have hse2 : sfE σ2 e1 := (sfE_c hst h62).mpr hse
                  refine h_aload_n C 0 dX11_keep_220 rfl rfl ?_
                  refine gfX11_124 C (ty_44 hY) dX11_keep_221 ?_
                  refine h_tref (b := 71) (rf_44_37 hY) ?_
                  refine h_bipush C 60 dX11_keep_224 (by decide) ?_
                  refine h_iload_n C 1 dX11_keep_226 rfl rfl ?_
                  refine h_imul C dX11_keep_227 ?_
                  refine h_iload C 3 dX11_keep_228 rfl ?_
                  refine h_iadd C dX11_keep_230 ?_
                  refine h_aload_n C 0 dX11_keep_231 rfl rfl ?_
                  refine h_iload C 2 dX11_keep_232 rfl ?_
                  refine h_callV C (m_X11_sideFor hY (by rw [hst.1, hn1]; exact hs0) (by rw [hst.1, hn1]; exact hs1) hB2 hI.2.2.2.1.1 (by rw [hal2]; exact hI.2.2.2.1.2) hse2) caX11_263 kX11 (ty_44 hY) ⟨by decide, by decide, by decide, by decide⟩ rfl rfl (Nat.le_of_ble_eq_true rfl) dX11_keep_234 ?_
                  rintro v σ' ⟨⟨q, rfl, hq⟩, h2⟩; rw [h2]; clear h2
                  have hq : sfQ σ1 e1 q := (sfQ_c hst h62).mp hq
                  show hW _ _ _ _ _ _ _ _ _ _ _ _ _ 237 [(0, .ref (ad G 44)), (1, .int d), (5, .int e1), (6, .int i)] [.int q, .int ((60 * d) + i), .ref (ad G 71)] σ2 0 0
                  refine h_iast C _ (ty_71 hY) hb.1 dX11_keep_237 rfl ?_
                  have h623 : gI (sI σ2 71 ((60 * d) + i).toNatClampNeg q) 62 = gI σ1 62 := by rw [sI_g (by omega)]; exact h62
                  have hst3 : sSt σ1 (sI σ2 71 ((60 * d) + i).toNatClampNeg q) := ⟨by rw [sI_g (by omega)]; exact hst.1, by rw [sI_g (by omega)]; exact hst.2.1, by rw [sI_g (by omega)]; exact hst.2.2⟩
                  refine h_aload_n C 0 dX11_keep_238 rfl rfl ?_
                  refine h_iload C 2 dX11_keep_239 rfl ?_
                  refine h_aload_n C 0 dX11_keep_241 rfl rfl ?_
                  refine h_iload C 2 dX11_keep_242 rfl ?_
                  refine h_callV C (m_X11_sideFor (σ := (sI σ2 71 ((60 * d) + i).toNatClampNeg q)) (hY.same rfl rfl rfl) (by rw [hst3.1, hn1]; exact hs0) (by rw [hst3.1, hn1]; exact hs1) (WB_c hst3 hB1) hI.2.2.2.1.1 (by rw [mAll_c hst3]; exact hI.2.2.2.1.2) ((sfE_c hst3 h623).mpr hse)) caX11_263 kX11 (ty_44 hY) ⟨by decide, by decide, by decide, by decide⟩ rfl rfl (Nat.le_of_ble_eq_true rfl) dX11_keep_244 ?_
                  rintro v σ' ⟨⟨q2, rfl, hq2⟩, h2⟩; rw [h2]; clear h2
                  have hq2 : sfQ σ1 e1 q2 := (sfQ_c hst3 h623).mp hq2
                  show hW _ _ _ _ _ _ _ _ _ _ _ _ _ 247 [(0, .ref (ad G 44)), (1, .int d), (5, .int e1), (6, .int i)] [.int q2, .int e1, .ref (ad G 44)] (sI σ2 71 ((60 * d) + i).toNatClampNeg q) 0 0
                  refine h_callV C (m_X11_work (σ := (sI σ2 71 ((60 * d) + i).toNatClampNeg q)) (hY.same rfl rfl rfl) (by rw [hst3.1, hn1]; exact hs0) (by rw [hst3.1, hn1]; exact hs1)) caX11_256 kX11 (ty_44 hY) ⟨by decide, by decide, by decide, by decide⟩ rfl rfl (Nat.le_of_ble_eq_true rfl) dX11_keep_247 ?_
                  rintro v σ' ⟨rfl, h2⟩; rw [h2]; clear h2; rw [wkS_c hst3]
                  show hW _ _ _ _ _ _ _ _ _ _ _ _ _ 250 [(0, .ref (ad G 44)), (1, .int d), (5, .int e1), (6, .int i)] [.int (WK σ1 e1 q2)] (sI σ2 71 ((60 * d) + i).toNatClampNeg q) 0 0
                  refine h_istore C [(5, .int (WK σ1 e1 q2)), (0, .ref (ad G 44)), (1, .int d), (6, .int i)] dX11_keep_250 (by decide) rfl ?_
                  refine h_iinc C [(6, .int (i + 1)), (5, .int (WK σ1 e1 q2)), (0, .ref (ad G 44)), (1, .int d)] 3 (i + 1) dX11_keep_252 rfl rfl (by decide) rfl ?_
                  refine h_goto C 209 dX11_keep_255 (by decide) ?_
                  refine h_sub [2, 3, 1, 0] rfl ?_
                  refine ih ((WK σ1 e1 q2), (i + 1), (sI σ2 71 ((60 * d) + i).toNatClampNeg q)) ?_ ?_
                  · have hWd := hB1.2 e1 q hI.2.2.2.1.1 hI.2.2.2.1.2 hq.1.1 hq.1.2
                    have hqq : q2 = q := by
                      have h1 := hq2.2.1
                      have h2 := hq.2.1
                      by_cases z1 : q2 < q
                      · exact absurd h1 (hq.2.2 q2 hq2.1.1 z1)
                      · by_cases z2 : q < q2
                        · exact absurd h2 (hq2.2.2 q hq.1.1 z2)
                        · clear C; grind
                    rw [hqq]
                    refine ⟨(le_succ hI.1 hil).1, (le_succ hI.1 hil).2, ?_, ⟨Int32.le_trans hI.2.2.2.1.1 hWd.1, hWd.2⟩, ?_, ?_⟩
                    · rw [tn_succ hI.1 hil]
                      exact ⟨e1, q, hI.2.2.1, hq, rfl⟩
                    · have h1 := hq.2.1.2
                      have h2 := hI.2.2.2.2.1
                      clear C
                      grind
                    · refine ⟨fun j => if j = i.toNatClampNeg then q else f j, ?_, fun j hj => ?_⟩
                      · rw [tn_succ hI.1 hil, hb.2, hf.1]
                        unfold kp4
                        rw [rgA_c (f := f) (g := fun j => if j = i.toNatClampNeg then q else f j) (fun j hj => by rw [if_neg (by omega)])]
                        exact rgA_s (by rw [if_pos rfl])
                      · rw [tn_succ hI.1 hil] at hj
                        by_cases hje : j = i.toNatClampNeg
                        · rw [hje]
                          simp only [if_true]
                          exact ⟨e1, hI.2.2.1, hq⟩
                        · simp only [if_neg hje]
                          exact hf.2 j (by omega)
                  · exact tm_lt hil
              · refine ⟨by decide, hmb.1, by rw [tn_0]; rfl, ⟨by decide, hB1.1.1⟩, by rw [tn_0]; clear C; grind, fun _ => 0, ?_, fun j hj => ?_⟩
                · rw [tn_0]
                  unfold kp4
                  rw [rgA_0]
                · rw [tn_0] at hj; omega
            · refine h_iconst C 0 dX11_keep_185 (by decide) ?_
              refine h_iret C rfl (Nat.zero_le _) (Nat.zero_le _) dX11_keep_186 ?_
              have hw0 : w = 0 := by
                rcases hok.2 with q | q | q | q
                · exact q
                · exact absurd q c_116
                · exact absurd q c_182
                · exact absurd q.1 c_63
              exact ⟨_, rfl, Or.inr ⟨hok, rfl, Or.inl ⟨hw0, by rw [hw0]⟩⟩⟩
          · refine h_iload_n C 4 dX11_keep_144 rfl rfl ?_
            refine h_iconst C 3 dX11_keep_145 (by decide) ?_
            refine h_icmp_ne C 180 dX11_keep_146 (by decide) (fun c_146 => ?_) (fun c_146 => ?_)
            · refine h_iload_n C 4 dX11_keep_180 rfl rfl ?_
              refine h_iconst C 4 dX11_keep_181 (by decide) ?_
              refine h_icmp_eq C 187 dX11_keep_182 (by decide) (fun c_182 => ?_) (fun c_182 => ?_)
              · have hw4 : w = 4 := c_182
                subst hw4
                have hs : sSt σ (sI (kp0 σ d 4) 70 d.toNatClampNeg 0) := by
                  refine ⟨?_, ?_, ?_⟩
                  · rw [sI_g (by omega), kp0_g (by omega) (by omega)]
                  · rw [sI_g (by omega), kp0_g (by omega) (by omega)]
                  · rw [sI_g (by omega), kp0_g (by omega) (by omega)]
                have hB := (hP _ hs).1
                have hE := (hP _ hs).2.1
                have hM := (hP _ hs).2.2
                have hY : LY (sI (kp0 σ d 4) 70 d.toNatClampNeg 0) := (kp0_Y (d := d) (w := 4) hY0).same rfl rfl rfl
                show hW _ _ _ _ _ _ _ _ _ _ _ _ _ 187 [(5, .int 0), (4, .int g), (0, .ref (ad G 44)), (1, .int d), (2, .int 4), (3, .int k)] [] (sI (kp0 σ d 4) 70 d.toNatClampNeg 0) 0 0
                refine h_aload_n C 2 dX11_keep_187 rfl rfl ?_
                refine h_callV C (m_X11_findFewest hY (by rw [hs.1]; exact hs0) (by rw [hs.1]; exact hs1) hB) caX11_260 kX11 (ty_44 hY) ⟨by decide, by decide, by decide, by decide⟩ rfl rfl (Nat.le_of_ble_eq_true rfl) dX11_keep_188 ?_
                rintro v σ1 ⟨rfl, hm⟩
                have hY : LY σ1 := hm.1.LY hY
                have hY1 := hY
                have hn1 : gI σ1 44 23 = gI σ 44 23 := (frM_n hm.1).trans hs.1
                have hB1 : WB σ1 := frM_WB hm.1 hB
                have hal : mAll σ1 = mAll (sI (kp0 σ d 4) 70 d.toNatClampNeg 0) := frM_all hm.1
                have hmb := hM σ1 hm
                show hW _ _ _ _ _ _ _ _ _ _ _ _ _ 191 [(5, .int 0), (4, .int g), (0, .ref (ad G 44)), (1, .int d), (2, .int 4), (3, .int k)] [] σ1 0 0
                refine h_aload_n C 2 dX11_keep_191 rfl rfl ?_
                refine gfX11_121 C (ty_44 hY) dX11_keep_192 ?_
                refine h_tref (b := 70) (rf_44_36 hY) ?_
                refine h_iload_n C 3 dX11_keep_195 rfl rfl ?_
                refine h_aload_n C 2 dX11_keep_196 rfl rfl ?_
                refine gfX11_91 C (ty_44 hY) dX11_keep_197 ?_
                refine h_tref (b := 62) (rf_44_26 hY) ?_
                refine h_iconst C 0 dX11_keep_200 (by decide) ?_
                refine h_iald C (ty_62 hY) (vp32 (N := 4096) (by decide) (by decide) (by decide)) dX11_keep_201 ?_
                show hW _ _ _ _ _ _ _ _ _ _ _ _ _ 202 [(5, .int 0), (4, .int g), (0, .ref (ad G 44)), (1, .int d), (2, .int 4), (3, .int k)] [.int (gI σ1 62 0), .int d, .ref (ad G 70)] σ1 0 0
                refine h_iast C _ (ty_70 hY) hd.v dX11_keep_202 rfl ?_
                refine h_iconst C 0 dX11_keep_203 (by decide) ?_
                refine h_istore C [(5, .int 0), (4, .int g), (0, .ref (ad G 44)), (1, .int d), (2, .int 4), (3, .int k)] dX11_keep_204 (by decide) rfl ?_
                refine h_iconst C 0 dX11_keep_206 (by decide) ?_
                refine h_istore C [(6, .int 0), (5, .int 0), (4, .int g), (0, .ref (ad G 44)), (1, .int d), (2, .int 4), (3, .int k)] dX11_keep_207 (by decide) rfl ?_
                refine h_sub [3, 4, 1, 0] rfl ?_
                refine h_loop (α := Int32 × Int32 × ha_St) (fun (e1, i, σ2) => 0 ≤ i ∧ i ≤ gI σ1 62 0 ∧ mPath σ1 i.toNatClampNeg e1 ∧ (0 ≤ e1 ∧ e1 ≤ mAll σ1) ∧ gI σ1 62 e1.toNatClampNeg + i = gI σ1 62 0 ∧ ∃ f, σ2 = kp4 σ1 d i.toNatClampNeg f ∧ ∀ j, j < i.toNatClampNeg → ∃ e, mPath σ1 j e ∧ sfQ σ1 e (f j)) (fun (e1, i, σ2) => tm (gI σ1 62 0) i) (fun (e1, i, σ2) => [(0, .ref (ad G 44)), (1, .int d), (5, .int e1), (6, .int i)]) (fun (e1, i, σ2) => []) (fun (e1, i, σ2) => σ2) (fun (e1, i, σ2) => 0) (fun (e1, i, σ2) => 0) ?_ (0, 0, (sI σ1 70 d.toNatClampNeg (gI σ1 62 0))) ?_
                · rintro ⟨e1, i, σ2⟩ hI ih
                  show hW _ _ _ _ _ _ _ _ _ _ _ _ _ 209 [(0, .ref (ad G 44)), (1, .int d), (5, .int e1), (6, .int i)] [] σ2 0 0
                  obtain ⟨f, hf⟩ := hI.2.2.2.2.2
                  have hY : LY σ2 := by rw [hf.1]; exact rgA_Y (hY1.same rfl rfl rfl)
                  have h62 : gI σ2 62 = gI σ1 62 := by rw [hf.1]; unfold kp4; rw [gI_rgN (by omega), sI_g (by omega)]
                  have hst : sSt σ1 σ2 := by
                    refine ⟨?_, ?_, ?_⟩ <;> rw [hf.1] <;> unfold kp4 <;> rw [gI_rgN (by omega), sI_g (by omega)]
                  refine h_iload C 3 dX11_keep_209 rfl ?_
                  refine h_aload_n C 0 dX11_keep_211 rfl rfl ?_
                  refine gfX11_91 C (ty_44 hY) dX11_keep_212 ?_
                  refine h_tref (b := 62) (rf_44_26 hY) ?_
                  refine h_iconst C 0 dX11_keep_215 (by decide) ?_
                  refine h_iald C (ty_62 hY) (vp32 (N := 4096) (by decide) (by decide) (by decide)) dX11_keep_216 ?_
                  show hW _ _ _ _ _ _ _ _ _ _ _ _ _ 217 [(0, .ref (ad G 44)), (1, .int d), (5, .int e1), (6, .int i)] [.int (gI σ2 62 0), .int i] σ2 0 0
                  refine h_icmp_ge C 258 dX11_keep_217 (by decide) (fun c_217 => ?_) (fun c_217 => ?_)
                  · refine h_iconst C 0 dX11_keep_258 (by decide) ?_
                    refine h_iret C rfl (Nat.zero_le _) (Nat.zero_le _) dX11_keep_259 ?_
                    have he := eq_end hI.2.1 (by rw [← h62]; exact Int32.not_lt.mpr c_217)
                    rw [he] at hf
                    exact ⟨_, rfl, Or.inr ⟨hok, rfl, Or.inr (Or.inr (Or.inr ⟨rfl, σ1, f, hm, hf⟩))⟩⟩
                  · have hil : i < gI σ1 62 0 := by rw [← h62]; exact Int32.not_le.mp c_217
                    have hb := t480 hd.1 hd.l hI.1 (by have h1 := hmb.2; clear C; grind)
                    have hel : e1 < mAll σ1 := by
                      have hle := hI.2.2.2.1.2
                      have hz : e1 ≠ mAll σ1 := by
                        intro z
                        have h1 := hI.2.2.2.2.1
                        rw [z, hal, hm.2.1] at h1
                        have h3 := hil
                        clear C
                        grind
                      clear C
                      grind
                    have hse : sfE σ1 e1 := hE σ1 hm e1 hI.2.2.2.1.1 (by rw [← hal]; exact hel)
                    have hB2 : WB σ2 := WB_c hst hB1
                    have hal2 : mAll σ2 = mAll σ1 := mAll_c hst
                    have hse2 : sfE σ2 e1 := (sfE_c hst h62).mpr hse
                    refine h_aload_n C 0 dX11_keep_220 rfl rfl ?_
                    refine gfX11_124 C (ty_44 hY) dX11_keep_221 ?_
                    refine h_tref (b := 71) (rf_44_37 hY) ?_
                    refine h_bipush C 60 dX11_keep_224 (by decide) ?_
                    refine h_iload_n C 1 dX11_keep_226 rfl rfl ?_
                    refine h_imul C dX11_keep_227 ?_
                    refine h_iload C 3 dX11_keep_228 rfl ?_
                    refine h_iadd C dX11_keep_230 ?_
                    refine h_aload_n C 0 dX11_keep_231 rfl rfl ?_
                    refine h_iload C 2 dX11_keep_232 rfl ?_
                    refine h_callV C (m_X11_sideFor hY (by rw [hst.1, hn1]; exact hs0) (by rw [hst.1, hn1]; exact hs1) hB2 hI.2.2.2.1.1 (by rw [hal2]; exact hI.2.2.2.1.2) hse2) caX11_263 kX11 (ty_44 hY) ⟨by decide, by decide, by decide, by decide⟩ rfl rfl (Nat.le_of_ble_eq_true rfl) dX11_keep_234 ?_
                    rintro v σ' ⟨⟨q, rfl, hq⟩, h2⟩; rw [h2]; clear h2
                    have hq : sfQ σ1 e1 q := (sfQ_c hst h62).mp hq
                    show hW _ _ _ _ _ _ _ _ _ _ _ _ _ 237 [(0, .ref (ad G 44)), (1, .int d), (5, .int e1), (6, .int i)] [.int q, .int ((60 * d) + i), .ref (ad G 71)] σ2 0 0
                    refine h_iast C _ (ty_71 hY) hb.1 dX11_keep_237 rfl ?_
                    have h623 : gI (sI σ2 71 ((60 * d) + i).toNatClampNeg q) 62 = gI σ1 62 := by rw [sI_g (by omega)]; exact h62
                    have hst3 : sSt σ1 (sI σ2 71 ((60 * d) + i).toNatClampNeg q) := ⟨by rw [sI_g (by omega)]; exact hst.1, by rw [sI_g (by omega)]; exact hst.2.1, by rw [sI_g (by omega)]; exact hst.2.2⟩
                    refine h_aload_n C 0 dX11_keep_238 rfl rfl ?_
                    refine h_iload C 2 dX11_keep_239 rfl ?_
                    refine h_aload_n C 0 dX11_keep_241 rfl rfl ?_
                    refine h_iload C 2 dX11_keep_242 rfl ?_
                    refine h_callV C (m_X11_sideFor (σ := (sI σ2 71 ((60 * d) + i).toNatClampNeg q)) (hY.same rfl rfl rfl) (by rw [hst3.1, hn1]; exact hs0) (by rw [hst3.1, hn1]; exact hs1) (WB_c hst3 hB1) hI.2.2.2.1.1 (by rw [mAll_c hst3]; exact hI.2.2.2.1.2) ((sfE_c hst3 h623).mpr hse)) caX11_263 kX11 (ty_44 hY) ⟨by decide, by decide, by decide, by decide⟩ rfl rfl (Nat.le_of_ble_eq_true rfl) dX11_keep_244 ?_
                    rintro v σ' ⟨⟨q2, rfl, hq2⟩, h2⟩; rw [h2]; clear h2
                    have hq2 : sfQ σ1 e1 q2 := (sfQ_c hst3 h623).mp hq2
                    show hW _ _ _ _ _ _ _ _ _ _ _ _ _ 247 [(0, .ref (ad G 44)), (1, .int d), (5, .int e1), (6, .int i)] [.int q2, .int e1, .ref (ad G 44)] (sI σ2 71 ((60 * d) + i).toNatClampNeg q) 0 0
                    refine h_callV C (m_X11_work (σ := (sI σ2 71 ((60 * d) + i).toNatClampNeg q)) (hY.same rfl rfl rfl) (by rw [hst3.1, hn1]; exact hs0) (by rw [hst3.1, hn1]; exact hs1)) caX11_256 kX11 (ty_44 hY) ⟨by decide, by decide, by decide, by decide⟩ rfl rfl (Nat.le_of_ble_eq_true rfl) dX11_keep_247 ?_
                    rintro v σ' ⟨rfl, h2⟩; rw [h2]; clear h2; rw [wkS_c hst3]
                    show hW _ _ _ _ _ _ _ _ _ _ _ _ _ 250 [(0, .ref (ad G 44)), (1, .int d), (5, .int e1), (6, .int i)] [.int (WK σ1 e1 q2)] (sI σ2 71 ((60 * d) + i).toNatClampNeg q) 0 0
                    refine h_istore C [(5, .int (WK σ1 e1 q2)), (0, .ref (ad G 44)), (1, .int d), (6, .int i)] dX11_keep_250 (by decide) rfl ?_
                    refine h_iinc C [(6, .int (i + 1)), (5, .int (WK σ1 e1 q2)), (0, .ref (ad G 44)), (1, .int d)] 3 (i + 1) dX11_keep_252 rfl rfl (by decide) rfl ?_
                    refine h_goto C 209 dX11_keep_255 (by decide) ?_
                    refine h_sub [2, 3, 1, 0] rfl ?_
                    refine ih ((WK σ1 e1 q2), (i + 1), (sI σ2 71 ((60 * d) + i).toNatClampNeg q)) ?_ ?_
                    · have hWd := hB1.2 e1 q hI.2.2.2.1.1 hI.2.2.2.1.2 hq.1.1 hq.1.2
                      have hqq : q2 = q := by
                        have h1 := hq2.2.1
                        have h2 := hq.2.1
                        by_cases z1 : q2 < q
                        · exact absurd h1 (hq.2.2 q2 hq2.1.1 z1)
                        · by_cases z2 : q < q2
                          · exact absurd h2 (hq2.2.2 q hq.1.1 z2)
                          · clear C; grind
                      rw [hqq]
                      refine ⟨(le_succ hI.1 hil).1, (le_succ hI.1 hil).2, ?_, ⟨Int32.le_trans hI.2.2.2.1.1 hWd.1, hWd.2⟩, ?_, ?_⟩
                      · rw [tn_succ hI.1 hil]
                        exact ⟨e1, q, hI.2.2.1, hq, rfl⟩
                      · have h1 := hq.2.1.2
                        have h2 := hI.2.2.2.2.1
                        clear C
                        grind
                      · refine ⟨fun j => if j = i.toNatClampNeg then q else f j, ?_, fun j hj => ?_⟩
                        · rw [tn_succ hI.1 hil, hb.2, hf.1]
                          unfold kp4
                          rw [rgA_c (f := f) (g := fun j => if j = i.toNatClampNeg then q else f j) (fun j hj => by rw [if_neg (by omega)])]
                          exact rgA_s (by rw [if_pos rfl])
                        · rw [tn_succ hI.1 hil] at hj
                          by_cases hje : j = i.toNatClampNeg
                          · rw [hje]
                            simp only [if_true]
                            exact ⟨e1, hI.2.2.1, hq⟩
                          · simp only [if_neg hje]
                            exact hf.2 j (by omega)
                    · exact tm_lt hil
                · refine ⟨by decide, hmb.1, by rw [tn_0]; rfl, ⟨by decide, hB1.1.1⟩, by rw [tn_0]; clear C; grind, fun _ => 0, ?_, fun j hj => ?_⟩
                  · rw [tn_0]
                    unfold kp4
                    rw [rgA_0]
                  · rw [tn_0] at hj; omega
              · refine h_iconst C 0 dX11_keep_185 (by decide) ?_
                refine h_iret C rfl (Nat.zero_le _) (Nat.zero_le _) dX11_keep_186 ?_
                have hw0 : w = 0 := by
                  rcases hok.2 with q | q | q | q
                  · exact q
                  · exact absurd q c_116
                  · exact absurd q c_182
                  · exact absurd q.1 c_63
                exact ⟨_, rfl, Or.inr ⟨hok, rfl, Or.inl ⟨hw0, by rw [hw0]⟩⟩⟩
            · exact absurd c_146 c_116
        · refine h_iconst C 3 dX11_keep_119 (by decide) ?_
          refine h_aload_n C 1 dX11_keep_120 rfl rfl ?_
          refine gfX11_13 C (ty_44 hY) dX11_keep_121 ?_
          refine h_imul C dX11_keep_124 ?_
          refine h_goto C 129 dX11_keep_125 (by decide) ?_
          refine h_iast C _ (ty_70 hY) hd.v dX11_keep_129 rfl ?_
          refine h_iconst C 0 dX11_keep_130 (by decide) ?_
          refine h_istore C [(5, .int 0), (4, .int g), (0, .ref (ad G 44)), (1, .int d), (2, .int w), (3, .int k)] dX11_keep_131 (by decide) rfl ?_
          refine h_sub [2, 3, 4, 0] rfl ?_
          refine h_loop (α := Int32 × ha_St) (fun (i, σ1) => 0 ≤ i ∧ i ≤ 3 * gI σ 44 1 ∧ σ1 = kp3 σ d i.toNatClampNeg) (fun (i, σ1) => tm (3 * gI σ 44 1) i) (fun (i, σ1) => [(0, .ref (ad G 44)), (1, .int d), (2, .int w), (5, .int i)]) (fun (i, σ1) => []) (fun (i, σ1) => σ1) (fun (i, σ1) => 0) (fun (i, σ1) => 0) ?_ (0, (sI (kp0 σ d w) 70 d.toNatClampNeg (3 * (gI (kp0 σ d w) 44 1)))) ?_
          · rintro ⟨i, σ1⟩ hI ih
            show hW _ _ _ _ _ _ _ _ _ _ _ _ _ 133 [(0, .ref (ad G 44)), (1, .int d), (2, .int w), (5, .int i)] [] σ1 0 0
            have hY : LY σ1 := by rw [hI.2.2]; exact rgA_Y ((kp0_Y (d := d) (w := 3) hY0).same rfl rfl rfl)
            have hz : gI σ1 44 1 = gI σ 44 1 := by rw [hI.2.2]; unfold kp3; rw [gI_rgN (by omega), sI_g (by omega), kp0_g (by omega) (by omega)]
            refine h_iload C 3 dX11_keep_133 rfl ?_
            refine h_iconst C 3 dX11_keep_135 (by decide) ?_
            refine h_aload_n C 0 dX11_keep_136 rfl rfl ?_
            refine gfX11_13 C (ty_44 hY) dX11_keep_137 ?_
            refine h_imul C dX11_keep_140 ?_
            refine h_icmp_ge C 180 dX11_keep_141 (by decide) (fun c_141 => ?_) (fun c_141 => ?_)
            · refine h_iload_n C 2 dX11_keep_180 rfl rfl ?_
              refine h_iconst C 4 dX11_keep_181 (by decide) ?_
              refine h_icmp_eq C 187 dX11_keep_182 (by decide) (fun c_182 => ?_) (fun c_182 => ?_)
              · exact absurd (c_116.symm.trans c_182) (by decide)
              · refine h_iconst C 0 dX11_keep_185 (by decide) ?_
                refine h_iret C rfl (Nat.zero_le _) (Nat.zero_le _) dX11_keep_186 ?_
                have he := eq_end hI.2.1 (by rw [← hz]; exact Int32.not_lt.mpr c_141)
                have hq := hI.2.2
                rw [he] at hq
                exact ⟨_, rfl, Or.inr ⟨hok, rfl, Or.inr (Or.inr (Or.inl ⟨c_116, hq⟩))⟩⟩
            · refine h_iload_n C 2 dX11_keep_144 rfl rfl ?_
              refine h_iconst C 3 dX11_keep_145 (by decide) ?_
              refine h_icmp_ne C 180 dX11_keep_146 (by decide) (fun c_146 => ?_) (fun c_146 => ?_)
              · exact absurd c_116 c_146
              · have hil : i < 3 * gI σ 44 1 := by rw [← hz]; exact Int32.not_le.mp c_141
                have hi30 : i < 30 := by have h1 := hN.1; have h2 := hN.2; clear C; grind
                have h3 := d3_n hI.1 hi30
                have hitn : i.toNatClampNeg < 30 := by have h := tn_lt hI.1 hi30; rw [show (30 : Int32).toNatClampNeg = 30 by decide] at h; exact h
                have hb := t480 hd.1 hd.l hI.1 (Int32.lt_trans hi30 (by decide))
                have hvc : vp_in (i / 3) 10 := vp32 (N := 10) h3.2.2.1 h3.2.2.2 (by decide)
                refine h_aload_n C 0 dX11_keep_149 rfl rfl ?_
                refine gfX11_124 C (ty_44 hY) dX11_keep_150 ?_
                refine h_tref (b := 71) (rf_44_37 hY) ?_
                refine h_bipush C 60 dX11_keep_153 (by decide) ?_
                refine h_iload_n C 1 dX11_keep_155 rfl rfl ?_
                refine h_imul C dX11_keep_156 ?_
                refine h_iload C 3 dX11_keep_157 rfl ?_
                refine h_iadd C dX11_keep_159 ?_
                refine h_aload_n C 0 dX11_keep_160 rfl rfl ?_
                refine h_iload C 3 dX11_keep_161 rfl ?_
                refine h_iconst C 3 dX11_keep_163 (by decide) ?_
                refine h_idiv C dX11_keep_164 (by decide) ?_
                refine h_iload C 3 dX11_keep_165 rfl ?_
                refine h_iconst C 3 dX11_keep_167 (by decide) ?_
                refine h_irem C dX11_keep_168 (by decide) ?_
                refine h_callV C (m_X11_direct hY hvc) caX11_161 kX11 (ty_44 hY) ⟨by decide, by decide, by decide, by decide⟩ rfl rfl (Nat.le_of_ble_eq_true rfl) dX11_keep_169 ?_
                rintro v σ' ⟨rfl, h2⟩; rw [h2]; clear h2
                rw [show dirV σ1 (i / 3).toNatClampNeg (i - i / 3 * 3) = dirV σ (i / 3).toNatClampNeg (i - i / 3 * 3) from dirV_c (by rw [hI.2.2]; unfold kp3; rw [gI_rgN (by omega), sI_g (by omega), kp0_g (by omega) (by omega)]) (by rw [hI.2.2]; unfold kp3; rw [gI_rgN (by omega), sI_g (by omega), kp0_g (by omega) (by omega)]) (by rw [hI.2.2]; unfold kp3; rw [gI_rgN (by omega), sI_g (by omega), kp0_g (by omega) (by omega)])]
                show hW _ _ _ _ _ _ _ _ _ _ _ _ _ 172 [(0, .ref (ad G 44)), (1, .int d), (2, .int w), (5, .int i)] [.long (dirV σ (i / 3).toNatClampNeg (i - i / 3 * 3)), .int ((60 * d) + i), .ref (ad G 71)] σ1 0 0
                refine h_l2i C dX11_keep_172 ?_
                refine h_iast C _ (ty_71 hY) hb.1 dX11_keep_173 rfl ?_
                refine h_iinc C [(5, .int (i + 1)), (0, .ref (ad G 44)), (1, .int d), (2, .int w)] 3 (i + 1) dX11_keep_174 rfl rfl (by decide) rfl ?_
                refine h_goto C 133 dX11_keep_177 (by decide) ?_
                refine h_sub [1, 2, 3, 0] rfl ?_
                refine ih ((i + 1), (sI σ1 71 ((60 * d) + i).toNatClampNeg ((dirV σ (i / 3).toNatClampNeg (i - i / 3 * 3)).toInt32))) ?_ ?_
                · refine ⟨(le_succ hI.1 hil).1, (le_succ hI.1 hil).2, ?_⟩
                  rw [tn_succ hI.1 hil, hb.2, hI.2.2]
                  unfold kp3
                  refine rgA_s ?_
                  unfold wrD
                  rw [h3.2.1, h3.1, (i32s (i.toNatClampNeg / 3) (by omega)).2.2]
                · exact tm_lt hil
          · refine ⟨by decide, by have h1 := hN.1; have h2 := hN.2; clear C; grind, ?_⟩
            rw [tn_0]
            unfold kp3
            rw [rgA_0, c_116, kp0_g (by omega) (by omega)]
      · have hw1 : w = 1 := c_63
        have hic : ¬ icV σ k = 0 := by
          rcases hok.2 with q | q | q | q
          · exact absurd (q.symm.trans hw1) (by decide)
          · exact absurd (q.symm.trans hw1) (by decide)
          · exact absurd (q.symm.trans hw1) (by decide)
          · exact q.2
        have hkv := icv hN hic
        refine h_aload_n C 1 dX11_keep_66 rfl rfl ?_
        refine gfX11_109 C (ty_44 hY) dX11_keep_67 ?_
        refine h_tref (b := 66) (rf_44_32 hY) ?_
        refine h_iload_n C 2 dX11_keep_70 rfl rfl ?_
        refine h_iload_n C 4 dX11_keep_71 rfl rfl ?_
        refine h_iast C _ (ty_66 hY) hd.v dX11_keep_72 rfl ?_
        refine h_aload_n C 1 dX11_keep_73 rfl rfl ?_
        refine gfX11_112 C (ty_44 hY) dX11_keep_74 ?_
        refine h_tref (b := 67) (rf_44_33 hY) ?_
        refine h_iload_n C 2 dX11_keep_77 rfl rfl ?_
        refine h_aload_n C 1 dX11_keep_78 rfl rfl ?_
        refine gfX11_16 C (ty_44 hY) dX11_keep_79 ?_
        refine h_tref (b := 45) (rf_44_2 hY) ?_
        refine h_iload_n C 4 dX11_keep_82 rfl rfl ?_
        refine h_iald C (ty_45 hY) hkv dX11_keep_83 ?_
        show hW _ _ _ _ _ _ _ _ _ _ _ _ _ 84 [(4, .int g), (0, .ref (ad G 44)), (1, .int d), (2, .int w), (3, .int k)] [.int (gI (kp0 σ d w) 45 k.toNatClampNeg), .int d, .ref (ad G 67)] (sI (kp0 σ d w) 66 d.toNatClampNeg k) 0 0
        refine h_iast C _ (ty_67 hY) hd.v dX11_keep_84 rfl ?_
        refine h_aload_n C 1 dX11_keep_85 rfl rfl ?_
        refine gfX11_115 C (ty_44 hY) dX11_keep_86 ?_
        refine h_tref (b := 68) (rf_44_34 hY) ?_
        refine h_iload_n C 2 dX11_keep_89 rfl rfl ?_
        refine h_aload_n C 1 dX11_keep_90 rfl rfl ?_
        refine gfX11_29 C (ty_44 hY) dX11_keep_91 ?_
        refine h_tref (b := 49) (rf_44_6 hY) ?_
        refine h_iload_n C 4 dX11_keep_94 rfl rfl ?_
        refine h_iald C (ty_49 hY) hkv dX11_keep_95 ?_
        show hW _ _ _ _ _ _ _ _ _ _ _ _ _ 96 [(4, .int g), (0, .ref (ad G 44)), (1, .int d), (2, .int w), (3, .int k)] [.int (gI (kp0 σ d w) 49 k.toNatClampNeg), .int d, .ref (ad G 68)] (sI (sI (kp0 σ d w) 66 d.toNatClampNeg k) 67 d.toNatClampNeg (gI (kp0 σ d w) 45 k.toNatClampNeg)) 0 0
        refine h_iast C _ (ty_68 hY) hd.v dX11_keep_96 rfl ?_
        refine h_aload_n C 1 dX11_keep_97 rfl rfl ?_
        refine gfX11_118 C (ty_44 hY) dX11_keep_98 ?_
        refine h_tref (b := 69) (rf_44_35 hY) ?_
        refine h_iload_n C 2 dX11_keep_101 rfl rfl ?_
        refine h_aload_n C 1 dX11_keep_102 rfl rfl ?_
        refine gfX11_32 C (ty_44 hY) dX11_keep_103 ?_
        refine h_tref (b := 50) (rf_44_7 hY) ?_
        refine h_iload_n C 4 dX11_keep_106 rfl rfl ?_
        refine h_iald C (ty_50 hY) hkv dX11_keep_107 ?_
        show hW _ _ _ _ _ _ _ _ _ _ _ _ _ 108 [(4, .int g), (0, .ref (ad G 44)), (1, .int d), (2, .int w), (3, .int k)] [.int (gI (kp0 σ d w) 50 k.toNatClampNeg), .int d, .ref (ad G 69)] (sI (sI (sI (kp0 σ d w) 66 d.toNatClampNeg k) 67 d.toNatClampNeg (gI (kp0 σ d w) 45 k.toNatClampNeg)) 68 d.toNatClampNeg (gI (kp0 σ d w) 49 k.toNatClampNeg)) 0 0
        refine h_iast C _ (ty_69 hY) hd.v dX11_keep_108 rfl ?_
        refine h_aload_n C 1 dX11_keep_109 rfl rfl ?_
        refine gfX11_121 C (ty_44 hY) dX11_keep_110 ?_
        refine h_tref (b := 70) (rf_44_36 hY) ?_
        refine h_iload_n C 2 dX11_keep_113 rfl rfl ?_
        refine h_iload_n C 3 dX11_keep_114 rfl rfl ?_
        refine h_iconst C 3 dX11_keep_115 (by decide) ?_
        refine h_icmp_ne C 128 dX11_keep_116 (by decide) (fun c_116 => ?_) (fun c_116 => ?_)
        · refine h_iconst C 0 dX11_keep_128 (by decide) ?_
          refine h_iast C _ (ty_70 hY) hd.v dX11_keep_129 rfl ?_
          refine h_iconst C 0 dX11_keep_130 (by decide) ?_
          refine h_istore C [(5, .int 0), (4, .int g), (0, .ref (ad G 44)), (1, .int d), (2, .int w), (3, .int k)] dX11_keep_131 (by decide) rfl ?_
          refine h_iload C 0 dX11_keep_133 rfl ?_
          refine h_iconst C 3 dX11_keep_135 (by decide) ?_
          refine h_aload_n C 2 dX11_keep_136 rfl rfl ?_
          refine gfX11_13 C (ty_44 hY) dX11_keep_137 ?_
          show hW _ _ _ _ _ _ _ _ _ _ _ _ _ 140 [(5, .int 0), (4, .int g), (0, .ref (ad G 44)), (1, .int d), (2, .int w), (3, .int k)] [.int (gI (kp0 σ d w) 44 1), .int 3, .int 0] (sI (sI (sI (sI (sI (kp0 σ d w) 66 d.toNatClampNeg k) 67 d.toNatClampNeg (gI (kp0 σ d w) 45 k.toNatClampNeg)) 68 d.toNatClampNeg (gI (kp0 σ d w) 49 k.toNatClampNeg)) 69 d.toNatClampNeg (gI (kp0 σ d w) 50 k.toNatClampNeg)) 70 d.toNatClampNeg 0) 0 0
          refine h_imul C dX11_keep_140 ?_
          refine h_icmp_ge C 180 dX11_keep_141 (by decide) (fun c_141 => ?_) (fun c_141 => ?_)
          · refine h_iload_n C 4 dX11_keep_180 rfl rfl ?_
            refine h_iconst C 4 dX11_keep_181 (by decide) ?_
            refine h_icmp_eq C 187 dX11_keep_182 (by decide) (fun c_182 => ?_) (fun c_182 => ?_)
            · exact absurd (c_63.symm.trans c_182) (by decide)
            · refine h_iconst C 0 dX11_keep_185 (by decide) ?_
              refine h_iret C rfl (Nat.zero_le _) (Nat.zero_le _) dX11_keep_186 ?_
              refine ⟨_, rfl, Or.inr ⟨hok, rfl, Or.inr (Or.inl ⟨hw1, hic, ?_⟩)⟩⟩
              rw [hw1]
              unfold kp1
              rw [kp0_g (x := 45) (by omega) (by omega), kp0_g (x := 49) (by omega) (by omega), kp0_g (x := 50) (by omega) (by omega)]
          · refine h_iload_n C 4 dX11_keep_144 rfl rfl ?_
            refine h_iconst C 3 dX11_keep_145 (by decide) ?_
            refine h_icmp_ne C 180 dX11_keep_146 (by decide) (fun c_146 => ?_) (fun c_146 => ?_)
            · refine h_iload_n C 4 dX11_keep_180 rfl rfl ?_
              refine h_iconst C 4 dX11_keep_181 (by decide) ?_
              refine h_icmp_eq C 187 dX11_keep_182 (by decide) (fun c_182 => ?_) (fun c_182 => ?_)
              · exact absurd (c_63.symm.trans c_182) (by decide)
              · refine h_iconst C 0 dX11_keep_185 (by decide) ?_
                refine h_iret C rfl (Nat.zero_le _) (Nat.zero_le _) dX11_keep_186 ?_
                refine ⟨_, rfl, Or.inr ⟨hok, rfl, Or.inr (Or.inl ⟨hw1, hic, ?_⟩)⟩⟩
                rw [hw1]
                unfold kp1
                rw [kp0_g (x := 45) (by omega) (by omega), kp0_g (x := 49) (by omega) (by omega), kp0_g (x := 50) (by omega) (by omega)]
            · exact absurd c_146 c_116
        · exact absurd (c_63.symm.trans c_116) (by decide)
    · refine h_iconst C (-1) dX11_keep_47 (by decide) ?_
      refine h_iret C rfl (Nat.zero_le _) (Nat.zero_le _) dX11_keep_48 ?_
      exact ⟨_, rfl, Or.inl ⟨isB_0 hJ c_44, rfl, rfl⟩⟩
  · refine h_aload_n C 0 dX11_keep_0 rfl rfl ?_
    refine h_iload_n C 1 dX11_keep_1 rfl rfl ?_
    refine h_callV C (m_X11_isShelf (hY.same rfl rfl rfl)) caX11_272 kX11 (ty_44 hY) ⟨by decide, by decide, by decide, by decide⟩ rfl rfl (Nat.le_of_ble_eq_true rfl) dX11_keep_2 ?_
    rintro v σ' ⟨rfl, h2⟩; rw [h2]; clear h2
    show hW _ _ _ _ _ _ _ _ _ _ _ _ _ 5 [(0, .ref (ad G 44)), (1, .int d), (2, .int w), (3, .int k)] [.int (inV d 0 7)] σ 0 0
    refine h_if_eq C 39 dX11_keep_5 (by decide) (fun c_5 => ?_) (fun c_5 => ?_)
    · refine h_iconst C 0 dX11_keep_39 (by decide) ?_
      refine J_1 0 ?_
      exact isB0 (fun q => inV_0 c_5 q.1)
    · refine h_iload_n C 2 dX11_keep_8 rfl rfl ?_
      refine h_if_eq C 35 dX11_keep_9 (by decide) (fun c_9 => ?_) (fun c_9 => ?_)
      · refine h_iconst C 1 dX11_keep_35 (by decide) ?_
        refine h_goto C 40 dX11_keep_36 (by decide) ?_
        refine J_1 1 ?_
        exact isB1 ⟨inV_1 c_5, Or.inl c_9⟩
      · refine h_iload_n C 2 dX11_keep_12 rfl rfl ?_
        refine h_iconst C 3 dX11_keep_13 (by decide) ?_
        refine h_icmp_eq C 35 dX11_keep_14 (by decide) (fun c_14 => ?_) (fun c_14 => ?_)
        · refine h_iconst C 1 dX11_keep_35 (by decide) ?_
          refine h_goto C 40 dX11_keep_36 (by decide) ?_
          refine J_1 1 ?_
          exact isB1 ⟨inV_1 c_5, Or.inr (Or.inl c_14)⟩
        · refine h_iload_n C 2 dX11_keep_17 rfl rfl ?_
          refine h_iconst C 4 dX11_keep_18 (by decide) ?_
          refine h_icmp_eq C 35 dX11_keep_19 (by decide) (fun c_19 => ?_) (fun c_19 => ?_)
          · refine h_iconst C 1 dX11_keep_35 (by decide) ?_
            refine h_goto C 40 dX11_keep_36 (by decide) ?_
            refine J_1 1 ?_
            exact isB1 ⟨inV_1 c_5, Or.inr (Or.inr (Or.inl c_19))⟩
          · refine h_iload_n C 2 dX11_keep_22 rfl rfl ?_
            refine h_iconst C 1 dX11_keep_23 (by decide) ?_
            refine h_icmp_ne C 39 dX11_keep_24 (by decide) (fun c_24 => ?_) (fun c_24 => ?_)
            · refine h_iconst C 0 dX11_keep_39 (by decide) ?_
              refine J_1 0 ?_
              exact isB0 (fun q => q.2.elim c_9 (fun q => q.elim c_14 (fun q => q.elim c_19 (fun q => c_24 q.1))))
            · refine h_aload_n C 0 dX11_keep_27 rfl rfl ?_
              refine h_iload_n C 3 dX11_keep_28 rfl rfl ?_
              refine h_callV C (m_X11_isContact hY hN) caX11_142 kX11 (ty_44 hY) ⟨by decide, by decide, by decide, by decide⟩ rfl rfl (Nat.le_of_ble_eq_true rfl) dX11_keep_29 ?_
              rintro v σ' ⟨rfl, h2⟩; rw [h2]; clear h2
              show hW _ _ _ _ _ _ _ _ _ _ _ _ _ 32 [(0, .ref (ad G 44)), (1, .int d), (2, .int w), (3, .int k)] [.int (icV σ k)] σ 0 0
              refine h_if_eq C 39 dX11_keep_32 (by decide) (fun c_32 => ?_) (fun c_32 => ?_)
              · refine h_iconst C 0 dX11_keep_39 (by decide) ?_
                refine J_1 0 ?_
                exact isB0 (fun q => q.2.elim c_9 (fun q => q.elim c_14 (fun q => q.elim c_19 (fun q => q.2 c_32))))
              · refine h_iconst C 1 dX11_keep_35 (by decide) ?_
                refine h_goto C 40 dX11_keep_36 (by decide) ?_
                refine J_1 1 ?_
                exact isB1 ⟨inV_1 c_5, Or.inr (Or.inr (Or.inr ⟨c_24, c_32⟩))⟩
