/-! ===== write of the class ===== -/
theorem FrX.of {p b : Nat} {S S1 : gS} (h : Fr (4 + 5 * p) (9 + 5 * p) S S1) : FrX p b S S1 := fun a ha _ => h a ha
theorem FrX.trans {p b : Nat} {S S1 S2 : gS} (h : FrX p b S S1) (g : FrX p b S1 S2) : FrX p b S S2 := fun a ha hb => (h a ha hb).trans (g a ha hb)
theorem PlanC.frX {S S1 : gS} {p : Nat} {l : List mStep} (h : PlanC S p l) (hl : l.length ≤ 6) (e : ∀ a, p ≤ a → a < p + 9 → a ≠ p + 2 → EqA S S1 a) : PlanC S1 p l := by
  refine ⟨by rw [(e p (by omega) (by omega) (by omega)).1]; exact h.1, fun k st hk => ?_⟩
  have hlt : k < l.length := (List.getElem?_eq_some_iff.mp hk).1
  have ee := e (p + 3 + k) (by omega) (by omega) (by omega)
  rw [ee.1, ee.1, ee.1, ee.2.1]
  exact h.2 k st hk
theorem MigC.frX {S S1 : gS} {p : Nat} {l : List mStep} {sc : List mCol} (h : MigC S p l sc) (hl : l.length ≤ 6) (e : ∀ a, p ≤ a → a < p + 9 → a ≠ p + 2 → EqA S S1 a) : MigC S1 p l sc := by
  refine ⟨h.1.frX hl e, fun k st hk => ?_⟩
  have hlt : k < l.length := (List.getElem?_eq_some_iff.mp hk).1
  have ee := e (p + 3 + k) (by omega) (by omega) (by omega)
  rw [ee.1, ee.1]
  exact h.2 k st hk
def fFill (S4 : gS) (w5 : Nat) (p2 : Int32) : Option gS :=
g_jn (fun (S7 : gS) => (
g_cVV S7 4 w5 (f_X4_markWritten S7 w5) fun S9 =>
some S9)) fun jb8 => (
if p2 = 0 then (
g_getR S4 8 2 0 fun a10 =>
g_getR S4 4 3 w5 fun a11 =>
g_getR S4 8 6 0 fun a12 =>
g_cVV S4 1 a10 (f_X1_putInto S4 a10 a11 a12) fun S13 =>
g_getI S13 8 10 0 fun x14 =>
if x14 = 0 then (
jb8 S13)
else (
g_getR S13 8 9 0 fun a15 =>
g_getR S13 4 3 w5 fun a16 =>
g_getR S13 4 4 w5 fun a17 =>
g_cVV S13 3 a15 (f_X3_makeUp S13 a15 a16 a17) fun S18 =>
jb8 S18))
else (
g_getR S4 8 2 0 fun a19 =>
g_getR S4 4 4 w5 fun a20 =>
g_getR S4 8 7 0 fun a21 =>
g_cVV S4 1 a19 (f_X1_putInto S4 a19 a20 a21) fun S22 =>
g_getR S22 8 9 0 fun a23 =>
g_getR S22 4 4 w5 fun a24 =>
g_getR S22 4 3 w5 fun a25 =>
g_getR S22 8 6 0 fun a26 =>
g_getI S22 5 2 a26 fun x27 =>
g_cVV S22 3 a23 (f_X3_makeDown S22 a23 a24 a25 x27) fun S28 =>
jb8 S28))
theorem putDraft_eq (S : gS) (p1 p2 : Int32) : f_X8_putDraft S 0 p1 p2 = g_getR S 8 1 0 fun a1 => g_cVI S 7 a1 (f_X7_placeUnder S a1 p1) fun x3 S2 => if x3 < 0 then (g_getR S2 8 1 0 fun a29 => g_cVR S2 7 a29 (f_X7_insert S2 a29 p1) fun a31 S30 => fFill S30 a31 p2) else (g_getR S2 8 1 0 fun a32 => g_getR S2 7 0 a32 fun a33 => g_ldR S2 13 a33 x3 fun a34 => fFill S2 a34 p2) := rfl
theorem fill_fin {S S' : gS} {p b fp ff : Nat} {k0 s0 : Int32} {sc nx : List mCol} {run : Bool} {V1 V2 : List mV} (hI : Imm S') (hp : p < 40) (e : FrX p b S S') (h1 : gfI S' 256 (4 + 5 * p) = k0) (h2 : gfI S' 257 (4 + 5 * p) = s0) (sw : RowSw S' p fp ff) (F1 : FormC (gaL S' (fp + 1)) (tys sc) V1) (F2 : run = true → FormC (gaL S' (ff + 1)) (tys nx) V2) : ∃ S1, (g_cVV S' 4 (4 + 5 * p) (f_X4_markWritten S' (4 + 5 * p)) fun S9 => some S9) = some S1 ∧ Imm S1 ∧ FrX p b S S1 ∧ OneR S1 p ∧ RowC S1 p (k0, if s0 = 1 then 0 else s0, 0, V1, V2) sc nx run := by
  have hr := hI.row hp
  unfold f_X4_markWritten
  simp only [g_getI, g_getL, g_getR, g_putI, g_putZ, g_putL, g_putR, g_ldI, g_ldL, g_ldR, g_stI, g_stZ, g_stL, g_stR, g_alen, g_ldX, g_cVI, g_cVL, g_cVR, g_cVV, g_cI, g_cL, g_cN, g_lt, g_jn, g_cpI, g_cpL, g_z, Nat.reduceMul, Nat.reduceAdd, Option.bind_some, or_true, true_or, if_true, q_pI_fI, q_pI_fL, q_pI_fR, q_pI_aI, q_pI_aL, q_pI_aR, q_pI_K, q_pI_ln, q_pI_n, q_pI_sl, q_pI_is, q_pI_ck, q_pL_fI, q_pL_fL, q_pL_fR, q_pL_aI, q_pL_aL, q_pL_aR, q_pL_K, q_pL_ln, q_pL_n, q_pL_sl, q_pL_is, q_pL_ck, q_pR_fI, q_pR_fL, q_pR_fR, q_pR_aI, q_pR_aL, q_pR_aR, q_pR_K, q_pR_ln, q_pR_n, q_pR_sl, q_pR_is, q_pR_ck, q_rI_fI, q_rI_fL, q_rI_fR, q_rI_aI, q_rI_aL, q_rI_aR, q_rI_K, q_rI_ln, q_rI_n, q_rI_sl, q_rI_is, q_rI_ck, q_rL_fI, q_rL_fL, q_rL_fR, q_rL_aI, q_rL_aL, q_rL_aR, q_rL_K, q_rL_ln, q_rL_n, q_rL_sl, q_rL_is, q_rL_ck, q_rR_fI, q_rR_fL, q_rR_fR, q_rR_aI, q_rR_aL, q_rR_aR, q_rR_K, q_rR_ln, q_rR_n, q_rR_sl, q_rR_is, q_rR_ck, g_ck_t hr]
  rw [g_up_f (show (257 : Nat) ≠ 258 by decide), h2]
  have e1 : Fr (4 + 5 * p) (9 + 5 * p) S' (g_pI S' 258 (4 + 5 * p) 0) := Fr.pI (by omega) (by omega)
  have e2 : Fr (4 + 5 * p) (9 + 5 * p) S' (g_pI (g_pI S' 258 (4 + 5 * p) 0) 257 (4 + 5 * p) 0) := e1.trans (Fr.pI (by omega) (by omega))
  by_cases c : s0 = 1
  · rw [if_pos c, if_pos c]
    refine ⟨_, rfl, hI.of rfl rfl rfl rfl rfl, e.trans (FrX.of e2), ⟨fp, ff, sw⟩, ?_, ?_, ?_, fp, ff, sw, F1, F2⟩
    · simp only [q_pI_fI, q_pI_fL, q_pI_fR, q_pI_aI, q_pI_aL, q_pI_aR, q_pI_K, q_pI_ln, q_pI_n, q_pI_sl, q_pI_is, q_pI_ck, q_pL_fI, q_pL_fL, q_pL_fR, q_pL_aI, q_pL_aL, q_pL_aR, q_pL_K, q_pL_ln, q_pL_n, q_pL_sl, q_pL_is, q_pL_ck, q_pR_fI, q_pR_fL, q_pR_fR, q_pR_aI, q_pR_aL, q_pR_aR, q_pR_K, q_pR_ln, q_pR_n, q_pR_sl, q_pR_is, q_pR_ck, q_rI_fI, q_rI_fL, q_rI_fR, q_rI_aI, q_rI_aL, q_rI_aR, q_rI_K, q_rI_ln, q_rI_n, q_rI_sl, q_rI_is, q_rI_ck, q_rL_fI, q_rL_fL, q_rL_fR, q_rL_aI, q_rL_aL, q_rL_aR, q_rL_K, q_rL_ln, q_rL_n, q_rL_sl, q_rL_is, q_rL_ck, q_rR_fI, q_rR_fL, q_rR_fR, q_rR_aI, q_rR_aL, q_rR_aR, q_rR_K, q_rR_ln, q_rR_n, q_rR_sl, q_rR_is, q_rR_ck]; rw [g_up_f (by decide), g_up_f (by decide)]; exact h1
    · simp only [q_pI_fI, q_pI_fL, q_pI_fR, q_pI_aI, q_pI_aL, q_pI_aR, q_pI_K, q_pI_ln, q_pI_n, q_pI_sl, q_pI_is, q_pI_ck, q_pL_fI, q_pL_fL, q_pL_fR, q_pL_aI, q_pL_aL, q_pL_aR, q_pL_K, q_pL_ln, q_pL_n, q_pL_sl, q_pL_is, q_pL_ck, q_pR_fI, q_pR_fL, q_pR_fR, q_pR_aI, q_pR_aL, q_pR_aR, q_pR_K, q_pR_ln, q_pR_n, q_pR_sl, q_pR_is, q_pR_ck, q_rI_fI, q_rI_fL, q_rI_fR, q_rI_aI, q_rI_aL, q_rI_aR, q_rI_K, q_rI_ln, q_rI_n, q_rI_sl, q_rI_is, q_rI_ck, q_rL_fI, q_rL_fL, q_rL_fR, q_rL_aI, q_rL_aL, q_rL_aR, q_rL_K, q_rL_ln, q_rL_n, q_rL_sl, q_rL_is, q_rL_ck, q_rR_fI, q_rR_fL, q_rR_fR, q_rR_aI, q_rR_aL, q_rR_aR, q_rR_K, q_rR_ln, q_rR_n, q_rR_sl, q_rR_is, q_rR_ck]; rw [g_up_s]
    · simp only [q_pI_fI, q_pI_fL, q_pI_fR, q_pI_aI, q_pI_aL, q_pI_aR, q_pI_K, q_pI_ln, q_pI_n, q_pI_sl, q_pI_is, q_pI_ck, q_pL_fI, q_pL_fL, q_pL_fR, q_pL_aI, q_pL_aL, q_pL_aR, q_pL_K, q_pL_ln, q_pL_n, q_pL_sl, q_pL_is, q_pL_ck, q_pR_fI, q_pR_fL, q_pR_fR, q_pR_aI, q_pR_aL, q_pR_aR, q_pR_K, q_pR_ln, q_pR_n, q_pR_sl, q_pR_is, q_pR_ck, q_rI_fI, q_rI_fL, q_rI_fR, q_rI_aI, q_rI_aL, q_rI_aR, q_rI_K, q_rI_ln, q_rI_n, q_rI_sl, q_rI_is, q_rI_ck, q_rL_fI, q_rL_fL, q_rL_fR, q_rL_aI, q_rL_aL, q_rL_aR, q_rL_K, q_rL_ln, q_rL_n, q_rL_sl, q_rL_is, q_rL_ck, q_rR_fI, q_rR_fL, q_rR_fR, q_rR_aI, q_rR_aL, q_rR_aR, q_rR_K, q_rR_ln, q_rR_n, q_rR_sl, q_rR_is, q_rR_ck]; rw [g_up_f (by decide), g_up_s]
  · rw [if_neg c, if_neg c]
    refine ⟨_, rfl, hI.of rfl rfl rfl rfl rfl, e.trans (FrX.of e1), ⟨fp, ff, sw⟩, ?_, ?_, ?_, fp, ff, sw, F1, F2⟩
    · simp only [q_pI_fI, q_pI_fL, q_pI_fR, q_pI_aI, q_pI_aL, q_pI_aR, q_pI_K, q_pI_ln, q_pI_n, q_pI_sl, q_pI_is, q_pI_ck, q_pL_fI, q_pL_fL, q_pL_fR, q_pL_aI, q_pL_aL, q_pL_aR, q_pL_K, q_pL_ln, q_pL_n, q_pL_sl, q_pL_is, q_pL_ck, q_pR_fI, q_pR_fL, q_pR_fR, q_pR_aI, q_pR_aL, q_pR_aR, q_pR_K, q_pR_ln, q_pR_n, q_pR_sl, q_pR_is, q_pR_ck, q_rI_fI, q_rI_fL, q_rI_fR, q_rI_aI, q_rI_aL, q_rI_aR, q_rI_K, q_rI_ln, q_rI_n, q_rI_sl, q_rI_is, q_rI_ck, q_rL_fI, q_rL_fL, q_rL_fR, q_rL_aI, q_rL_aL, q_rL_aR, q_rL_K, q_rL_ln, q_rL_n, q_rL_sl, q_rL_is, q_rL_ck, q_rR_fI, q_rR_fL, q_rR_fR, q_rR_aI, q_rR_aL, q_rR_aR, q_rR_K, q_rR_ln, q_rR_n, q_rR_sl, q_rR_is, q_rR_ck]; rw [g_up_f (by decide)]; exact h1
    · simp only [q_pI_fI, q_pI_fL, q_pI_fR, q_pI_aI, q_pI_aL, q_pI_aR, q_pI_K, q_pI_ln, q_pI_n, q_pI_sl, q_pI_is, q_pI_ck, q_pL_fI, q_pL_fL, q_pL_fR, q_pL_aI, q_pL_aL, q_pL_aR, q_pL_K, q_pL_ln, q_pL_n, q_pL_sl, q_pL_is, q_pL_ck, q_pR_fI, q_pR_fL, q_pR_fR, q_pR_aI, q_pR_aL, q_pR_aR, q_pR_K, q_pR_ln, q_pR_n, q_pR_sl, q_pR_is, q_pR_ck, q_rI_fI, q_rI_fL, q_rI_fR, q_rI_aI, q_rI_aL, q_rI_aR, q_rI_K, q_rI_ln, q_rI_n, q_rI_sl, q_rI_is, q_rI_ck, q_rL_fI, q_rL_fL, q_rL_fR, q_rL_aI, q_rL_aL, q_rL_aR, q_rL_K, q_rL_ln, q_rL_n, q_rL_sl, q_rL_is, q_rL_ck, q_rR_fI, q_rR_fL, q_rR_fR, q_rR_aI, q_rR_aL, q_rR_aR, q_rR_K, q_rR_ln, q_rR_n, q_rR_sl, q_rR_is, q_rR_ck]; rw [g_up_f (by decide)]; exact h2
    · simp only [q_pI_fI, q_pI_fL, q_pI_fR, q_pI_aI, q_pI_aL, q_pI_aR, q_pI_K, q_pI_ln, q_pI_n, q_pI_sl, q_pI_is, q_pI_ck, q_pL_fI, q_pL_fL, q_pL_fR, q_pL_aI, q_pL_aL, q_pL_aR, q_pL_K, q_pL_ln, q_pL_n, q_pL_sl, q_pL_is, q_pL_ck, q_pR_fI, q_pR_fL, q_pR_fR, q_pR_aI, q_pR_aL, q_pR_aR, q_pR_K, q_pR_ln, q_pR_n, q_pR_sl, q_pR_is, q_pR_ck, q_rI_fI, q_rI_fL, q_rI_fR, q_rI_aI, q_rI_aL, q_rI_aR, q_rI_K, q_rI_ln, q_rI_n, q_rI_sl, q_rI_is, q_rI_ck, q_rL_fI, q_rL_fL, q_rL_fR, q_rL_aI, q_rL_aL, q_rL_aR, q_rL_K, q_rL_ln, q_rL_n, q_rL_sl, q_rL_is, q_rL_ck, q_rR_fI, q_rR_fL, q_rR_fR, q_rR_aI, q_rR_aL, q_rR_aR, q_rR_K, q_rR_ln, q_rR_n, q_rR_sl, q_rR_is, q_rR_ck]; rw [g_up_s]
theorem fill_C {S : gS} {p sA sB pA pB : Nat} {vr : Int32 × Bool} {mg : List mStep} {sc nx : List mCol} {dr : mDr} {p2 k0 s0 : Int32} {x0 : Int32} {old fr0 : List mV} (hI : Imm S) (hp : p < 40) (h1 : HouseC S sA sB pA pB vr) (h4 : SchC S sA sc) (h5 : DraftC S dr) (h8 : vr.2 = true → SchC S sB nx ∧ MigC S pB mg sc) (k3 : scOk sc) (k4 : vr.2 = true → plOk mg ∧ scOk nx ∧ mgOk mg sc ∧ nx = mSchs sc mg) (hp2 : ¬ p2 = 0 → vr.2 = true) (q1 : gfI S 256 (4 + 5 * p) = k0) (q2 : gfI S 257 (4 + 5 * p) = s0) (ho : ∃ fp ff, RowSw S p fp ff ∧ FormC (gaL S (fp + 1)) (tys sc) old) : ∃ S1, fFill S (4 + 5 * p) p2 = some S1 ∧ Imm S1 ∧ FrX p (pB + 2) S S1 ∧ OneR S1 p ∧ RowC S1 p (gWr dr mg sc nx vr.2 (decide (¬ p2 = 0)) (k0, s0, x0, old, fr0)) sc nx vr.2 := by
  obtain ⟨fp, ff, sw, hold⟩ := ho
  obtain ⟨sw1, sw2, sw3⟩ := sw
  have c0 : g_is S 8 0 := hI.is (by decide) (by decide)
  have c1 : g_is S 1 204 := hI.is (by decide) (by decide)
  have r2 : gfR S 514 0 = some 204 := hI.r (514, 0, 204) (by decide)
  have hr := hI.row hp
  have hFp : FormAt S fp (fp + 1) := hI.fm hp (by omega)
  have hFf : FormAt S ff (ff + 1) := hI.fm hp (by omega)
  obtain ⟨g1, g2, g3, g4, g5, g6, hs, hpp⟩ := h1
  unfold fFill gWr
  simp only [g_jn]
  by_cases e : p2 = 0
  · obtain ⟨w1, a1, a2⟩ := putInto_C (S := S) (f := fp) (w := fp + 1) (s := sA) (l := sc) (dr := dr) hI k3 (by omega) (by omega) (by unfold isSch; omega) hFp h4 h5
    have hI1 : Imm (g_rL S (fp + 1) w1) := hI.of rfl rfl rfl rfl rfl
    have e1 : Fr (4 + 5 * p) (9 + 5 * p) S (g_rL S (fp + 1) w1) := Fr.rL (by omega) (by omega)
    rw [if_pos e, decide_eq_false (fun z => z e)]
    simp only [g_getR, g_getI, g_cVV, Nat.reduceMul, Nat.reduceAdd, q_pI_fI, q_pI_fL, q_pI_fR, q_pI_aI, q_pI_aL, q_pI_aR, q_pI_K, q_pI_ln, q_pI_n, q_pI_sl, q_pI_is, q_pI_ck, q_pL_fI, q_pL_fL, q_pL_fR, q_pL_aI, q_pL_aL, q_pL_aR, q_pL_K, q_pL_ln, q_pL_n, q_pL_sl, q_pL_is, q_pL_ck, q_pR_fI, q_pR_fL, q_pR_fR, q_pR_aI, q_pR_aL, q_pR_aR, q_pR_K, q_pR_ln, q_pR_n, q_pR_sl, q_pR_is, q_pR_ck, q_rI_fI, q_rI_fL, q_rI_fR, q_rI_aI, q_rI_aL, q_rI_aR, q_rI_K, q_rI_ln, q_rI_n, q_rI_sl, q_rI_is, q_rI_ck, q_rL_fI, q_rL_fL, q_rL_fR, q_rL_aI, q_rL_aL, q_rL_aR, q_rL_K, q_rL_ln, q_rL_n, q_rL_sl, q_rL_is, q_rL_ck, q_rR_fI, q_rR_fL, q_rR_fR, q_rR_aI, q_rR_aL, q_rR_aR, q_rR_K, q_rR_ln, q_rR_n, q_rR_sl, q_rR_is, q_rR_ck, g_ck_t c0, r2, g_ck_t c1, g_ck_t hr, sw1, g1, a1, Option.bind_some, g6, b01, g4, sw2]
    by_cases run : vr.2 = true
    · obtain ⟨kg1, kg2, kg3, kg4⟩ := k4 run
      obtain ⟨u1, u2⟩ := h8 run
      obtain ⟨w2, b1, b2⟩ := makeUp_C (S := g_rL S (fp + 1) w1) (p := pB) (f := ff) (g := fp) (mg := mg) (sc := sc) (vs := mDfs dr (tys sc)) hI1 (by unfold isMig; omega) (by omega) hFf hFp kg1 (u2.fr kg1.1 fun a x1 x2 => e1 a (by omega)) k3 kg3 (by rw [q_rL_aL, g_row_s]; exact a2)
      rw [if_pos run, g_ck_t (show g_is S 3 pB from (hI.mig (by unfold isMig; omega)).1), b1, Option.bind_some, if_pos run]
      rw [← kg4] at b2
      have e2 : Fr (4 + 5 * p) (9 + 5 * p) (g_rL S (fp + 1) w1) (g_rL (g_rL S (fp + 1) w1) (ff + 1) w2) := Fr.rL (by omega) (by omega)
      refine fill_fin (S := S) (S' := g_rL (g_rL S (fp + 1) w1) (ff + 1) w2) (fp := fp) (ff := ff) (hI1.of rfl rfl rfl rfl rfl) hp (FrX.of (e1.trans e2)) q1 q2 ⟨sw1, sw2, sw3⟩ ?_ (fun _ => ?_)
      · simp only [q_pI_fI, q_pI_fL, q_pI_fR, q_pI_aI, q_pI_aL, q_pI_aR, q_pI_K, q_pI_ln, q_pI_n, q_pI_sl, q_pI_is, q_pI_ck, q_pL_fI, q_pL_fL, q_pL_fR, q_pL_aI, q_pL_aL, q_pL_aR, q_pL_K, q_pL_ln, q_pL_n, q_pL_sl, q_pL_is, q_pL_ck, q_pR_fI, q_pR_fL, q_pR_fR, q_pR_aI, q_pR_aL, q_pR_aR, q_pR_K, q_pR_ln, q_pR_n, q_pR_sl, q_pR_is, q_pR_ck, q_rI_fI, q_rI_fL, q_rI_fR, q_rI_aI, q_rI_aL, q_rI_aR, q_rI_K, q_rI_ln, q_rI_n, q_rI_sl, q_rI_is, q_rI_ck, q_rL_fI, q_rL_fL, q_rL_fR, q_rL_aI, q_rL_aL, q_rL_aR, q_rL_K, q_rL_ln, q_rL_n, q_rL_sl, q_rL_is, q_rL_ck, q_rR_fI, q_rR_fL, q_rR_fR, q_rR_aI, q_rR_aL, q_rR_aR, q_rR_K, q_rR_ln, q_rR_n, q_rR_sl, q_rR_is, q_rR_ck]; rw [g_row_n (by omega), g_row_s]; exact a2
      · simp only [q_pI_fI, q_pI_fL, q_pI_fR, q_pI_aI, q_pI_aL, q_pI_aR, q_pI_K, q_pI_ln, q_pI_n, q_pI_sl, q_pI_is, q_pI_ck, q_pL_fI, q_pL_fL, q_pL_fR, q_pL_aI, q_pL_aL, q_pL_aR, q_pL_K, q_pL_ln, q_pL_n, q_pL_sl, q_pL_is, q_pL_ck, q_pR_fI, q_pR_fL, q_pR_fR, q_pR_aI, q_pR_aL, q_pR_aR, q_pR_K, q_pR_ln, q_pR_n, q_pR_sl, q_pR_is, q_pR_ck, q_rI_fI, q_rI_fL, q_rI_fR, q_rI_aI, q_rI_aL, q_rI_aR, q_rI_K, q_rI_ln, q_rI_n, q_rI_sl, q_rI_is, q_rI_ck, q_rL_fI, q_rL_fL, q_rL_fR, q_rL_aI, q_rL_aL, q_rL_aR, q_rL_K, q_rL_ln, q_rL_n, q_rL_sl, q_rL_is, q_rL_ck, q_rR_fI, q_rR_fL, q_rR_fR, q_rR_aI, q_rR_aL, q_rR_aR, q_rR_K, q_rR_ln, q_rR_n, q_rR_sl, q_rR_is, q_rR_ck]; rw [g_row_s]; exact b2
    · rw [if_neg run, if_neg run]
      have z := fill_fin (S := S) (S' := g_rL S (fp + 1) w1) (b := pB + 2) (fp := fp) (ff := ff) (sc := sc) (nx := nx) (run := vr.2) (V1 := mDfs dr (tys sc)) (V2 := fr0) hI1 hp (FrX.of e1) q1 q2 ⟨sw1, sw2, sw3⟩ (by simp only [q_pI_fI, q_pI_fL, q_pI_fR, q_pI_aI, q_pI_aL, q_pI_aR, q_pI_K, q_pI_ln, q_pI_n, q_pI_sl, q_pI_is, q_pI_ck, q_pL_fI, q_pL_fL, q_pL_fR, q_pL_aI, q_pL_aL, q_pL_aR, q_pL_K, q_pL_ln, q_pL_n, q_pL_sl, q_pL_is, q_pL_ck, q_pR_fI, q_pR_fL, q_pR_fR, q_pR_aI, q_pR_aL, q_pR_aR, q_pR_K, q_pR_ln, q_pR_n, q_pR_sl, q_pR_is, q_pR_ck, q_rI_fI, q_rI_fL, q_rI_fR, q_rI_aI, q_rI_aL, q_rI_aR, q_rI_K, q_rI_ln, q_rI_n, q_rI_sl, q_rI_is, q_rI_ck, q_rL_fI, q_rL_fL, q_rL_fR, q_rL_aI, q_rL_aL, q_rL_aR, q_rL_K, q_rL_ln, q_rL_n, q_rL_sl, q_rL_is, q_rL_ck, q_rR_fI, q_rR_fL, q_rR_fR, q_rR_aI, q_rR_aL, q_rR_aR, q_rR_K, q_rR_ln, q_rR_n, q_rR_sl, q_rR_is, q_rR_ck]; rw [g_row_s]; exact a2) (fun q => absurd q run)
      unfold g_cVV at z
      rw [g_ck_t (hI1.row hp)] at z
      exact z
  · have run := hp2 e
    obtain ⟨kg1, kg2, kg3, kg4⟩ := k4 run
    obtain ⟨u1, u2⟩ := h8 run
    obtain ⟨w1, a1, a2⟩ := putInto_C (S := S) (f := ff) (w := ff + 1) (s := sB) (l := nx) (dr := dr) hI kg2 (by omega) (by omega) (by unfold isSch; omega) hFf u1 h5
    have hI1 : Imm (g_rL S (ff + 1) w1) := hI.of rfl rfl rfl rfl rfl
    have e1 : Fr (4 + 5 * p) (9 + 5 * p) S (g_rL S (ff + 1) w1) := Fr.rL (by omega) (by omega)
    obtain ⟨w2, rr, b1, b2⟩ := makeDown_C (S := g_rL S (ff + 1) w1) (p := pB) (f := fp) (w := fp + 1) (g := ff) (u := ff + 1) (mg := mg) (sc := sc) (vs := mDfs dr (tys nx)) (old := old) hI1 (by unfold isMig; omega) hFp hFf (by omega) kg1 k3 kg3 (u2.fr kg1.1 fun a x1 x2 => e1 a (by omega)) (by rw [← kg4]; exact kg2.1) (by rw [q_rL_aL, g_row_s, ← kg4]; exact a2) (by rw [q_rL_aL, g_row_n (by omega)]; exact hold)
    rw [if_neg e, decide_eq_true e, if_pos rfl]
    simp only [g_getR, g_getI, g_cVV, Nat.reduceMul, Nat.reduceAdd, q_pI_fI, q_pI_fL, q_pI_fR, q_pI_aI, q_pI_aL, q_pI_aR, q_pI_K, q_pI_ln, q_pI_n, q_pI_sl, q_pI_is, q_pI_ck, q_pL_fI, q_pL_fL, q_pL_fR, q_pL_aI, q_pL_aL, q_pL_aR, q_pL_K, q_pL_ln, q_pL_n, q_pL_sl, q_pL_is, q_pL_ck, q_pR_fI, q_pR_fL, q_pR_fR, q_pR_aI, q_pR_aL, q_pR_aR, q_pR_K, q_pR_ln, q_pR_n, q_pR_sl, q_pR_is, q_pR_ck, q_rI_fI, q_rI_fL, q_rI_fR, q_rI_aI, q_rI_aL, q_rI_aR, q_rI_K, q_rI_ln, q_rI_n, q_rI_sl, q_rI_is, q_rI_ck, q_rL_fI, q_rL_fL, q_rL_fR, q_rL_aI, q_rL_aL, q_rL_aR, q_rL_K, q_rL_ln, q_rL_n, q_rL_sl, q_rL_is, q_rL_ck, q_rR_fI, q_rR_fL, q_rR_fR, q_rR_aI, q_rR_aL, q_rR_aR, q_rR_K, q_rR_ln, q_rR_n, q_rR_sl, q_rR_is, q_rR_ck, g_ck_t c0, r2, g_ck_t c1, g_ck_t hr, sw1, g1, g2, a1, Option.bind_some, g4, sw2, h4.1]
    rw [g_ck_t (show g_is S 5 sA from (hI.sch (by unfold isSch; omega)).1), g_ck_t (show g_is S 3 pB from (hI.mig (by unfold isMig; omega)).1), b1, Option.bind_some]
    have e2 : FrX p (pB + 2) (g_rL S (ff + 1) w1) (TT (g_rL S (ff + 1) w1) (fp + 1) pB w2 rr) := fun a ha hb => (EqA.rL (by omega)).trans (EqA.rI hb)
    refine fill_fin (S := S) (S' := TT (g_rL S (ff + 1) w1) (fp + 1) pB w2 rr) (fp := fp) (ff := ff) (hI1.of rfl rfl rfl rfl rfl) hp ((FrX.of e1).trans e2) q1 q2 ⟨sw1, sw2, sw3⟩ ?_ (fun _ => ?_)
    · show FormC (g_row (g_row (gaL S) (ff + 1) w1) (fp + 1) w2 (fp + 1)) _ _
      rw [g_row_s]; exact b2
    · show FormC (g_row (g_row (gaL S) (ff + 1) w1) (fp + 1) w2 (ff + 1)) _ _
      rw [g_row_n (by omega), g_row_s]; exact a2
theorem putDraft_C {S : gS} {m : mS} {key p2 : Int32} (h : RC S m) (k : mOk m) (hp2 : ¬ p2 = 0 → m.2.1.2 = true) (hf : ¬ (mFnd (mTb m) key = none ∧ (mTb m).length = 40)) : COv S 0 237 (f_X8_putDraft S 0 key p2) (fun S1 => RC S1 (wTb m (mPutT m key (decide (¬ p2 = 0))))) := by
  obtain ⟨dk, vr, pl, mg, sc, nx, dr, sn, tb⟩ := m
  obtain ⟨hI, sA, sB, pA, pB, h1, h2, h3, h4, h5, h6, h7, h8⟩ := h
  obtain ⟨k1, k2, k3, k4, k5, k6, k7, k8⟩ := k
  have hs := h1.2.2.2.2.2.2.1
  have hp := h1.2.2.2.2.2.2.2
  have c0 : g_is S 8 0 := hI.is (by decide) (by decide)
  have r1 : gfR S 513 0 = some 2 := hI.r (513, 0, 2) (by decide)
  obtain ⟨t1, t2, t3, t4⟩ := hI.tab
  have pu := placeUnder_C h7 hI k5 k7 key
  have rcx : ∀ (S4 : gS) (tb' : List mRow), Imm S4 → (∀ a, (a < 2 ∨ 204 ≤ a) → a ≠ pB + 2 → EqA S S4 a) → TableC S4 tb' sc nx vr.2 → COv S 0 237 (some S4) (fun S1 => RC S1 (dk, vr, pl, mg, sc, nx, dr, sn, tb')) → COv S 0 237 (some S4) (fun S1 => RC S1 (dk, vr, pl, mg, sc, nx, dr, sn, tb')) := fun _ _ _ _ _ q => q
  have rcy : ∀ (S4 : gS) (tb' : List mRow), Imm S4 → (∀ a, (a < 2 ∨ 204 ≤ a) → a ≠ pB + 2 → EqA S S4 a) → TableC S4 tb' sc nx vr.2 → COv S 0 237 (some S4) (fun S1 => RC S1 (dk, vr, pl, mg, sc, nx, dr, sn, tb')) := by
    intro S4 tb' hI4 e ht
    refine ⟨S4, rfl, hI4, fun a ha => e a (by omega) (by omega), hI4, sA, sB, pA, pB, h1.fr (e 0 (by omega) (by omega)), h2.fr (e 1 (by omega) (by omega)), h3.fr k2.1 (fun a a1 a2 => e a (by omega) (by omega)), h4.fr (fun a a1 a2 => e a (by omega) (by omega)), h5.fr (e _ (by omega) (by omega)) (e _ (by omega) (by omega)), h6.fr ((e 0 (by omega) (by omega)).1 _) (fun a a1 a2 => e a (by omega) (by omega)), ht, fun hr => ⟨(h8 hr).1.fr (fun a a1 a2 => e a (by omega) (by omega)), (h8 hr).2.frX (k4 hr).1.1 (fun a a1 a2 a3 => e a (by omega) (by omega))⟩⟩
  rw [putDraft_eq]
  unfold mPutT
  simp only [g_getR, g_cVI, g_cVR, g_ldR, Nat.reduceMul, Nat.reduceAdd, g_ck_t c0, r1, g_ck_t t1, pu, Option.bind_some, t2, g_ck_t t3, t4]
  show COv S 0 237 _ (fun S1 => RC S1 (dk, vr, pl, mg, sc, nx, dr, sn, match mFnd tb key with | some i => tb.set i (mGw (dk, vr, pl, mg, sc, nx, dr, sn, tb) (decide (¬ p2 = 0)) (tb.getD i (0, 0, 0, [], []))) | none => mIns (cntLe key tb) (mGw (dk, vr, pl, mg, sc, nx, dr, sn, tb) (decide (¬ p2 = 0)) (mNew key sc.length)) tb))
  cases hq : mFnd tb key with
  | none =>
    have hlt : tb.length < 40 := by
      have : ¬ tb.length = 40 := fun z => hf ⟨hq, z⟩
      omega
    dsimp only
    rw [show ixO none = (-1 : Int32) from rfl, if_pos (show (-1 : Int32) < 0 by decide)]
    obtain ⟨S3, p, b1, b2, b3, b4, b5, b6, b7, b8⟩ := insert_C (key := key) h7 hI hlt
    rw [b1, Option.bind_some]
    dsimp only
    obtain ⟨fp, ff, sw, hz⟩ := b7
    obtain ⟨S4, d1, d2, d3, d4, d5⟩ := fill_C (S := S3) (p := p) (sA := sA) (sB := sB) (pA := pA) (pB := pB) (vr := vr) (mg := mg) (sc := sc) (nx := nx) (dr := dr) (p2 := p2) (k0 := key) (s0 := 0) (x0 := 0) (old := List.replicate sc.length (0, [])) (fr0 := []) b2 b4 (h1.fr (b3 0 (by omega))) (h4.fr fun a a1 a2 => b3 a (by omega)) (h5.fr (b3 _ (by omega)) (b3 _ (by omega))) (fun hr => ⟨(h8 hr).1.fr (fun a a1 a2 => b3 a (by omega)), (h8 hr).2.fr (k4 hr).1.1 (fun a a1 a2 => b3 a (by omega))⟩) k3 k4 hp2 b5 b6 ⟨fp, ff, sw, by rw [List.length_replicate, tys_len], fun i t x ht hx => by
      rw [List.getElem?_replicate] at hx
      have hi := lt_of_some ht
      rw [tys_len] at hi
      rw [if_pos hi] at hx
      cases hx
      have := k3.1
      exact CVw.zero fun j hj => hz _ (by omega)⟩
    rw [d1]
    exact rcy S4 _ d2 (fun a ha hb => (b3 a (by omega)).trans (d3 a (by omega) hb)) (b8 (pB + 2) S4 _ (by omega) d3 d4 d5)
  | some i =>
    have hi := mFnd_lt hq
    have hr := getD_some (d := ((0, 0, 0, [], []) : mRow)) hi
    obtain ⟨p, p1, p2', p3, p4⟩ := h7.putX hI k5 hr
    dsimp only
    rw [show ixO (some i) = nI i from rfl, if_neg (show ¬ nI i < 0 from fun z => by
      rw [show (0 : Int32) = nI 0 from rfl, nI_ltI (by omega) (by omega)] at z
      omega), g_ix_t (by omega) (by decide), nI_clamp (by omega), p2', Option.bind_some]
    generalize tb.getD i (0, 0, 0, [], []) = r at hr p3 ⊢
    obtain ⟨x0, x1, x2, fp, ff, x3, x4, x5⟩ := p3
    obtain ⟨S4, d1, d2, d3, d4, d5⟩ := fill_C (S := S) (p := p) (sA := sA) (sB := sB) (pA := pA) (pB := pB) (vr := vr) (mg := mg) (sc := sc) (nx := nx) (dr := dr) (p2 := p2) (k0 := r.1) (s0 := r.2.1) (x0 := r.2.2.1) (old := r.2.2.2.1) (fr0 := r.2.2.2.2) hI p1 h1 h4 h5 h8 k3 k4 hp2 x0 x1 ⟨fp, ff, x3, x4⟩
    rw [d1]
    exact rcy S4 _ d2 (fun a ha hb => d3 a (by omega) hb) (p4 (pB + 2) S4 _ (by omega) d3 d4 d5)
theorem write_C {S : gS} {m : mS} {key p2 : Int32} (h : RC S m) (k : mOk m) : COp S 0 237 (f_X8_write S 0 key p2) (mWrite m key p2).1 (fun S1 => RC S1 (mWrite m key p2).2) := by
  obtain ⟨hI, hD⟩ := h.dk
  have c0 : g_is S 8 0 := hI.is (by decide) (by decide)
  have r0 : gfR S 512 0 = some 1 := hI.r (512, 0, 1) (by decide)
  obtain ⟨S1, a1, a2, a3, a4⟩ := startCall_C hI hD
  have h1 := h.disk k a2 a3 a4
  have ks := mStart_ok k.dk
  have k1 := k.disk ks
  obtain ⟨t1, t2, t3, t4⟩ := a2.tab
  have tb1 : TableC S1 (mTb m) m.2.2.2.2.1 m.2.2.2.2.2.1 m.2.1.2 := h1.tb.1
  have run1 : gfI S1 522 0 = (if m.2.1.2 = true then 1 else 0) := h1.tb.2
  obtain ⟨u1, u2, u3⟩ := k.tb
  have pu := placeUnder_C tb1 a2 u1 u3 key
  have c0' : g_is S1 8 0 := a2.is (by decide) (by decide)
  have c1' : g_is S1 0 1 := a2.is (by decide) (by decide)
  have r0' : gfR S1 512 0 = some 1 := a2.r (512, 0, 1) (by decide)
  have r1' : gfR S1 513 0 = some 2 := a2.r (513, 0, 2) (by decide)
  obtain ⟨S2, b1, b2, b3, b4⟩ := act_C a2 a4
  have h2 : RC S2 (wDk m (mAct (mStart m.1)).2) := h.disk k b2 (a3.trans b3) b4
  have k2 : mOk (wDk m (mAct (mStart m.1)).2) := k.disk (mAct_ok ks)
  have F2 : Fr 0 237 S S2 := (a3.trans b3).mono (by decide) (by decide)
  have c0'' : g_is S2 8 0 := b2.is (by decide) (by decide)
  have fail : ∀ c : Int32, COp S 0 237 (some (c, S1)) c (fun S1 => RC S1 (wDk m (mStart m.1))) := fun c => ⟨S1, rfl, a2, a3.mono (by decide) (by decide), h1⟩
  -- behind the checks
  have go : ∀ x : Int32, (¬ p2 = 0 → m.2.1.2 = true) → ¬ (mFnd (mTb m) key = none ∧ (mTb m).length = 40) → x = (if mFnd (mTb m) key = none then 0 else 1) → ∀ o, o = (if b32 (mAct (mStart m.1)).1 = 0 then some ((-9 : Int32), S2) else g_ck S2 8 0 ((f_X8_putDraft S2 0 key p2).bind fun S18 => g_ck S18 8 0 (if gfI S18 522 0 = 0 then some (x, S18) else g_ck S18 8 0 ((gfR S18 512 0).bind fun a19 => g_ck S18 0 a19 ((f_X0_carryOutNote S18 a19).bind fun z => if z.1 = 0 then some ((-9 : Int32), z.2) else some (x, z.2)))))) → COp S 0 237 o (if (mAct (mStart m.1)).1 = true then mTail (wTb (wDk m (mAct (mStart m.1)).2) (mPutT m key (decide (¬ p2 = 0)))) (if mFnd (mTb m) key = none then 0 else 1) else (-9, wDk m (mAct (mStart m.1)).2)).1 (fun S1 => RC S1 (if (mAct (mStart m.1)).1 = true then mTail (wTb (wDk m (mAct (mStart m.1)).2) (mPutT m key (decide (¬ p2 = 0)))) (if mFnd (mTb m) key = none then 0 else 1) else (-9, wDk m (mAct (mStart m.1)).2)).2) := by
    intro x g1 g2 hx o ho
    subst ho
    rw [← hx]
    by_cases e6 : (mAct (mStart m.1)).1 = true
    · simp only [if_pos e6]
      rw [if_neg (show ¬ b32 (mAct (mStart m.1)).1 = 0 by rw [e6]; decide), g_ck_t c0'']
      obtain ⟨S3, d1, d2, d3, d4⟩ := putDraft_C (key := key) (p2 := p2) h2 k2 g1 g2
      rw [d1, Option.bind_some]
      obtain ⟨z1, z2, z3⟩ := mPutT_ok (nxt := decide (¬ p2 = 0)) k g2
      have h3 : RC S3 (wTb (wDk m (mAct (mStart m.1)).2) (mPutT m key (decide (¬ p2 = 0)))) := d4
      exact COp.pre (F2.trans d3) (tail_C h3 (k2.table z1 z2 z3))
    · simp only [if_neg e6]
      have e7 : (mAct (mStart m.1)).1 = false := by simpa using e6
      rw [if_pos (show b32 (mAct (mStart m.1)).1 = 0 by rw [e7]; decide)]
      exact ⟨S2, rfl, b2, F2, h2⟩
  unfold f_X8_write mWrite
  simp only [g_getI, g_getL, g_getR, g_putI, g_putZ, g_putL, g_putR, g_ldI, g_ldL, g_ldR, g_stI, g_stZ, g_stL, g_stR, g_alen, g_ldX, g_cVI, g_cVL, g_cVR, g_cVV, g_cI, g_cL, g_cN, g_lt, g_jn, g_cpI, g_cpL, g_z, Nat.reduceMul, Nat.reduceAdd, Option.bind_some, or_true, true_or, if_true, g_ck_t c0, r0, g_ck_t (hI.is (show 1 < 265 by decide) (show K0 1 = 0 by decide)), a1, g_ck_t c0', r0', r1', g_ck_t c1', g_ck_t t1, a4.1, run1, b01, pu, b1, tb1.1]
  show COp S 0 237 (if m.1.1 = 0 then _ else _) _ _
  by_cases e1 : m.1.1 = 0
  · simp only [if_pos e1]
    have rest : (¬ p2 = 0 → m.2.1.2 = true) → COp S 0 237 (if ixO (mFnd (mTb m) key) < 0 then (if nI (mTb m).length = 40 then some ((-4 : Int32), S1) else (if b32 (mAct (mStart m.1)).1 = 0 then some ((-9 : Int32), S2) else g_ck S2 8 0 ((f_X8_putDraft S2 0 key p2).bind fun S18 => g_ck S18 8 0 (if gfI S18 522 0 = 0 then some ((0 : Int32), S18) else g_ck S18 8 0 ((gfR S18 512 0).bind fun a19 => g_ck S18 0 a19 ((f_X0_carryOutNote S18 a19).bind fun z => if z.1 = 0 then some ((-9 : Int32), z.2) else some ((0 : Int32), z.2))))))) else (if b32 (mAct (mStart m.1)).1 = 0 then some ((-9 : Int32), S2) else g_ck S2 8 0 ((f_X8_putDraft S2 0 key p2).bind fun S18 => g_ck S18 8 0 (if gfI S18 522 0 = 0 then some ((1 : Int32), S18) else g_ck S18 8 0 ((gfR S18 512 0).bind fun a19 => g_ck S18 0 a19 ((f_X0_carryOutNote S18 a19).bind fun z => if z.1 = 0 then some ((-9 : Int32), z.2) else some ((1 : Int32), z.2))))))) (if mFnd (mTb m) key = none ∧ (mTb m).length = 40 then (-4, wDk m (mStart m.1)) else if (mAct (mStart m.1)).1 = true then mTail (wTb (wDk m (mAct (mStart m.1)).2) (mPutT m key (decide (¬ p2 = 0)))) (if mFnd (mTb m) key = none then 0 else 1) else (-9, wDk m (mAct (mStart m.1)).2)).1 (fun S1 => RC S1 (if mFnd (mTb m) key = none ∧ (mTb m).length = 40 then (-4, wDk m (mStart m.1)) else if (mAct (mStart m.1)).1 = true then mTail (wTb (wDk m (mAct (mStart m.1)).2) (mPutT m key (decide (¬ p2 = 0)))) (if mFnd (mTb m) key = none then 0 else 1) else (-9, wDk m (mAct (mStart m.1)).2)).2) := by
      intro g1
      by_cases e3 : mFnd (mTb m) key = none
      · rw [if_pos (show ixO (mFnd (mTb m) key) < 0 by rw [e3]; decide)]
        by_cases e4 : (mTb m).length = 40
        · rw [if_pos (show nI (mTb m).length = 40 by rw [e4]; rfl)]
          simp only [if_pos (show mFnd (mTb m) key = none ∧ (mTb m).length = 40 from ⟨e3, e4⟩)]
          exact fail (-4)
        · rw [if_neg (show ¬ nI (mTb m).length = 40 from fun z => e4 ((nI_eq (b := 40) (by omega) (by omega)).mp z))]
          have g2 : ¬ (mFnd (mTb m) key = none ∧ (mTb m).length = 40) := fun z => e4 z.2
          simp only [if_neg g2]
          exact go 0 g1 g2 (by rw [if_pos e3]) _ rfl
      · rw [if_neg (show ¬ ixO (mFnd (mTb m) key) < 0 from fun z => e3 ((ixO_neg u1).mp z))]
        have g2 : ¬ (mFnd (mTb m) key = none ∧ (mTb m).length = 40) := fun z => e3 z.1
        simp only [if_neg g2]
        exact go 1 g1 g2 (by rw [if_neg e3]) _ rfl
    by_cases e2 : p2 = 0
    · have g2 : ¬ (¬ p2 = 0 ∧ m.2.1.2 = false) := fun z => z.1 e2
      rw [if_pos e2]
      simp only [if_neg g2]
      exact rest (fun z => absurd e2 z)
    · rw [if_neg e2]
      by_cases e3 : m.2.1.2 = true
      · have g2 : ¬ (¬ p2 = 0 ∧ m.2.1.2 = false) := fun z => absurd (e3.symm.trans z.2) (by decide)
        rw [if_pos e3]
        simp only [if_neg g2]
        exact rest (fun _ => e3)
      · have g2 : ¬ p2 = 0 ∧ m.2.1.2 = false := ⟨e2, by simpa using e3⟩
        rw [if_neg e3]
        simp only [if_pos g2]
        exact fail (-2)
  · simp only [if_neg e1]
    exact fail (-8)
