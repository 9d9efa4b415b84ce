/-! ===== all rows, one behind the other, of the class ===== -/
def OneR (S : gS) (p : Nat) : Prop := ∃ fp ff, RowSw S p fp ff
theorem OneR.fr {S S1 : gS} {p : Nat} (h : OneR S p) (e : EqA S S1 (4 + 5 * p)) : OneR S1 p := by
  obtain ⟨fp, ff, g⟩ := h
  exact ⟨fp, ff, g.fr e⟩
theorem rows_loop {α : Type} {tb : List mRow} {sc nx sc2 nx2 : List mCol} {run run2 : Bool} {g : mRow → mRow} {Amb : gS → Prop} {loop : Nat → gS → Int32 → Option α} {K : gS → Int32 → Option α} {step : gS → Nat → Option gS} (hl : tb.length ≤ 40)
    (hamb : ∀ S S1, Amb S → Imm S1 → Fr 4 204 S S1 → Amb S1)
    (hstep : ∀ S p r, Imm S → Amb S → p < 40 → r ∈ tb → OneR S p → RowC S p r sc nx run → ∃ S1, step S (4 + 5 * p) = some S1 ∧ Imm S1 ∧ Fr (4 + 5 * p) (9 + 5 * p) S S1 ∧ OneR S1 p ∧ RowC S1 p (g r) sc2 nx2 run2)
    (h0 : ∀ fu S i, Imm S → gfI S 449 2 = nI tb.length → tb.length ≤ i → i ≤ 40 → loop (fu + 1) S (nI i) = K S (nI i))
    (h1 : ∀ fu S i p, Imm S → gfI S 449 2 = nI tb.length → i < tb.length → p < 40 → gaR S 3 i = some (4 + 5 * p) → loop (fu + 1) S (nI i) = (step S (4 + 5 * p)).bind fun S1 => loop fu S1 (nI (i + 1))) :
    ∀ (d fu i : Nat) (S : gS) (q : Nat → Nat), i + d = tb.length → d < fu → Imm S → Amb S → gfI S 449 2 = nI tb.length → PermC S q → (∀ p, p < 40 → OneR S p) → (∀ j r, j < i → tb[j]? = some r → RowC S (q j) (g r) sc2 nx2 run2) → (∀ j r, i ≤ j → tb[j]? = some r → RowC S (q j) r sc nx run) →
    ∃ S1, loop fu S (nI i) = K S1 (nI tb.length) ∧ Imm S1 ∧ Fr 4 204 S S1 ∧ TableC S1 (tb.map g) sc2 nx2 run2 := by
  intro d
  induction d with
  | zero =>
    intro fu i S q hi hf hI hA hc hp ho hlo hhi
    obtain ⟨fu, rfl⟩ : ∃ m, fu = m + 1 := ⟨fu - 1, by omega⟩
    have : i = tb.length := by omega
    subst this
    refine ⟨S, h0 fu S _ hI hc (by omega) hl, hI, Fr.refl, by rw [List.length_map]; exact hc, q, hp, ho, fun j r hj => ?_⟩
    rw [List.getElem?_map] at hj
    cases hr : tb[j]? with
    | none => rw [hr] at hj; cases hj
    | some r0 =>
      rw [hr] at hj
      cases hj
      exact hlo j r0 (lt_of_some hr) hr
  | succ d ih =>
    intro fu i S q hi hf hI hA hc hp ho hlo hhi
    obtain ⟨fu, rfl⟩ : ∃ m, fu = m + 1 := ⟨fu - 1, by omega⟩
    have hil : i < tb.length := by omega
    have hr := List.getElem?_eq_getElem hil
    have hq := hp.1 i (by omega)
    obtain ⟨S1, a1, a2, a3, a4, a5⟩ := hstep S (q i) tb[i] hI hA hq (List.mem_of_getElem? hr) (ho _ hq) (hhi i _ (by omega) hr)
    rw [h1 fu S i (q i) hI hc hil hq (hp.2.2 i (by omega)), a1, Option.bind_some]
    have e4 : Fr 4 204 S S1 := a3.mono (by omega) (by omega)
    have oth : ∀ j r, j < 40 → j ≠ i → ∀ sc nx run, RowC S (q j) r sc nx run → RowC S1 (q j) r sc nx run := by
      intro j r hj hji sc nx run hR
      have hne : q j ≠ q i := fun z => hji (hp.2.1 j i hj (by omega) z)
      have hqj := hp.1 j hj
      exact hR.fr fun a b1 b2 => a3 a (by omega)
    obtain ⟨S2, b1, b2, b3, b4⟩ := ih fu (i + 1) S1 q (by omega) (by omega) a2 (hamb S S1 hA a2 e4) (by rw [(e4 2 (by omega)).1]; exact hc) (hp.fr (e4 3 (by omega))) (fun p hp2 => by
        by_cases c : p = q i
        · rw [c]; exact a4
        · exact (ho p hp2).fr (a3 _ (by omega))) (fun j r hj hjr => by
        by_cases c : j = i
        · subst c
          rw [hr] at hjr
          cases hjr
          exact a5
        · exact oth j _ (by omega) c _ _ _ (hlo j r (by omega) hjr)) (fun j r hj hjr => oth j _ (by have := lt_of_some hjr; omega) (by omega) _ _ _ (hhi j r (by omega) hjr))
    exact ⟨S2, b1, b2, e4.trans b3, b4⟩
/-! ===== finish and rollback of the class ===== -/
def mEnd (m : mS) : Int32 × mDk := if m.1.1 = 0 then (if m.2.1.2 = true then (if (mAct (mStart m.1)).1 = true then (0, (mAct (mStart m.1)).2) else (-9, (mAct (mStart m.1)).2)) else (-2, mStart m.1)) else (-8, mStart m.1)
theorem mEnd_ok {m : mS} (k : mOk m) : dkOk (mEnd m).2 := by
  have ks := mStart_ok k.dk
  unfold mEnd
  split
  · split
    · split
      · exact mAct_ok ks
      · exact mAct_ok ks
    · exact ks
  · exact ks
theorem mEnd_run {m : mS} (h : (mEnd m).1 = 0) : m.2.1.2 = true := by
  unfold mEnd at h
  split at h
  · split at h
    · assumption
    · exact absurd h (show ¬ (-2 : Int32) = 0 by decide)
  · exact absurd h (show ¬ (-8 : Int32) = 0 by decide)
theorem endRunning_C {S : gS} {m : mS} (h : RC S m) (k : mOk m) : ∃ S2, Imm S2 ∧ Fr 1 2 S S2 ∧ RC S2 (wDk m (mEnd m).2) ∧ f_X8_endRunning S 0 = some ((mEnd m).1, if (mEnd m).1 = 0 then g_pI S2 522 0 0 else S2) := by
  obtain ⟨hI, hD⟩ := h.dk
  have c0 : g_is S 8 0 := hI.is (by decide) (by decide)
  have r0 : gfR S 512 0 = some 1 := hI.r (512, 0, 1) (by decide)
  obtain ⟨S1, a1, a2, a3, a4⟩ := startCall_C hI hD
  have h1 := h.disk k a2 a3 a4
  have c0' : g_is S1 8 0 := a2.is (by decide) (by decide)
  have c1' : g_is S1 0 1 := a2.is (by decide) (by decide)
  have r0' : gfR S1 512 0 = some 1 := a2.r (512, 0, 1) (by decide)
  unfold f_X8_endRunning mEnd
  simp only [g_getI, g_getL, g_getR, g_putI, g_putZ, g_putL, g_putR, g_ldI, g_ldL, g_ldR, g_stI, g_stZ, g_stL, g_stR, g_alen, g_ldX, g_cVI, g_cVL, g_cVR, g_cVV, g_cI, g_cL, g_cN, g_lt, g_jn, g_cpI, g_cpL, g_z, Nat.reduceMul, Nat.reduceAdd, Option.bind_some, or_true, true_or, if_true, g_ck_t c0, r0, g_ck_t (hI.is (show 1 < 265 by decide) (show K0 1 = 0 by decide)), a1, g_ck_t c0', r0', g_ck_t c1', a4.1, show gfI S1 522 0 = (if m.2.1.2 = true then 1 else 0) from h1.tb.2, b01]
  show ∃ S2, _ ∧ _ ∧ _ ∧ (if m.1.1 = 0 then _ else _) = _
  by_cases e1 : m.1.1 = 0
  · simp only [if_pos e1]
    by_cases e2 : m.2.1.2 = true
    · simp only [if_pos e2]
      obtain ⟨S2, b1, b2, b3, b4⟩ := act_C a2 a4
      rw [b1, Option.bind_some]
      dsimp only
      by_cases e3 : (mAct (mStart m.1)).1 = true
      · simp only [if_pos e3]
        refine ⟨S2, b2, a3.trans b3, h.disk k b2 (a3.trans b3) b4, ?_⟩
        rw [e3, show b32 true = 1 from rfl, if_neg (show ¬ (1 : Int32) = 0 by decide), g_ck_t (b2.is (show 0 < 265 by decide) (show K0 0 = 8 by decide)), if_pos trivial]
      · have e4 : (mAct (mStart m.1)).1 = false := by simpa using e3
        simp only [if_neg e3]
        refine ⟨S2, b2, a3.trans b3, h.disk k b2 (a3.trans b3) b4, ?_⟩
        rw [e4, show b32 false = 0 from rfl, if_pos rfl, if_neg (by decide)]
    · simp only [if_neg e2]
      exact ⟨S1, a2, a3, h1, by rw [if_neg (by decide)]⟩
  · simp only [if_neg e1]
    exact ⟨S1, a2, a3, h1, by rw [if_neg (by decide)]⟩
def gFin (r : mRow) : mRow := (r.1, if r.2.1 = 1 then 1 else 2, r.2.2.1, r.2.2.2.2, r.2.2.2.2)
def gRol (r : mRow) : mRow := (r.1, if r.2.2.1 = 0 then 0 else 1, r.2.2.1, r.2.2.2.1, r.2.2.2.2)
def mFinish (m : mS) : Int32 × mS := match m with
  | (dk, vr, pl, mg, sc, nx, dr, sn, tb) => if (mEnd m).1 = 0 then (vr.1 + 1, ((mEnd m).2, (vr.1 + 1, false), pl, mg, nx, nx, dr, sn, tb.map gFin)) else ((mEnd m).1, wDk m (mEnd m).2)
def mRollback (m : mS) : Int32 × mS := match m with
  | (dk, vr, pl, mg, sc, nx, dr, sn, tb) => if (mEnd m).1 = 0 then (vr.1, ((mEnd m).2, (vr.1, false), pl, mg, sc, nx, dr, sn, tb.map gRol)) else ((mEnd m).1, wDk m (mEnd m).2)
theorem keepFresh_C {S : gS} {p : Nat} {r : mRow} {sc nx : List mCol} (hI : Imm S) (hp : p < 40) (h : RowC S p r sc nx true) : ∃ S1, f_X4_keepFresh S (4 + 5 * p) = some S1 ∧ Imm S1 ∧ Fr (4 + 5 * p) (9 + 5 * p) S S1 ∧ OneR S1 p ∧ RowC S1 p (gFin r) nx nx false := by
  obtain ⟨h1, h2, h3, fp, ff, h4, h5, h6⟩ := h
  have hr := hI.row hp
  unfold f_X4_keepFresh
  simp only [g_getI, g_getL, g_getR, g_putI, g_putZ, g_putL, g_putR, g_ldI, g_ldL, g_ldR, g_stI, g_stZ, g_stL, g_stR, g_alen, g_ldX, g_cVI, g_cVL, g_cVR, g_cVV, g_cI, g_cL, g_cN, g_lt, g_jn, g_cpI, g_cpL, g_z, Nat.reduceMul, Nat.reduceAdd, Option.bind_some, or_true, true_or, if_true, q_pI_fI, q_pI_fL, q_pI_fR, q_pI_aI, q_pI_aL, q_pI_aR, q_pI_K, q_pI_ln, q_pI_n, q_pI_sl, q_pI_is, q_pI_ck, q_pL_fI, q_pL_fL, q_pL_fR, q_pL_aI, q_pL_aL, q_pL_aR, q_pL_K, q_pL_ln, q_pL_n, q_pL_sl, q_pL_is, q_pL_ck, q_pR_fI, q_pR_fL, q_pR_fR, q_pR_aI, q_pR_aL, q_pR_aR, q_pR_K, q_pR_ln, q_pR_n, q_pR_sl, q_pR_is, q_pR_ck, q_rI_fI, q_rI_fL, q_rI_fR, q_rI_aI, q_rI_aL, q_rI_aR, q_rI_K, q_rI_ln, q_rI_n, q_rI_sl, q_rI_is, q_rI_ck, q_rL_fI, q_rL_fL, q_rL_fR, q_rL_aI, q_rL_aL, q_rL_aR, q_rL_K, q_rL_ln, q_rL_n, q_rL_sl, q_rL_is, q_rL_ck, q_rR_fI, q_rR_fL, q_rR_fR, q_rR_aI, q_rR_aL, q_rR_aR, q_rR_K, q_rR_ln, q_rR_n, q_rR_sl, q_rR_is, q_rR_ck, g_ck_t hr, h4.1, h4.2.1]
  generalize hx : (if r.2.1 = 1 then (1 : Int32) else 2) = x
  have key : ∃ S1, (some (g_pI (g_pR (g_pR S 259 (4 + 5 * p) (some ff)) 260 (4 + 5 * p) (some fp)) 257 (4 + 5 * p) x)) = some S1 ∧ Imm S1 ∧ Fr (4 + 5 * p) (9 + 5 * p) S S1 ∧ OneR S1 p ∧ RowC S1 p (gFin r) nx nx false := by
    have e : Fr (4 + 5 * p) (9 + 5 * p) S (g_pI (g_pR (g_pR S 259 (4 + 5 * p) (some ff)) 260 (4 + 5 * p) (some fp)) 257 (4 + 5 * p) x) := ((Fr.pR (by omega) (by omega)).trans (Fr.pR (by omega) (by omega))).trans (Fr.pI (by omega) (by omega))
    have sw : RowSw (g_pI (g_pR (g_pR S 259 (4 + 5 * p) (some ff)) 260 (4 + 5 * p) (some fp)) 257 (4 + 5 * p) x) p ff fp := by
      refine ⟨?_, ?_, by have := h4.2.2; omega⟩
      · simp only [q_pI_fI, q_pI_fL, q_pI_fR, q_pI_aI, q_pI_aL, q_pI_aR, q_pI_K, q_pI_ln, q_pI_n, q_pI_sl, q_pI_is, q_pI_ck, q_pL_fI, q_pL_fL, q_pL_fR, q_pL_aI, q_pL_aL, q_pL_aR, q_pL_K, q_pL_ln, q_pL_n, q_pL_sl, q_pL_is, q_pL_ck, q_pR_fI, q_pR_fL, q_pR_fR, q_pR_aI, q_pR_aL, q_pR_aR, q_pR_K, q_pR_ln, q_pR_n, q_pR_sl, q_pR_is, q_pR_ck, q_rI_fI, q_rI_fL, q_rI_fR, q_rI_aI, q_rI_aL, q_rI_aR, q_rI_K, q_rI_ln, q_rI_n, q_rI_sl, q_rI_is, q_rI_ck, q_rL_fI, q_rL_fL, q_rL_fR, q_rL_aI, q_rL_aL, q_rL_aR, q_rL_K, q_rL_ln, q_rL_n, q_rL_sl, q_rL_is, q_rL_ck, q_rR_fI, q_rR_fL, q_rR_fR, q_rR_aI, q_rR_aL, q_rR_aR, q_rR_K, q_rR_ln, q_rR_n, q_rR_sl, q_rR_is, q_rR_ck]; rw [g_up_f (by decide), g_up_s]
      · simp only [q_pI_fI, q_pI_fL, q_pI_fR, q_pI_aI, q_pI_aL, q_pI_aR, q_pI_K, q_pI_ln, q_pI_n, q_pI_sl, q_pI_is, q_pI_ck, q_pL_fI, q_pL_fL, q_pL_fR, q_pL_aI, q_pL_aL, q_pL_aR, q_pL_K, q_pL_ln, q_pL_n, q_pL_sl, q_pL_is, q_pL_ck, q_pR_fI, q_pR_fL, q_pR_fR, q_pR_aI, q_pR_aL, q_pR_aR, q_pR_K, q_pR_ln, q_pR_n, q_pR_sl, q_pR_is, q_pR_ck, q_rI_fI, q_rI_fL, q_rI_fR, q_rI_aI, q_rI_aL, q_rI_aR, q_rI_K, q_rI_ln, q_rI_n, q_rI_sl, q_rI_is, q_rI_ck, q_rL_fI, q_rL_fL, q_rL_fR, q_rL_aI, q_rL_aL, q_rL_aR, q_rL_K, q_rL_ln, q_rL_n, q_rL_sl, q_rL_is, q_rL_ck, q_rR_fI, q_rR_fL, q_rR_fR, q_rR_aI, q_rR_aL, q_rR_aR, q_rR_K, q_rR_ln, q_rR_n, q_rR_sl, q_rR_is, q_rR_ck]; rw [g_up_s]
    refine ⟨_, rfl, Imm.of (Imm.pR (Imm.pR hI (by decide)) (by decide)) rfl rfl rfl rfl rfl, e, ⟨ff, fp, sw⟩, ?_, ?_, ?_, ff, fp, sw, h6 rfl, fun q => by cases q⟩
    · simp only [q_pI_fI, q_pI_fL, q_pI_fR, q_pI_aI, q_pI_aL, q_pI_aR, q_pI_K, q_pI_ln, q_pI_n, q_pI_sl, q_pI_is, q_pI_ck, q_pL_fI, q_pL_fL, q_pL_fR, q_pL_aI, q_pL_aL, q_pL_aR, q_pL_K, q_pL_ln, q_pL_n, q_pL_sl, q_pL_is, q_pL_ck, q_pR_fI, q_pR_fL, q_pR_fR, q_pR_aI, q_pR_aL, q_pR_aR, q_pR_K, q_pR_ln, q_pR_n, q_pR_sl, q_pR_is, q_pR_ck, q_rI_fI, q_rI_fL, q_rI_fR, q_rI_aI, q_rI_aL, q_rI_aR, q_rI_K, q_rI_ln, q_rI_n, q_rI_sl, q_rI_is, q_rI_ck, q_rL_fI, q_rL_fL, q_rL_fR, q_rL_aI, q_rL_aL, q_rL_aR, q_rL_K, q_rL_ln, q_rL_n, q_rL_sl, q_rL_is, q_rL_ck, q_rR_fI, q_rR_fL, q_rR_fR, q_rR_aI, q_rR_aL, q_rR_aR, q_rR_K, q_rR_ln, q_rR_n, q_rR_sl, q_rR_is, q_rR_ck]; rw [g_up_f (by decide)]; exact h1
    · simp only [q_pI_fI, q_pI_fL, q_pI_fR, q_pI_aI, q_pI_aL, q_pI_aR, q_pI_K, q_pI_ln, q_pI_n, q_pI_sl, q_pI_is, q_pI_ck, q_pL_fI, q_pL_fL, q_pL_fR, q_pL_aI, q_pL_aL, q_pL_aR, q_pL_K, q_pL_ln, q_pL_n, q_pL_sl, q_pL_is, q_pL_ck, q_pR_fI, q_pR_fL, q_pR_fR, q_pR_aI, q_pR_aL, q_pR_aR, q_pR_K, q_pR_ln, q_pR_n, q_pR_sl, q_pR_is, q_pR_ck, q_rI_fI, q_rI_fL, q_rI_fR, q_rI_aI, q_rI_aL, q_rI_aR, q_rI_K, q_rI_ln, q_rI_n, q_rI_sl, q_rI_is, q_rI_ck, q_rL_fI, q_rL_fL, q_rL_fR, q_rL_aI, q_rL_aL, q_rL_aR, q_rL_K, q_rL_ln, q_rL_n, q_rL_sl, q_rL_is, q_rL_ck, q_rR_fI, q_rR_fL, q_rR_fR, q_rR_aI, q_rR_aL, q_rR_aR, q_rR_K, q_rR_ln, q_rR_n, q_rR_sl, q_rR_is, q_rR_ck]; rw [g_up_s]; exact hx.symm
    · simp only [q_pI_fI, q_pI_fL, q_pI_fR, q_pI_aI, q_pI_aL, q_pI_aR, q_pI_K, q_pI_ln, q_pI_n, q_pI_sl, q_pI_is, q_pI_ck, q_pL_fI, q_pL_fL, q_pL_fR, q_pL_aI, q_pL_aL, q_pL_aR, q_pL_K, q_pL_ln, q_pL_n, q_pL_sl, q_pL_is, q_pL_ck, q_pR_fI, q_pR_fL, q_pR_fR, q_pR_aI, q_pR_aL, q_pR_aR, q_pR_K, q_pR_ln, q_pR_n, q_pR_sl, q_pR_is, q_pR_ck, q_rI_fI, q_rI_fL, q_rI_fR, q_rI_aI, q_rI_aL, q_rI_aR, q_rI_K, q_rI_ln, q_rI_n, q_rI_sl, q_rI_is, q_rI_ck, q_rL_fI, q_rL_fL, q_rL_fR, q_rL_aI, q_rL_aL, q_rL_aR, q_rL_K, q_rL_ln, q_rL_n, q_rL_sl, q_rL_is, q_rL_ck, q_rR_fI, q_rR_fL, q_rR_fR, q_rR_aI, q_rR_aL, q_rR_aR, q_rR_K, q_rR_ln, q_rR_n, q_rR_sl, q_rR_is, q_rR_ck]; rw [g_up_f (by decide)]; exact h3
  rw [h2]
  by_cases c : r.2.1 = 1
  · rw [if_pos c] at hx ⊢; rw [hx]; exact key
  · rw [if_neg c] at hx ⊢; rw [hx]; exact key
theorem keepPrior_C {S : gS} {p : Nat} {r : mRow} {sc nx : List mCol} {run : Bool} (hI : Imm S) (hp : p < 40) (h : RowC S p r sc nx run) : ∃ S1, f_X4_keepPrior S (4 + 5 * p) = some S1 ∧ Imm S1 ∧ Fr (4 + 5 * p) (9 + 5 * p) S S1 ∧ OneR S1 p ∧ RowC S1 p (gRol r) sc nx false := by
  obtain ⟨h1, h2, h3, fp, ff, h4, h5, h6⟩ := h
  have hr := hI.row hp
  unfold f_X4_keepPrior
  simp only [g_getI, g_getL, g_getR, g_putI, g_putZ, g_putL, g_putR, g_ldI, g_ldL, g_ldR, g_stI, g_stZ, g_stL, g_stR, g_alen, g_ldX, g_cVI, g_cVL, g_cVR, g_cVV, g_cI, g_cL, g_cN, g_lt, g_jn, g_cpI, g_cpL, g_z, Nat.reduceMul, Nat.reduceAdd, Option.bind_some, or_true, true_or, if_true, q_pI_fI, q_pI_fL, q_pI_fR, q_pI_aI, q_pI_aL, q_pI_aR, q_pI_K, q_pI_ln, q_pI_n, q_pI_sl, q_pI_is, q_pI_ck, q_pL_fI, q_pL_fL, q_pL_fR, q_pL_aI, q_pL_aL, q_pL_aR, q_pL_K, q_pL_ln, q_pL_n, q_pL_sl, q_pL_is, q_pL_ck, q_pR_fI, q_pR_fL, q_pR_fR, q_pR_aI, q_pR_aL, q_pR_aR, q_pR_K, q_pR_ln, q_pR_n, q_pR_sl, q_pR_is, q_pR_ck, q_rI_fI, q_rI_fL, q_rI_fR, q_rI_aI, q_rI_aL, q_rI_aR, q_rI_K, q_rI_ln, q_rI_n, q_rI_sl, q_rI_is, q_rI_ck, q_rL_fI, q_rL_fL, q_rL_fR, q_rL_aI, q_rL_aL, q_rL_aR, q_rL_K, q_rL_ln, q_rL_n, q_rL_sl, q_rL_is, q_rL_ck, q_rR_fI, q_rR_fL, q_rR_fR, q_rR_aI, q_rR_aL, q_rR_aR, q_rR_K, q_rR_ln, q_rR_n, q_rR_sl, q_rR_is, q_rR_ck, g_ck_t hr, h3]
  generalize hx : (if r.2.2.1 = 0 then (0 : Int32) else 1) = x
  have key : ∃ S1, (some (g_pI S 257 (4 + 5 * p) x)) = some S1 ∧ Imm S1 ∧ Fr (4 + 5 * p) (9 + 5 * p) S S1 ∧ OneR S1 p ∧ RowC S1 p (gRol r) sc nx false := by
    have e : Fr (4 + 5 * p) (9 + 5 * p) S (g_pI S 257 (4 + 5 * p) x) := Fr.pI (by omega) (by omega)
    refine ⟨_, rfl, hI.of rfl rfl rfl rfl rfl, e, ⟨fp, ff, h4⟩, ?_, ?_, ?_, fp, ff, h4, h5, fun q => by cases q⟩
    · simp only [q_pI_fI, q_pI_fL, q_pI_fR, q_pI_aI, q_pI_aL, q_pI_aR, q_pI_K, q_pI_ln, q_pI_n, q_pI_sl, q_pI_is, q_pI_ck, q_pL_fI, q_pL_fL, q_pL_fR, q_pL_aI, q_pL_aL, q_pL_aR, q_pL_K, q_pL_ln, q_pL_n, q_pL_sl, q_pL_is, q_pL_ck, q_pR_fI, q_pR_fL, q_pR_fR, q_pR_aI, q_pR_aL, q_pR_aR, q_pR_K, q_pR_ln, q_pR_n, q_pR_sl, q_pR_is, q_pR_ck, q_rI_fI, q_rI_fL, q_rI_fR, q_rI_aI, q_rI_aL, q_rI_aR, q_rI_K, q_rI_ln, q_rI_n, q_rI_sl, q_rI_is, q_rI_ck, q_rL_fI, q_rL_fL, q_rL_fR, q_rL_aI, q_rL_aL, q_rL_aR, q_rL_K, q_rL_ln, q_rL_n, q_rL_sl, q_rL_is, q_rL_ck, q_rR_fI, q_rR_fL, q_rR_fR, q_rR_aI, q_rR_aL, q_rR_aR, q_rR_K, q_rR_ln, q_rR_n, q_rR_sl, q_rR_is, q_rR_ck]; rw [g_up_f (by decide)]; exact h1
    · simp only [q_pI_fI, q_pI_fL, q_pI_fR, q_pI_aI, q_pI_aL, q_pI_aR, q_pI_K, q_pI_ln, q_pI_n, q_pI_sl, q_pI_is, q_pI_ck, q_pL_fI, q_pL_fL, q_pL_fR, q_pL_aI, q_pL_aL, q_pL_aR, q_pL_K, q_pL_ln, q_pL_n, q_pL_sl, q_pL_is, q_pL_ck, q_pR_fI, q_pR_fL, q_pR_fR, q_pR_aI, q_pR_aL, q_pR_aR, q_pR_K, q_pR_ln, q_pR_n, q_pR_sl, q_pR_is, q_pR_ck, q_rI_fI, q_rI_fL, q_rI_fR, q_rI_aI, q_rI_aL, q_rI_aR, q_rI_K, q_rI_ln, q_rI_n, q_rI_sl, q_rI_is, q_rI_ck, q_rL_fI, q_rL_fL, q_rL_fR, q_rL_aI, q_rL_aL, q_rL_aR, q_rL_K, q_rL_ln, q_rL_n, q_rL_sl, q_rL_is, q_rL_ck, q_rR_fI, q_rR_fL, q_rR_fR, q_rR_aI, q_rR_aL, q_rR_aR, q_rR_K, q_rR_ln, q_rR_n, q_rR_sl, q_rR_is, q_rR_ck]; rw [g_up_s]; exact hx.symm
    · simp only [q_pI_fI, q_pI_fL, q_pI_fR, q_pI_aI, q_pI_aL, q_pI_aR, q_pI_K, q_pI_ln, q_pI_n, q_pI_sl, q_pI_is, q_pI_ck, q_pL_fI, q_pL_fL, q_pL_fR, q_pL_aI, q_pL_aL, q_pL_aR, q_pL_K, q_pL_ln, q_pL_n, q_pL_sl, q_pL_is, q_pL_ck, q_pR_fI, q_pR_fL, q_pR_fR, q_pR_aI, q_pR_aL, q_pR_aR, q_pR_K, q_pR_ln, q_pR_n, q_pR_sl, q_pR_is, q_pR_ck, q_rI_fI, q_rI_fL, q_rI_fR, q_rI_aI, q_rI_aL, q_rI_aR, q_rI_K, q_rI_ln, q_rI_n, q_rI_sl, q_rI_is, q_rI_ck, q_rL_fI, q_rL_fL, q_rL_fR, q_rL_aI, q_rL_aL, q_rL_aR, q_rL_K, q_rL_ln, q_rL_n, q_rL_sl, q_rL_is, q_rL_ck, q_rR_fI, q_rR_fL, q_rR_fR, q_rR_aI, q_rR_aL, q_rR_aR, q_rR_K, q_rR_ln, q_rR_n, q_rR_sl, q_rR_is, q_rR_ck]; rw [g_up_f (by decide)]; exact h3
  by_cases c : r.2.2.1 = 0
  · rw [if_pos c] at hx ⊢; rw [hx]; exact key
  · rw [if_neg c] at hx ⊢; rw [hx]; exact key
theorem finish_C {S : gS} {m : mS} (h : RC S m) (k : mOk m) : COp S 0 237 (f_X8_finish S 0) (mFinish m).1 (fun S1 => RC S1 (mFinish m).2) := by
  obtain ⟨S2, a2, a3, a4, a1⟩ := endRunning_C h k
  obtain ⟨hI, -⟩ := h.dk
  have c0 : g_is S 8 0 := hI.is (by decide) (by decide)
  have k2 := k.disk (mEnd_ok k)
  obtain ⟨dk, vr, pl, mg, sc, nx, dr, sn, tb⟩ := m
  unfold f_X8_finish mFinish
  dsimp only
  unfold g_cVI
  rw [g_ck_t c0, a1, Option.bind_some]
  dsimp only
  by_cases e1 : (mEnd (dk, vr, pl, mg, sc, nx, dr, sn, tb)).1 = 0
  · have run := mEnd_run e1
    rw [if_pos e1, if_pos e1]
    simp only [if_pos e1]
    generalize (mEnd (dk, vr, pl, mg, sc, nx, dr, sn, tb)).1 = z0
    generalize (mEnd (dk, vr, pl, mg, sc, nx, dr, sn, tb)).2 = d at a4 k2
    obtain ⟨hI2, sA, sB, pA, pB, h1, h2, h3, h4, h5, h6, h7, h8⟩ := a4
    obtain ⟨k1, k2, k3, k4, k5, k6, k7, k8⟩ := k2
    have hs := h1.2.2.2.2.2.2.1
    have hp := h1.2.2.2.2.2.2.2
    have c0' : g_is S2 8 0 := hI2.is (by decide) (by decide)
    simp only [g_getR, g_putR, g_getI, g_putI, Nat.reduceMul, Nat.reduceAdd, q_pI_fI, q_pI_fL, q_pI_fR, q_pI_aI, q_pI_aL, q_pI_aR, q_pI_K, q_pI_ln, q_pI_n, q_pI_sl, q_pI_is, q_pI_ck, q_pL_fI, q_pL_fL, q_pL_fR, q_pL_aI, q_pL_aL, q_pL_aR, q_pL_K, q_pL_ln, q_pL_n, q_pL_sl, q_pL_is, q_pL_ck, q_pR_fI, q_pR_fL, q_pR_fR, q_pR_aI, q_pR_aL, q_pR_aR, q_pR_K, q_pR_ln, q_pR_n, q_pR_sl, q_pR_is, q_pR_ck, q_rI_fI, q_rI_fL, q_rI_fR, q_rI_aI, q_rI_aL, q_rI_aR, q_rI_K, q_rI_ln, q_rI_n, q_rI_sl, q_rI_is, q_rI_ck, q_rL_fI, q_rL_fL, q_rL_fR, q_rL_aI, q_rL_aL, q_rL_aR, q_rL_K, q_rL_ln, q_rL_n, q_rL_sl, q_rL_is, q_rL_ck, q_rR_fI, q_rR_fL, q_rR_fR, q_rR_aI, q_rR_aL, q_rR_aR, q_rR_K, q_rR_ln, q_rR_n, q_rR_sl, q_rR_is, q_rR_ck, g_ck_t c0', h1.1, h1.2.1, Option.bind_some]
    have hv : g_up (gfI S2) 522 0 0 523 0 = vr.1 := (g_up_f (by decide)).trans h1.2.2.2.2.1
    rw [hv]
    generalize hS3 : g_pI (g_pR (g_pR (g_pI S2 522 0 0) 518 0 (some sB)) 519 0 (some sA)) 523 0 (vr.1 + 1) = S3
    have hI3 : Imm S3 := by rw [← hS3]; exact Imm.of (Imm.pR (Imm.pR (Imm.of hI2 rfl rfl rfl rfl rfl) (by decide)) (by decide)) rfl rfl rfl rfl rfl
    have e : Fr 0 1 S2 S3 := by rw [← hS3]; exact (((Fr.pI (by omega) (by omega)).trans (Fr.pR (by omega) (by omega))).trans (Fr.pR (by omega) (by omega))).trans (Fr.pI (by omega) (by omega))
    have hH : HouseC S3 sB sA pA pB (vr.1 + 1, false) := by
      rw [← hS3]
      refine ⟨?_, ?_, ?_, ?_, ?_, ?_, by omega, hp⟩
      · simp only [q_pI_fI, q_pI_fL, q_pI_fR, q_pI_aI, q_pI_aL, q_pI_aR, q_pI_K, q_pI_ln, q_pI_n, q_pI_sl, q_pI_is, q_pI_ck, q_pL_fI, q_pL_fL, q_pL_fR, q_pL_aI, q_pL_aL, q_pL_aR, q_pL_K, q_pL_ln, q_pL_n, q_pL_sl, q_pL_is, q_pL_ck, q_pR_fI, q_pR_fL, q_pR_fR, q_pR_aI, q_pR_aL, q_pR_aR, q_pR_K, q_pR_ln, q_pR_n, q_pR_sl, q_pR_is, q_pR_ck, q_rI_fI, q_rI_fL, q_rI_fR, q_rI_aI, q_rI_aL, q_rI_aR, q_rI_K, q_rI_ln, q_rI_n, q_rI_sl, q_rI_is, q_rI_ck, q_rL_fI, q_rL_fL, q_rL_fR, q_rL_aI, q_rL_aL, q_rL_aR, q_rL_K, q_rL_ln, q_rL_n, q_rL_sl, q_rL_is, q_rL_ck, q_rR_fI, q_rR_fL, q_rR_fR, q_rR_aI, q_rR_aL, q_rR_aR, q_rR_K, q_rR_ln, q_rR_n, q_rR_sl, q_rR_is, q_rR_ck]; rw [g_up_f (by decide), g_up_s]
      · simp only [q_pI_fI, q_pI_fL, q_pI_fR, q_pI_aI, q_pI_aL, q_pI_aR, q_pI_K, q_pI_ln, q_pI_n, q_pI_sl, q_pI_is, q_pI_ck, q_pL_fI, q_pL_fL, q_pL_fR, q_pL_aI, q_pL_aL, q_pL_aR, q_pL_K, q_pL_ln, q_pL_n, q_pL_sl, q_pL_is, q_pL_ck, q_pR_fI, q_pR_fL, q_pR_fR, q_pR_aI, q_pR_aL, q_pR_aR, q_pR_K, q_pR_ln, q_pR_n, q_pR_sl, q_pR_is, q_pR_ck, q_rI_fI, q_rI_fL, q_rI_fR, q_rI_aI, q_rI_aL, q_rI_aR, q_rI_K, q_rI_ln, q_rI_n, q_rI_sl, q_rI_is, q_rI_ck, q_rL_fI, q_rL_fL, q_rL_fR, q_rL_aI, q_rL_aL, q_rL_aR, q_rL_K, q_rL_ln, q_rL_n, q_rL_sl, q_rL_is, q_rL_ck, q_rR_fI, q_rR_fL, q_rR_fR, q_rR_aI, q_rR_aL, q_rR_aR, q_rR_K, q_rR_ln, q_rR_n, q_rR_sl, q_rR_is, q_rR_ck]; rw [g_up_s]
      · simp only [q_pI_fI, q_pI_fL, q_pI_fR, q_pI_aI, q_pI_aL, q_pI_aR, q_pI_K, q_pI_ln, q_pI_n, q_pI_sl, q_pI_is, q_pI_ck, q_pL_fI, q_pL_fL, q_pL_fR, q_pL_aI, q_pL_aL, q_pL_aR, q_pL_K, q_pL_ln, q_pL_n, q_pL_sl, q_pL_is, q_pL_ck, q_pR_fI, q_pR_fL, q_pR_fR, q_pR_aI, q_pR_aL, q_pR_aR, q_pR_K, q_pR_ln, q_pR_n, q_pR_sl, q_pR_is, q_pR_ck, q_rI_fI, q_rI_fL, q_rI_fR, q_rI_aI, q_rI_aL, q_rI_aR, q_rI_K, q_rI_ln, q_rI_n, q_rI_sl, q_rI_is, q_rI_ck, q_rL_fI, q_rL_fL, q_rL_fR, q_rL_aI, q_rL_aL, q_rL_aR, q_rL_K, q_rL_ln, q_rL_n, q_rL_sl, q_rL_is, q_rL_ck, q_rR_fI, q_rR_fL, q_rR_fR, q_rR_aI, q_rR_aL, q_rR_aR, q_rR_K, q_rR_ln, q_rR_n, q_rR_sl, q_rR_is, q_rR_ck]; rw [g_up_f (by decide), g_up_f (by decide)]; exact h1.2.2.1
      · simp only [q_pI_fI, q_pI_fL, q_pI_fR, q_pI_aI, q_pI_aL, q_pI_aR, q_pI_K, q_pI_ln, q_pI_n, q_pI_sl, q_pI_is, q_pI_ck, q_pL_fI, q_pL_fL, q_pL_fR, q_pL_aI, q_pL_aL, q_pL_aR, q_pL_K, q_pL_ln, q_pL_n, q_pL_sl, q_pL_is, q_pL_ck, q_pR_fI, q_pR_fL, q_pR_fR, q_pR_aI, q_pR_aL, q_pR_aR, q_pR_K, q_pR_ln, q_pR_n, q_pR_sl, q_pR_is, q_pR_ck, q_rI_fI, q_rI_fL, q_rI_fR, q_rI_aI, q_rI_aL, q_rI_aR, q_rI_K, q_rI_ln, q_rI_n, q_rI_sl, q_rI_is, q_rI_ck, q_rL_fI, q_rL_fL, q_rL_fR, q_rL_aI, q_rL_aL, q_rL_aR, q_rL_K, q_rL_ln, q_rL_n, q_rL_sl, q_rL_is, q_rL_ck, q_rR_fI, q_rR_fL, q_rR_fR, q_rR_aI, q_rR_aL, q_rR_aR, q_rR_K, q_rR_ln, q_rR_n, q_rR_sl, q_rR_is, q_rR_ck]; rw [g_up_f (by decide), g_up_f (by decide)]; exact h1.2.2.2.1
      · simp only [q_pI_fI, q_pI_fL, q_pI_fR, q_pI_aI, q_pI_aL, q_pI_aR, q_pI_K, q_pI_ln, q_pI_n, q_pI_sl, q_pI_is, q_pI_ck, q_pL_fI, q_pL_fL, q_pL_fR, q_pL_aI, q_pL_aL, q_pL_aR, q_pL_K, q_pL_ln, q_pL_n, q_pL_sl, q_pL_is, q_pL_ck, q_pR_fI, q_pR_fL, q_pR_fR, q_pR_aI, q_pR_aL, q_pR_aR, q_pR_K, q_pR_ln, q_pR_n, q_pR_sl, q_pR_is, q_pR_ck, q_rI_fI, q_rI_fL, q_rI_fR, q_rI_aI, q_rI_aL, q_rI_aR, q_rI_K, q_rI_ln, q_rI_n, q_rI_sl, q_rI_is, q_rI_ck, q_rL_fI, q_rL_fL, q_rL_fR, q_rL_aI, q_rL_aL, q_rL_aR, q_rL_K, q_rL_ln, q_rL_n, q_rL_sl, q_rL_is, q_rL_ck, q_rR_fI, q_rR_fL, q_rR_fR, q_rR_aI, q_rR_aL, q_rR_aR, q_rR_K, q_rR_ln, q_rR_n, q_rR_sl, q_rR_is, q_rR_ck]; rw [g_up_s]
      · simp only [q_pI_fI, q_pI_fL, q_pI_fR, q_pI_aI, q_pI_aL, q_pI_aR, q_pI_K, q_pI_ln, q_pI_n, q_pI_sl, q_pI_is, q_pI_ck, q_pL_fI, q_pL_fL, q_pL_fR, q_pL_aI, q_pL_aL, q_pL_aR, q_pL_K, q_pL_ln, q_pL_n, q_pL_sl, q_pL_is, q_pL_ck, q_pR_fI, q_pR_fL, q_pR_fR, q_pR_aI, q_pR_aL, q_pR_aR, q_pR_K, q_pR_ln, q_pR_n, q_pR_sl, q_pR_is, q_pR_ck, q_rI_fI, q_rI_fL, q_rI_fR, q_rI_aI, q_rI_aL, q_rI_aR, q_rI_K, q_rI_ln, q_rI_n, q_rI_sl, q_rI_is, q_rI_ck, q_rL_fI, q_rL_fL, q_rL_fR, q_rL_aI, q_rL_aL, q_rL_aR, q_rL_K, q_rL_ln, q_rL_n, q_rL_sl, q_rL_is, q_rL_ck, q_rR_fI, q_rR_fL, q_rR_fR, q_rR_aI, q_rR_aL, q_rR_aR, q_rR_K, q_rR_ln, q_rR_n, q_rR_sl, q_rR_is, q_rR_ck]; rw [g_up_f (by decide), g_up_s]; rfl
    have h7' : TableC S3 tb sc nx vr.2 := h7.fr k5 (fun a a1 a2 => e a (by omega))
    obtain ⟨t1, q, t2, t3, t4⟩ := h7'
    have run' : vr.2 = true := run
    rw [run'] at t4
    obtain ⟨S4, d1, d2, d3, d4⟩ := rows_loop (tb := tb) (sc := sc) (nx := nx) (sc2 := nx) (nx2 := nx) (run := true) (run2 := false) (g := gFin) (Amb := fun _ => True) (loop := fun fu S i => l_X8_finish_41 0 z0 sA fu S i (fun S15 _ => g_getI S15 8 11 0 fun x17 => some (x17, S15))) (K := fun S15 _ => g_getI S15 8 11 0 fun x17 => some (x17, S15)) (step := f_X4_keepFresh) k5 (fun _ _ _ _ _ => trivial) (fun S p r hI _ hp _ _ hR => keepFresh_C hI hp hR) (fun fu S i hI hc hi hi2 => by
        obtain ⟨t1, t2, t3, t4⟩ := hI.tab
        show l_X8_finish_41 0 z0 sA (fu + 1) S (nI i) _ = _
        rw [l_X8_finish_41]
        simp only [g_getI, g_getL, g_getR, g_putI, g_putZ, g_putL, g_putR, g_ldI, g_ldL, g_ldR, g_stI, g_stZ, g_stL, g_stR, g_alen, g_ldX, g_cVI, g_cVL, g_cVR, g_cVV, g_cI, g_cL, g_cN, g_lt, g_jn, g_cpI, g_cpL, g_z, Nat.reduceMul, Nat.reduceAdd, Option.bind_some, or_true, true_or, if_true, g_ck_t (hI.is (show 0 < 265 by decide) (show K0 0 = 8 by decide)), hI.r (513, 0, 2) (by decide), g_ck_t t1, hc]
        rw [if_pos (nI_le hi (by omega))]) (fun fu S i p hI hc hi hp hr => by
        obtain ⟨t1, t2, t3, t4⟩ := hI.tab
        show l_X8_finish_41 0 z0 sA (fu + 1) S (nI i) _ = _
        rw [l_X8_finish_41]
        simp only [g_getI, g_getL, g_getR, g_putI, g_putZ, g_putL, g_putR, g_ldI, g_ldL, g_ldR, g_stI, g_stZ, g_stL, g_stR, g_alen, g_ldX, g_cVI, g_cVL, g_cVR, g_cVV, g_cI, g_cL, g_cN, g_lt, g_jn, g_cpI, g_cpL, g_z, Nat.reduceMul, Nat.reduceAdd, Option.bind_some, or_true, true_or, if_true, g_ck_t (hI.is (show 0 < 265 by decide) (show K0 0 = 8 by decide)), hI.r (513, 0, 2) (by decide), g_ck_t t1, hc, t2, g_ck_t t3, t4]
        rw [if_neg (nI_ge hi (by omega)), g_ix_t (by omega) (by decide), nI_clamp (by omega), hr, Option.bind_some, g_ck_t (hI.row hp), add1]) tb.length 100 0 S3 q (by omega) (by omega) hI3 trivial t1 t2 t3 (fun j r hj => by omega) (fun j r _ hjr => t4 j r hjr)
    refine COp.pre (S1 := S4) (((a3.mono (by decide) (by decide)).trans (e.mono (by decide) (by decide))).trans (d3.mono (by decide) (by decide))) ?_
    have e2 : Fr 0 204 S2 S4 := (e.mono (by decide) (by decide)).trans (d3.mono (by decide) (by decide))
    have hH4 : HouseC S4 sB sA pA pB (vr.1 + 1, false) := hH.fr (d3 0 (by omega))
    refine ⟨S4, ?_, d2, Fr.refl, d2, sB, sA, pA, pB, hH4, ?_, ?_, ?_, ?_, ?_, d4, fun q => by cases q⟩
    · refine d1.trans ?_
      simp only [g_getI, g_getL, g_getR, g_putI, g_putZ, g_putL, g_putR, g_ldI, g_ldL, g_ldR, g_stI, g_stZ, g_stL, g_stR, g_alen, g_ldX, g_cVI, g_cVL, g_cVR, g_cVV, g_cI, g_cL, g_cN, g_lt, g_jn, g_cpI, g_cpL, g_z, Nat.reduceMul, Nat.reduceAdd, Option.bind_some, or_true, true_or, if_true, g_ck_t (d2.is (show 0 < 265 by decide) (show K0 0 = 8 by decide)), hH4.2.2.2.2.1]
    · exact (h2.fr (e 1 (by omega))).fr (d3 1 (by omega))
    · exact h3.fr k2.1 fun a a1 a2 => e2 a (by omega)
    · exact (h8 run').1.fr fun a a1 a2 => e2 a (by omega)
    · exact h5.fr (e2 _ (by omega)) (e2 _ (by omega))
    · refine h6.fr ?_ (fun a a1 a2 => e2 a (by omega))
      rw [(d3 0 (by omega)).1, ← hS3]
      simp only [q_pI_fI, q_pI_fL, q_pI_fR, q_pI_aI, q_pI_aL, q_pI_aR, q_pI_K, q_pI_ln, q_pI_n, q_pI_sl, q_pI_is, q_pI_ck, q_pL_fI, q_pL_fL, q_pL_fR, q_pL_aI, q_pL_aL, q_pL_aR, q_pL_K, q_pL_ln, q_pL_n, q_pL_sl, q_pL_is, q_pL_ck, q_pR_fI, q_pR_fL, q_pR_fR, q_pR_aI, q_pR_aL, q_pR_aR, q_pR_K, q_pR_ln, q_pR_n, q_pR_sl, q_pR_is, q_pR_ck, q_rI_fI, q_rI_fL, q_rI_fR, q_rI_aI, q_rI_aL, q_rI_aR, q_rI_K, q_rI_ln, q_rI_n, q_rI_sl, q_rI_is, q_rI_ck, q_rL_fI, q_rL_fL, q_rL_fR, q_rL_aI, q_rL_aL, q_rL_aR, q_rL_K, q_rL_ln, q_rL_n, q_rL_sl, q_rL_is, q_rL_ck, q_rR_fI, q_rR_fL, q_rR_fR, q_rR_aI, q_rR_aL, q_rR_aR, q_rR_K, q_rR_ln, q_rR_n, q_rR_sl, q_rR_is, q_rR_ck]
      rw [g_up_f (by decide), g_up_f (by decide)]
  · rw [if_neg e1, if_neg e1]
    simp only [if_neg e1]
    exact ⟨S2, rfl, a2, a3.mono (by decide) (by decide), a4⟩
theorem rollback_C {S : gS} {m : mS} (h : RC S m) (k : mOk m) : COp S 0 237 (f_X8_rollback S 0) (mRollback m).1 (fun S1 => RC S1 (mRollback m).2) := by
  obtain ⟨S2, a2, a3, a4, a1⟩ := endRunning_C h k
  obtain ⟨hI, -⟩ := h.dk
  have c0 : g_is S 8 0 := hI.is (by decide) (by decide)
  have k2 := k.disk (mEnd_ok k)
  obtain ⟨dk, vr, pl, mg, sc, nx, dr, sn, tb⟩ := m
  unfold f_X8_rollback mRollback
  dsimp only
  unfold g_cVI
  rw [g_ck_t c0, a1, Option.bind_some]
  dsimp only
  by_cases e1 : (mEnd (dk, vr, pl, mg, sc, nx, dr, sn, tb)).1 = 0
  · have run := mEnd_run e1
    rw [if_pos e1, if_pos e1]
    simp only [if_pos e1]
    generalize (mEnd (dk, vr, pl, mg, sc, nx, dr, sn, tb)).1 = z0
    generalize (mEnd (dk, vr, pl, mg, sc, nx, dr, sn, tb)).2 = d at a4 k2
    obtain ⟨hI2, sA, sB, pA, pB, h1, h2, h3, h4, h5, h6, h7, h8⟩ := a4
    obtain ⟨k1, k2, k3, k4, k5, k6, k7, k8⟩ := k2
    have hs := h1.2.2.2.2.2.2.1
    have hp := h1.2.2.2.2.2.2.2
    generalize hS3 : g_pI S2 522 0 0 = S3
    have hI3 : Imm S3 := by rw [← hS3]; exact Imm.of hI2 rfl rfl rfl rfl rfl
    have e : Fr 0 1 S2 S3 := by rw [← hS3]; exact Fr.pI (by omega) (by omega)
    have hH : HouseC S3 sA sB pA pB (vr.1, false) := by
      rw [← hS3]
      refine ⟨h1.1, h1.2.1, h1.2.2.1, h1.2.2.2.1, ?_, ?_, hs, hp⟩
      · simp only [q_pI_fI, q_pI_fL, q_pI_fR, q_pI_aI, q_pI_aL, q_pI_aR, q_pI_K, q_pI_ln, q_pI_n, q_pI_sl, q_pI_is, q_pI_ck, q_pL_fI, q_pL_fL, q_pL_fR, q_pL_aI, q_pL_aL, q_pL_aR, q_pL_K, q_pL_ln, q_pL_n, q_pL_sl, q_pL_is, q_pL_ck, q_pR_fI, q_pR_fL, q_pR_fR, q_pR_aI, q_pR_aL, q_pR_aR, q_pR_K, q_pR_ln, q_pR_n, q_pR_sl, q_pR_is, q_pR_ck, q_rI_fI, q_rI_fL, q_rI_fR, q_rI_aI, q_rI_aL, q_rI_aR, q_rI_K, q_rI_ln, q_rI_n, q_rI_sl, q_rI_is, q_rI_ck, q_rL_fI, q_rL_fL, q_rL_fR, q_rL_aI, q_rL_aL, q_rL_aR, q_rL_K, q_rL_ln, q_rL_n, q_rL_sl, q_rL_is, q_rL_ck, q_rR_fI, q_rR_fL, q_rR_fR, q_rR_aI, q_rR_aL, q_rR_aR, q_rR_K, q_rR_ln, q_rR_n, q_rR_sl, q_rR_is, q_rR_ck]; rw [g_up_f (by decide)]; exact h1.2.2.2.2.1
      · simp only [q_pI_fI, q_pI_fL, q_pI_fR, q_pI_aI, q_pI_aL, q_pI_aR, q_pI_K, q_pI_ln, q_pI_n, q_pI_sl, q_pI_is, q_pI_ck, q_pL_fI, q_pL_fL, q_pL_fR, q_pL_aI, q_pL_aL, q_pL_aR, q_pL_K, q_pL_ln, q_pL_n, q_pL_sl, q_pL_is, q_pL_ck, q_pR_fI, q_pR_fL, q_pR_fR, q_pR_aI, q_pR_aL, q_pR_aR, q_pR_K, q_pR_ln, q_pR_n, q_pR_sl, q_pR_is, q_pR_ck, q_rI_fI, q_rI_fL, q_rI_fR, q_rI_aI, q_rI_aL, q_rI_aR, q_rI_K, q_rI_ln, q_rI_n, q_rI_sl, q_rI_is, q_rI_ck, q_rL_fI, q_rL_fL, q_rL_fR, q_rL_aI, q_rL_aL, q_rL_aR, q_rL_K, q_rL_ln, q_rL_n, q_rL_sl, q_rL_is, q_rL_ck, q_rR_fI, q_rR_fL, q_rR_fR, q_rR_aI, q_rR_aL, q_rR_aR, q_rR_K, q_rR_ln, q_rR_n, q_rR_sl, q_rR_is, q_rR_ck]; rw [g_up_s]; rfl
    have h7' : TableC S3 tb sc nx vr.2 := h7.fr k5 (fun a a1 a2 => e a (by omega))
    obtain ⟨t1, q, t2, t3, t4⟩ := h7'
    obtain ⟨S4, d1, d2, d3, d4⟩ := rows_loop (tb := tb) (sc := sc) (nx := nx) (sc2 := sc) (nx2 := nx) (run := vr.2) (run2 := false) (g := gRol) (Amb := fun _ => True) (loop := fun fu S i => l_X8_rollback_13 0 z0 fu S i (fun S15 _ => g_getI S15 8 11 0 fun x17 => some (x17, S15))) (K := fun S15 _ => g_getI S15 8 11 0 fun x17 => some (x17, S15)) (step := f_X4_keepPrior) k5 (fun _ _ _ _ _ => trivial) (fun S p r hI _ hp _ _ hR => keepPrior_C hI hp hR) (fun fu S i hI hc hi hi2 => by
        obtain ⟨t1, t2, t3, t4⟩ := hI.tab
        show l_X8_rollback_13 0 z0 (fu + 1) S (nI i) _ = _
        rw [l_X8_rollback_13]
        simp only [g_getI, g_getL, g_getR, g_putI, g_putZ, g_putL, g_putR, g_ldI, g_ldL, g_ldR, g_stI, g_stZ, g_stL, g_stR, g_alen, g_ldX, g_cVI, g_cVL, g_cVR, g_cVV, g_cI, g_cL, g_cN, g_lt, g_jn, g_cpI, g_cpL, g_z, Nat.reduceMul, Nat.reduceAdd, Option.bind_some, or_true, true_or, if_true, g_ck_t (hI.is (show 0 < 265 by decide) (show K0 0 = 8 by decide)), hI.r (513, 0, 2) (by decide), g_ck_t t1, hc]
        rw [if_pos (nI_le hi (by omega))]) (fun fu S i p hI hc hi hp hr => by
        obtain ⟨t1, t2, t3, t4⟩ := hI.tab
        show l_X8_rollback_13 0 z0 (fu + 1) S (nI i) _ = _
        rw [l_X8_rollback_13]
        simp only [g_getI, g_getL, g_getR, g_putI, g_putZ, g_putL, g_putR, g_ldI, g_ldL, g_ldR, g_stI, g_stZ, g_stL, g_stR, g_alen, g_ldX, g_cVI, g_cVL, g_cVR, g_cVV, g_cI, g_cL, g_cN, g_lt, g_jn, g_cpI, g_cpL, g_z, Nat.reduceMul, Nat.reduceAdd, Option.bind_some, or_true, true_or, if_true, g_ck_t (hI.is (show 0 < 265 by decide) (show K0 0 = 8 by decide)), hI.r (513, 0, 2) (by decide), g_ck_t t1, hc, t2, g_ck_t t3, t4]
        rw [if_neg (nI_ge hi (by omega)), g_ix_t (by omega) (by decide), nI_clamp (by omega), hr, Option.bind_some, g_ck_t (hI.row hp), add1]) tb.length 100 0 S3 q (by omega) (by omega) hI3 trivial t1 t2 t3 (fun j r hj => by omega) (fun j r _ hjr => t4 j r hjr)
    refine COp.pre (S1 := S4) (((a3.mono (by decide) (by decide)).trans (e.mono (by decide) (by decide))).trans (d3.mono (by decide) (by decide))) ?_
    have e2 : Fr 0 204 S2 S4 := (e.mono (by decide) (by decide)).trans (d3.mono (by decide) (by decide))
    have hH4 : HouseC S4 sA sB pA pB (vr.1, false) := hH.fr (d3 0 (by omega))
    refine ⟨S4, ?_, d2, Fr.refl, d2, sA, sB, pA, pB, hH4, ?_, ?_, ?_, ?_, ?_, d4, fun q => by cases q⟩
    · refine d1.trans ?_
      simp only [g_getI, g_getL, g_getR, g_putI, g_putZ, g_putL, g_putR, g_ldI, g_ldL, g_ldR, g_stI, g_stZ, g_stL, g_stR, g_alen, g_ldX, g_cVI, g_cVL, g_cVR, g_cVV, g_cI, g_cL, g_cN, g_lt, g_jn, g_cpI, g_cpL, g_z, Nat.reduceMul, Nat.reduceAdd, Option.bind_some, or_true, true_or, if_true, g_ck_t (d2.is (show 0 < 265 by decide) (show K0 0 = 8 by decide)), hH4.2.2.2.2.1]
    · exact (h2.fr (e 1 (by omega))).fr (d3 1 (by omega))
    · exact h3.fr k2.1 fun a a1 a2 => e2 a (by omega)
    · exact h4.fr fun a a1 a2 => e2 a (by omega)
    · exact h5.fr (e2 _ (by omega)) (e2 _ (by omega))
    · refine h6.fr ?_ (fun a a1 a2 => e2 a (by omega))
      rw [(d3 0 (by omega)).1, ← hS3]
      simp only [q_pI_fI, q_pI_fL, q_pI_fR, q_pI_aI, q_pI_aL, q_pI_aR, q_pI_K, q_pI_ln, q_pI_n, q_pI_sl, q_pI_is, q_pI_ck, q_pL_fI, q_pL_fL, q_pL_fR, q_pL_aI, q_pL_aL, q_pL_aR, q_pL_K, q_pL_ln, q_pL_n, q_pL_sl, q_pL_is, q_pL_ck, q_pR_fI, q_pR_fL, q_pR_fR, q_pR_aI, q_pR_aL, q_pR_aR, q_pR_K, q_pR_ln, q_pR_n, q_pR_sl, q_pR_is, q_pR_ck, q_rI_fI, q_rI_fL, q_rI_fR, q_rI_aI, q_rI_aL, q_rI_aR, q_rI_K, q_rI_ln, q_rI_n, q_rI_sl, q_rI_is, q_rI_ck, q_rL_fI, q_rL_fL, q_rL_fR, q_rL_aI, q_rL_aL, q_rL_aR, q_rL_K, q_rL_ln, q_rL_n, q_rL_sl, q_rL_is, q_rL_ck, q_rR_fI, q_rR_fL, q_rR_fR, q_rR_aI, q_rR_aL, q_rR_aR, q_rR_K, q_rR_ln, q_rR_n, q_rR_sl, q_rR_is, q_rR_ck]
      rw [g_up_f (by decide)]
  · rw [if_neg e1, if_neg e1]
    simp only [if_neg e1]
    exact ⟨S2, rfl, a2, a3.mono (by decide) (by decide), a4⟩
theorem Srt.map {tb : List mRow} {g : mRow → mRow} (h : Srt tb) (hg : ∀ r, (g r).1 = r.1) : Srt (tb.map g) := by
  unfold Srt at h ⊢
  rw [List.map_map]
  have : ((fun r : mRow => r.1) ∘ g) = (fun r : mRow => r.1) := funext hg
  rw [this]
  exact h
theorem mFinish_ok {m : mS} (k : mOk m) : mOk (mFinish m).2 := by
  have k0 := k
  obtain ⟨dk, vr, pl, mg, sc, nx, dr, sn, tb⟩ := m
  unfold mFinish
  dsimp only
  split
  · rename_i e
    have run : vr.2 = true := mEnd_run e
    obtain ⟨k1, k2, k3, k4, k5, k6, k7, k8⟩ := k
    refine ⟨mEnd_ok k0, k2, (k4 run).2.1, fun q => (by cases q), by rw [List.length_map]; exact k5, fun r hr => ?_, Srt.map k7 (fun _ => rfl), k8⟩
    obtain ⟨r0, hr0, rfl⟩ := List.mem_map.mp hr
    refine ⟨(k6 r0 hr0).1, ?_⟩
    unfold gFin
    dsimp only
    split
    · exact Or.inr (Or.inl rfl)
    · exact Or.inr (Or.inr ⟨rfl, rfl⟩)
  · exact k0.disk (mEnd_ok k0)
theorem mRollback_ok {m : mS} (k : mOk m) : mOk (mRollback m).2 := by
  have k0 := k
  obtain ⟨dk, vr, pl, mg, sc, nx, dr, sn, tb⟩ := m
  unfold mRollback
  dsimp only
  split
  · obtain ⟨k1, k2, k3, k4, k5, k6, k7, k8⟩ := k
    refine ⟨mEnd_ok k0, k2, k3, fun q => (by cases q), by rw [List.length_map]; exact k5, fun r hr => ?_, Srt.map k7 (fun _ => rfl), k8⟩
    obtain ⟨r0, hr0, rfl⟩ := List.mem_map.mp hr
    refine ⟨(k6 r0 hr0).1, ?_⟩
    unfold gRol
    dsimp only
    split
    · exact Or.inl rfl
    · exact Or.inr (Or.inl rfl)
  · exact k0.disk (mEnd_ok k0)
