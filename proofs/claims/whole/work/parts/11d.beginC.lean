/-! ===== begin of the class ===== -/
theorem rows_loop2 {α : Type} {tb : List mRow} {sc nx sc2 nx2 : List mCol} {run run2 : Bool} {g : mRow → mRow} {Amb : gS → Prop} {loop : Nat → gS → Int32 → Option α} {K : gS → Int32 → Option α} (hl : tb.length ≤ 40)
    (hamb : ∀ S S1, Amb S → Imm S1 → Fr 4 204 S S1 → Amb S1)
    (hstep : ∀ S i p r, Imm S → Amb S → gfI S 449 2 = nI tb.length → i < tb.length → p < 40 → gaR S 3 i = some (4 + 5 * p) → r ∈ tb → OneR S p → RowC S p r sc nx run → ∃ S1, (∀ fu, loop (fu + 1) S (nI i) = loop fu S1 (nI (i + 1))) ∧ Imm S1 ∧ Fr (4 + 5 * p) (9 + 5 * p) S S1 ∧ OneR S1 p ∧ RowC S1 p (g r) sc2 nx2 run2)
    (h0 : ∀ fu S i, Imm S → gfI S 449 2 = nI tb.length → tb.length ≤ i → i ≤ 40 → loop (fu + 1) S (nI i) = K S (nI i)) :
    ∀ (d fu i : Nat) (S : gS) (q : Nat → Nat), i + d = tb.length → d < fu → Imm S → Amb S → gfI S 449 2 = nI tb.length → PermC S q → (∀ p, p < 40 → OneR S p) → (∀ j r, j < i → tb[j]? = some r → RowC S (q j) (g r) sc2 nx2 run2) → (∀ j r, i ≤ j → tb[j]? = some r → RowC S (q j) r sc nx run) →
    ∃ S1, loop fu S (nI i) = K S1 (nI tb.length) ∧ Imm S1 ∧ Fr 4 204 S S1 ∧ TableC S1 (tb.map g) sc2 nx2 run2 := by
  intro d
  induction d with
  | zero =>
    intro fu i S q hi hf hI hA hc hp ho hlo hhi
    obtain ⟨fu, rfl⟩ : ∃ m, fu = m + 1 := ⟨fu - 1, by omega⟩
    have : i = tb.length := by omega
    subst this
    refine ⟨S, h0 fu S _ hI hc (by omega) hl, hI, Fr.refl, by rw [List.length_map]; exact hc, q, hp, ho, fun j r hj => ?_⟩
    rw [List.getElem?_map] at hj
    cases hr : tb[j]? with
    | none => rw [hr] at hj; cases hj
    | some r0 =>
      rw [hr] at hj
      cases hj
      exact hlo j r0 (lt_of_some hr) hr
  | succ d ih =>
    intro fu i S q hi hf hI hA hc hp ho hlo hhi
    obtain ⟨fu, rfl⟩ : ∃ m, fu = m + 1 := ⟨fu - 1, by omega⟩
    have hil : i < tb.length := by omega
    have hr := List.getElem?_eq_getElem hil
    have hq := hp.1 i (by omega)
    obtain ⟨S1, a1, a2, a3, a4, a5⟩ := hstep S i (q i) tb[i] hI hA hc hil hq (hp.2.2 i (by omega)) (List.mem_of_getElem? hr) (ho _ hq) (hhi i _ (by omega) hr)
    rw [a1 fu]
    have e4 : Fr 4 204 S S1 := a3.mono (by omega) (by omega)
    have oth : ∀ j r, j < 40 → j ≠ i → ∀ sc nx run, RowC S (q j) r sc nx run → RowC S1 (q j) r sc nx run := by
      intro j r hj hji sc nx run hR
      have hne : q j ≠ q i := fun z => hji (hp.2.1 j i hj (by omega) z)
      have hqj := hp.1 j hj
      exact hR.fr fun a b1 b2 => a3 a (by omega)
    obtain ⟨S2, b1, b2, b3, b4⟩ := ih fu (i + 1) S1 q (by omega) (by omega) a2 (hamb S S1 hA a2 e4) (by rw [(e4 2 (by omega)).1]; exact hc) (hp.fr (e4 3 (by omega))) (fun p hp2 => by
        by_cases c : p = q i
        · rw [c]; exact a4
        · exact (ho p hp2).fr (a3 _ (by omega))) (fun j r hj hjr => by
        by_cases c : j = i
        · subst c
          rw [hr] at hjr
          cases hjr
          exact a5
        · exact oth j _ (by omega) c _ _ _ (hlo j r (by omega) hjr)) (fun j r hj hjr => oth j _ (by have := lt_of_some hjr; omega) (by omega) _ _ _ (hhi j r (by omega) hjr))
    exact ⟨S2, b1, b2, e4.trans b3, b4⟩
def gBeg (mg : List mStep) (sc : List mCol) (r : mRow) : mRow := (r.1, 1, if r.2.1 = 1 then 1 else 0, r.2.2.2.1, mUp mg sc r.2.2.2.1)
def mBegin (m : mS) : Int32 × mS := match m with
  | (dk, vr, pl, mg, sc, nx, dr, sn, tb) => if dk.1 = 0 then (if vr.2 = true then (-2, wDk m (mStart dk)) else if pl.length = 0 then (-2, wDk m (mStart dk)) else if cntSh tb = 0 then (if vr.1 = 30 then (-4, wDk m (mStart dk)) else match mFw pl sc with
      | some k => (-10 - nI k, wDk m (mStart dk))
      | none => if (mAct (mStart dk)).1 = true then (nI (mSchs sc pl).length, ((mAct (mStart dk)).2, (vr.1, true), [], pl, sc, mSchs sc pl, dr, sn, tb.map (gBeg pl sc))) else (-9, wDk m (mAct (mStart dk)).2)) else (-2, wDk m (mStart dk))) else (-8, wDk m (mStart dk))
theorem mBegin_ok {m : mS} (k : mOk m) : mOk (mBegin m).2 := by
  have ks := mStart_ok k.dk
  have k0 := k
  obtain ⟨dk, vr, pl, mg, sc, nx, dr, sn, tb⟩ := m
  obtain ⟨k1, k2, k3, k4, k5, k6, k7, k8⟩ := k
  unfold mBegin
  dsimp only
  split
  · split
    · exact k0.disk ks
    · split
      · exact k0.disk ks
      · split
        · split
          · exact k0.disk ks
          · split
            · exact k0.disk ks
            · rename_i hq
              split
              · have hg := mFw_none _ _ hq
                refine ⟨mAct_ok ks, ⟨Nat.zero_le _, fun st h => (by cases h)⟩, k3, fun _ => ⟨k2, mSchs_ok _ _ k3 k2.2 hg, hg, rfl⟩, by rw [List.length_map]; exact k5, fun r hr => ?_, Srt.map k7 (fun _ => rfl), k8⟩
                obtain ⟨r0, hr0, rfl⟩ := List.mem_map.mp hr
                refine ⟨?_, Or.inr (Or.inl rfl)⟩
                unfold gBeg
                dsimp only
                split
                · exact Or.inr rfl
                · exact Or.inl rfl
              · exact k0.disk (mAct_ok ks)
        · exact k0.disk ks
  · exact k0.disk ks
theorem markBegun_C {S : gS} {p : Nat} {r : mRow} {sc nx : List mCol} {fp ff : Nat} {vs : List mV} (hI : Imm S) (hp : p < 40) (h1 : gfI S 256 (4 + 5 * p) = r.1) (h2 : gfI S 257 (4 + 5 * p) = r.2.1) (h4 : RowSw S p fp ff) (h5 : FormC (gaL S (fp + 1)) (tys sc) r.2.2.2.1) (h6 : FormC (gaL S (ff + 1)) (tys nx) vs) : ∃ S1, f_X4_markBegun S (4 + 5 * p) = some S1 ∧ Imm S1 ∧ Fr (4 + 5 * p) (5 + 5 * p) S S1 ∧ OneR S1 p ∧ RowC S1 p (r.1, 1, if r.2.1 = 1 then 1 else 0, r.2.2.2.1, vs) sc nx true := by
  have hr := hI.row hp
  unfold f_X4_markBegun
  simp only [g_getI, g_getL, g_getR, g_putI, g_putZ, g_putL, g_putR, g_ldI, g_ldL, g_ldR, g_stI, g_stZ, g_stL, g_stR, g_alen, g_ldX, g_cVI, g_cVL, g_cVR, g_cVV, g_cI, g_cL, g_cN, g_lt, g_jn, g_cpI, g_cpL, g_z, Nat.reduceMul, Nat.reduceAdd, Option.bind_some, or_true, true_or, if_true, q_pI_fI, q_pI_fL, q_pI_fR, q_pI_aI, q_pI_aL, q_pI_aR, q_pI_K, q_pI_ln, q_pI_n, q_pI_sl, q_pI_is, q_pI_ck, q_pL_fI, q_pL_fL, q_pL_fR, q_pL_aI, q_pL_aL, q_pL_aR, q_pL_K, q_pL_ln, q_pL_n, q_pL_sl, q_pL_is, q_pL_ck, q_pR_fI, q_pR_fL, q_pR_fR, q_pR_aI, q_pR_aL, q_pR_aR, q_pR_K, q_pR_ln, q_pR_n, q_pR_sl, q_pR_is, q_pR_ck, q_rI_fI, q_rI_fL, q_rI_fR, q_rI_aI, q_rI_aL, q_rI_aR, q_rI_K, q_rI_ln, q_rI_n, q_rI_sl, q_rI_is, q_rI_ck, q_rL_fI, q_rL_fL, q_rL_fR, q_rL_aI, q_rL_aL, q_rL_aR, q_rL_K, q_rL_ln, q_rL_n, q_rL_sl, q_rL_is, q_rL_ck, q_rR_fI, q_rR_fL, q_rR_fR, q_rR_aI, q_rR_aL, q_rR_aR, q_rR_K, q_rR_ln, q_rR_n, q_rR_sl, q_rR_is, q_rR_ck, g_ck_t hr, h2]
  generalize hx : (if r.2.1 = 1 then (1 : Int32) else 0) = x
  have hx01 : x = 0 ∨ x = 1 := by rw [← hx]; split <;> simp
  have key : ∃ S1, (some (g_pI (g_pI S 258 (4 + 5 * p) x) 257 (4 + 5 * p) 1)) = some S1 ∧ Imm S1 ∧ Fr (4 + 5 * p) (5 + 5 * p) S S1 ∧ OneR S1 p ∧ RowC S1 p (r.1, 1, x, r.2.2.2.1, vs) sc nx true := by
    have e : Fr (4 + 5 * p) (5 + 5 * p) S (g_pI (g_pI S 258 (4 + 5 * p) x) 257 (4 + 5 * p) 1) := (Fr.pI (by omega) (by omega)).trans (Fr.pI (by omega) (by omega))
    refine ⟨_, rfl, hI.of rfl rfl rfl rfl rfl, e, ⟨fp, ff, h4⟩, ?_, ?_, ?_, fp, ff, h4, h5, fun _ => h6⟩
    · simp only [q_pI_fI, q_pI_fL, q_pI_fR, q_pI_aI, q_pI_aL, q_pI_aR, q_pI_K, q_pI_ln, q_pI_n, q_pI_sl, q_pI_is, q_pI_ck, q_pL_fI, q_pL_fL, q_pL_fR, q_pL_aI, q_pL_aL, q_pL_aR, q_pL_K, q_pL_ln, q_pL_n, q_pL_sl, q_pL_is, q_pL_ck, q_pR_fI, q_pR_fL, q_pR_fR, q_pR_aI, q_pR_aL, q_pR_aR, q_pR_K, q_pR_ln, q_pR_n, q_pR_sl, q_pR_is, q_pR_ck, q_rI_fI, q_rI_fL, q_rI_fR, q_rI_aI, q_rI_aL, q_rI_aR, q_rI_K, q_rI_ln, q_rI_n, q_rI_sl, q_rI_is, q_rI_ck, q_rL_fI, q_rL_fL, q_rL_fR, q_rL_aI, q_rL_aL, q_rL_aR, q_rL_K, q_rL_ln, q_rL_n, q_rL_sl, q_rL_is, q_rL_ck, q_rR_fI, q_rR_fL, q_rR_fR, q_rR_aI, q_rR_aL, q_rR_aR, q_rR_K, q_rR_ln, q_rR_n, q_rR_sl, q_rR_is, q_rR_ck]; rw [g_up_f (by decide), g_up_f (by decide)]; exact h1
    · simp only [q_pI_fI, q_pI_fL, q_pI_fR, q_pI_aI, q_pI_aL, q_pI_aR, q_pI_K, q_pI_ln, q_pI_n, q_pI_sl, q_pI_is, q_pI_ck, q_pL_fI, q_pL_fL, q_pL_fR, q_pL_aI, q_pL_aL, q_pL_aR, q_pL_K, q_pL_ln, q_pL_n, q_pL_sl, q_pL_is, q_pL_ck, q_pR_fI, q_pR_fL, q_pR_fR, q_pR_aI, q_pR_aL, q_pR_aR, q_pR_K, q_pR_ln, q_pR_n, q_pR_sl, q_pR_is, q_pR_ck, q_rI_fI, q_rI_fL, q_rI_fR, q_rI_aI, q_rI_aL, q_rI_aR, q_rI_K, q_rI_ln, q_rI_n, q_rI_sl, q_rI_is, q_rI_ck, q_rL_fI, q_rL_fL, q_rL_fR, q_rL_aI, q_rL_aL, q_rL_aR, q_rL_K, q_rL_ln, q_rL_n, q_rL_sl, q_rL_is, q_rL_ck, q_rR_fI, q_rR_fL, q_rR_fR, q_rR_aI, q_rR_aL, q_rR_aR, q_rR_K, q_rR_ln, q_rR_n, q_rR_sl, q_rR_is, q_rR_ck]; rw [g_up_s]
    · simp only [q_pI_fI, q_pI_fL, q_pI_fR, q_pI_aI, q_pI_aL, q_pI_aR, q_pI_K, q_pI_ln, q_pI_n, q_pI_sl, q_pI_is, q_pI_ck, q_pL_fI, q_pL_fL, q_pL_fR, q_pL_aI, q_pL_aL, q_pL_aR, q_pL_K, q_pL_ln, q_pL_n, q_pL_sl, q_pL_is, q_pL_ck, q_pR_fI, q_pR_fL, q_pR_fR, q_pR_aI, q_pR_aL, q_pR_aR, q_pR_K, q_pR_ln, q_pR_n, q_pR_sl, q_pR_is, q_pR_ck, q_rI_fI, q_rI_fL, q_rI_fR, q_rI_aI, q_rI_aL, q_rI_aR, q_rI_K, q_rI_ln, q_rI_n, q_rI_sl, q_rI_is, q_rI_ck, q_rL_fI, q_rL_fL, q_rL_fR, q_rL_aI, q_rL_aL, q_rL_aR, q_rL_K, q_rL_ln, q_rL_n, q_rL_sl, q_rL_is, q_rL_ck, q_rR_fI, q_rR_fL, q_rR_fR, q_rR_aI, q_rR_aL, q_rR_aR, q_rR_K, q_rR_ln, q_rR_n, q_rR_sl, q_rR_is, q_rR_ck]; rw [g_up_f (by decide), g_up_s]
  by_cases c : r.2.1 = 1
  · rw [if_pos c] at hx ⊢
    subst hx
    exact key
  · rw [if_neg c] at hx ⊢
    subst hx
    exact key
theorem runStep_C {S : gS} {pA pB i p n : Nat} {pl : List mStep} {sc nx : List mCol} {run : Bool} {r : mRow} (hI : Imm S) (hp : isMig pA) (k2 : plOk pl) (k3 : scOk sc) (hg : mgOk pl sc) (hA : MigC S pA pl sc ∧ gfR S 521 0 = some pA) (hc : gfI S 449 2 = nI n) (hi : i < n) (hn : n ≤ 40) (hp40 : p < 40) (hrow : gaR S 3 i = some (4 + 5 * p)) (hR : RowC S p r sc nx run) : ∃ S1, (∀ fu, l_X8_runPlan_33 0 pB (fu + 1) S (nI i) = l_X8_runPlan_33 0 pB fu S1 (nI (i + 1))) ∧ Imm S1 ∧ Fr (4 + 5 * p) (9 + 5 * p) S S1 ∧ OneR S1 p ∧ RowC S1 p (gBeg pl sc r) sc (mSchs sc pl) true := by
  obtain ⟨t1, t2, t3, t4⟩ := hI.tab
  obtain ⟨r1, r2, r3, fp, ff, r4, r5, r6⟩ := hR
  have sw := r4.2.2
  have hpp : pA = 219 ∨ pA = 228 := hp
  obtain ⟨w1, b1, b2⟩ := makeUp_C (f := ff) (g := fp) hI hp (by omega) (hI.fm hp40 (by omega)) (hI.fm hp40 (by omega)) k2 hA.1 k3 hg r5
  have e2 : Fr (ff + 1) (ff + 2) S (g_rL S (ff + 1) w1) := Fr.rL (by omega) (by omega)
  have hI2 : Imm (g_rL S (ff + 1) w1) := hI.of rfl rfl rfl rfl rfl
  obtain ⟨S2, f1, f2, f3, f4, f5⟩ := markBegun_C (S := g_rL S (ff + 1) w1) (r := r) (sc := sc) (nx := mSchs sc pl) (fp := fp) (ff := ff) (vs := mUp pl sc r.2.2.2.1) hI2 hp40 r1 r2 r4 (by rw [q_rL_aL, g_row_n (by omega)]; exact r5) (by rw [q_rL_aL, g_row_s]; exact b2)
  refine ⟨S2, fun fu => ?_, f2, (e2.mono (by omega) (by omega)).trans (f3.mono (by omega) (by omega)), f4, f5⟩
  rw [l_X8_runPlan_33]
  simp only [g_getI, g_getL, g_getR, g_putI, g_putZ, g_putL, g_putR, g_ldI, g_ldL, g_ldR, g_stI, g_stZ, g_stL, g_stR, g_alen, g_ldX, g_cVI, g_cVL, g_cVR, g_cVV, g_cI, g_cL, g_cN, g_lt, g_jn, g_cpI, g_cpL, g_z, Nat.reduceMul, Nat.reduceAdd, Option.bind_some, or_true, true_or, if_true, g_ck_t (hI.is (show 0 < 265 by decide) (show K0 0 = 8 by decide)), hI.r (513, 0, 2) (by decide), g_ck_t t1, hc, t2, g_ck_t t3, t4, hA.2, g_ck_t (hI.mig hp).1]
  rw [if_neg (nI_ge hi (by omega)), g_ix_t (by omega) (by decide), nI_clamp (by omega), hrow, Option.bind_some, g_ck_t (hI.row hp40), r4.1, Option.bind_some, r4.2.1, Option.bind_some, g_ck_t (hI.row hp40), b1, Option.bind_some, g_ck_t (hI2.row hp40), f1, Option.bind_some, add1]
theorem runEnd_C {S : gS} {pB i n fu : Nat} (hI : Imm S) (hc : gfI S 449 2 = nI n) (hi : n ≤ i) (hi2 : i ≤ 40) : l_X8_runPlan_33 0 pB (fu + 1) S (nI i) = some S := by
  obtain ⟨t1, t2, t3, t4⟩ := hI.tab
  rw [l_X8_runPlan_33]
  simp only [g_getI, g_getL, g_getR, g_putI, g_putZ, g_putL, g_putR, g_ldI, g_ldL, g_ldR, g_stI, g_stZ, g_stL, g_stR, g_alen, g_ldX, g_cVI, g_cVL, g_cVR, g_cVV, g_cI, g_cL, g_cN, g_lt, g_jn, g_cpI, g_cpL, g_z, Nat.reduceMul, Nat.reduceAdd, Option.bind_some, or_true, true_or, if_true, g_ck_t (hI.is (show 0 < 265 by decide) (show K0 0 = 8 by decide)), hI.r (513, 0, 2) (by decide), g_ck_t t1, hc]
  rw [if_pos (nI_le hi (by omega))]
theorem runLoop_C {S : gS} {pA pB : Nat} {pl : List mStep} {sc nx : List mCol} {run : Bool} {tb : List mRow} (hI : Imm S) (hp : isMig pA) (k2 : plOk pl) (k3 : scOk sc) (hg : mgOk pl sc) (k5 : tb.length ≤ 40) (hA : MigC S pA pl sc ∧ gfR S 521 0 = some pA) (hT : TableC S tb sc nx run) : ∃ S1, l_X8_runPlan_33 0 pB 100 S 0 = some S1 ∧ Imm S1 ∧ Fr 4 204 S S1 ∧ TableC S1 (tb.map (gBeg pl sc)) sc (mSchs sc pl) true := by
  obtain ⟨t1, q, t2, t3, t4⟩ := hT
  have hpp : pA = 219 ∨ pA = 228 := hp
  exact rows_loop2 (tb := tb) (sc := sc) (nx := nx) (sc2 := sc) (nx2 := mSchs sc pl) (run := run) (run2 := true) (g := gBeg pl sc) (Amb := fun S => MigC S pA pl sc ∧ gfR S 521 0 = some pA) (loop := fun fu S i => l_X8_runPlan_33 0 pB fu S i) (K := fun S _ => some S) k5 (fun S S1 hA hI e => ⟨hA.1.fr k2.1 fun a q1 q2 => e a (by omega), by rw [(e 0 (by omega)).2.2.1]; exact hA.2⟩) (fun S i p r hI hA hc hi hp40 hrow _ ho hR => runStep_C hI hp k2 k3 hg hA hc hi k5 hp40 hrow hR) (fun fu S i hI hc hi hi2 => runEnd_C hI hc hi hi2) tb.length 100 0 S q (by omega) (by omega) hI hA t1 t2 t3 (fun j r hj => by omega) (fun j r _ hjr => t4 j r hjr)
theorem runPlan_eq {S : gS} {pA pB : Nat} (hI : Imm S) (hB : isMig pB) (h1 : gfR S 520 0 = some pA) (h2 : gfR S 521 0 = some pB) : f_X8_runPlan S 0 = l_X8_runPlan_33 0 pB 100 (g_pI (g_pI (g_pR (g_pR S 521 0 (some pA)) 520 0 (some pB)) 193 pB 0) 522 0 1) 0 := by
  have c0 : g_is S 8 0 := hI.is (by decide) (by decide)
  have mB : MigAt S pB := hI.mig hB
  unfold f_X8_runPlan
  unfold g_getR g_putR g_putI g_putZ
  rw [g_ck_t c0, h2, Option.bind_some, g_ck_t c0, h1, Option.bind_some, g_ck_t c0]
  dsimp only
  rw [q_pR_ck, g_ck_t c0, q_pR_ck, q_pR_ck, g_ck_t c0, show gfR (g_pR (g_pR S (64 * 8 + 9) 0 (some pA)) (64 * 8 + 8) 0 (some pB)) (64 * 8 + 8) 0 = some pB from by rw [q_pR_fR]; exact g_up_s, Option.bind_some, q_pR_ck, q_pR_ck, g_ck_t mB.1, q_pI_ck, q_pR_ck, q_pR_ck, g_ck_t c0, if_pos (Or.inr rfl)]
theorem runPlan_C {S : gS} {dk : mDk} {vr : Int32 × Bool} {pl : List mStep} {sc nx : List mCol} {dr : mDr} {sn : mSn} {tb : List mRow} {sA sB pA pB : Nat} (hI : Imm S) (h1 : HouseC S sA sB pA pB vr) (h2 : DiskC S dk) (h4 : SchC S sA sc) (h5 : DraftC S dr) (h6 : SeenC S sn) (h7 : TableC S tb sc nx vr.2) (hB : SchC S sB (mSchs sc pl)) (hM : MigC S pA pl sc) (k2 : plOk pl) (k3 : scOk sc) (hg : mgOk pl sc) (k5 : tb.length ≤ 40) : COv S 0 237 (f_X8_runPlan S 0) (fun S1 => RC S1 (dk, (vr.1, true), [], pl, sc, mSchs sc pl, dr, sn, tb.map (gBeg pl sc)) ∧ gfR S1 519 0 = some sB ∧ SchC S1 sB (mSchs sc pl)) := by
  have hs := h1.2.2.2.2.2.2.1
  have hp := h1.2.2.2.2.2.2.2
  rw [runPlan_eq hI (by unfold isMig; omega) h1.2.2.1 h1.2.2.2.1]
  generalize hS1 : g_pI (g_pI (g_pR (g_pR S 521 0 (some pA)) 520 0 (some pB)) 193 pB 0) 522 0 1 = S1
  have hI1 : Imm S1 := by rw [← hS1]; exact Imm.of (Imm.of (Imm.pR (Imm.pR hI (by decide)) (by decide)) rfl rfl rfl rfl rfl) rfl rfl rfl rfl rfl
  have e1 : ∀ b, b ≠ 0 → b ≠ pB → EqA S S1 b := by
    intro b q1 q2
    rw [← hS1]
    exact (((EqA.pR q1).trans (EqA.pR q1)).trans (EqA.pI q2)).trans (EqA.pI q1)
  have hH : HouseC S1 sA sB pB pA (vr.1, true) := by
    rw [← hS1]
    refine ⟨?_, ?_, ?_, ?_, ?_, ?_, hs, by omega⟩
    · simp only [q_pI_fI, q_pI_fL, q_pI_fR, q_pI_aI, q_pI_aL, q_pI_aR, q_pI_K, q_pI_ln, q_pI_n, q_pI_sl, q_pI_is, q_pI_ck, q_pL_fI, q_pL_fL, q_pL_fR, q_pL_aI, q_pL_aL, q_pL_aR, q_pL_K, q_pL_ln, q_pL_n, q_pL_sl, q_pL_is, q_pL_ck, q_pR_fI, q_pR_fL, q_pR_fR, q_pR_aI, q_pR_aL, q_pR_aR, q_pR_K, q_pR_ln, q_pR_n, q_pR_sl, q_pR_is, q_pR_ck, q_rI_fI, q_rI_fL, q_rI_fR, q_rI_aI, q_rI_aL, q_rI_aR, q_rI_K, q_rI_ln, q_rI_n, q_rI_sl, q_rI_is, q_rI_ck, q_rL_fI, q_rL_fL, q_rL_fR, q_rL_aI, q_rL_aL, q_rL_aR, q_rL_K, q_rL_ln, q_rL_n, q_rL_sl, q_rL_is, q_rL_ck, q_rR_fI, q_rR_fL, q_rR_fR, q_rR_aI, q_rR_aL, q_rR_aR, q_rR_K, q_rR_ln, q_rR_n, q_rR_sl, q_rR_is, q_rR_ck]; rw [g_up_f (by decide), g_up_f (by decide)]; exact h1.1
    · simp only [q_pI_fI, q_pI_fL, q_pI_fR, q_pI_aI, q_pI_aL, q_pI_aR, q_pI_K, q_pI_ln, q_pI_n, q_pI_sl, q_pI_is, q_pI_ck, q_pL_fI, q_pL_fL, q_pL_fR, q_pL_aI, q_pL_aL, q_pL_aR, q_pL_K, q_pL_ln, q_pL_n, q_pL_sl, q_pL_is, q_pL_ck, q_pR_fI, q_pR_fL, q_pR_fR, q_pR_aI, q_pR_aL, q_pR_aR, q_pR_K, q_pR_ln, q_pR_n, q_pR_sl, q_pR_is, q_pR_ck, q_rI_fI, q_rI_fL, q_rI_fR, q_rI_aI, q_rI_aL, q_rI_aR, q_rI_K, q_rI_ln, q_rI_n, q_rI_sl, q_rI_is, q_rI_ck, q_rL_fI, q_rL_fL, q_rL_fR, q_rL_aI, q_rL_aL, q_rL_aR, q_rL_K, q_rL_ln, q_rL_n, q_rL_sl, q_rL_is, q_rL_ck, q_rR_fI, q_rR_fL, q_rR_fR, q_rR_aI, q_rR_aL, q_rR_aR, q_rR_K, q_rR_ln, q_rR_n, q_rR_sl, q_rR_is, q_rR_ck]; rw [g_up_f (by decide), g_up_f (by decide)]; exact h1.2.1
    · simp only [q_pI_fI, q_pI_fL, q_pI_fR, q_pI_aI, q_pI_aL, q_pI_aR, q_pI_K, q_pI_ln, q_pI_n, q_pI_sl, q_pI_is, q_pI_ck, q_pL_fI, q_pL_fL, q_pL_fR, q_pL_aI, q_pL_aL, q_pL_aR, q_pL_K, q_pL_ln, q_pL_n, q_pL_sl, q_pL_is, q_pL_ck, q_pR_fI, q_pR_fL, q_pR_fR, q_pR_aI, q_pR_aL, q_pR_aR, q_pR_K, q_pR_ln, q_pR_n, q_pR_sl, q_pR_is, q_pR_ck, q_rI_fI, q_rI_fL, q_rI_fR, q_rI_aI, q_rI_aL, q_rI_aR, q_rI_K, q_rI_ln, q_rI_n, q_rI_sl, q_rI_is, q_rI_ck, q_rL_fI, q_rL_fL, q_rL_fR, q_rL_aI, q_rL_aL, q_rL_aR, q_rL_K, q_rL_ln, q_rL_n, q_rL_sl, q_rL_is, q_rL_ck, q_rR_fI, q_rR_fL, q_rR_fR, q_rR_aI, q_rR_aL, q_rR_aR, q_rR_K, q_rR_ln, q_rR_n, q_rR_sl, q_rR_is, q_rR_ck]; rw [g_up_s]
    · simp only [q_pI_fI, q_pI_fL, q_pI_fR, q_pI_aI, q_pI_aL, q_pI_aR, q_pI_K, q_pI_ln, q_pI_n, q_pI_sl, q_pI_is, q_pI_ck, q_pL_fI, q_pL_fL, q_pL_fR, q_pL_aI, q_pL_aL, q_pL_aR, q_pL_K, q_pL_ln, q_pL_n, q_pL_sl, q_pL_is, q_pL_ck, q_pR_fI, q_pR_fL, q_pR_fR, q_pR_aI, q_pR_aL, q_pR_aR, q_pR_K, q_pR_ln, q_pR_n, q_pR_sl, q_pR_is, q_pR_ck, q_rI_fI, q_rI_fL, q_rI_fR, q_rI_aI, q_rI_aL, q_rI_aR, q_rI_K, q_rI_ln, q_rI_n, q_rI_sl, q_rI_is, q_rI_ck, q_rL_fI, q_rL_fL, q_rL_fR, q_rL_aI, q_rL_aL, q_rL_aR, q_rL_K, q_rL_ln, q_rL_n, q_rL_sl, q_rL_is, q_rL_ck, q_rR_fI, q_rR_fL, q_rR_fR, q_rR_aI, q_rR_aL, q_rR_aR, q_rR_K, q_rR_ln, q_rR_n, q_rR_sl, q_rR_is, q_rR_ck]; rw [g_up_f (by decide), g_up_s]
    · simp only [q_pI_fI, q_pI_fL, q_pI_fR, q_pI_aI, q_pI_aL, q_pI_aR, q_pI_K, q_pI_ln, q_pI_n, q_pI_sl, q_pI_is, q_pI_ck, q_pL_fI, q_pL_fL, q_pL_fR, q_pL_aI, q_pL_aL, q_pL_aR, q_pL_K, q_pL_ln, q_pL_n, q_pL_sl, q_pL_is, q_pL_ck, q_pR_fI, q_pR_fL, q_pR_fR, q_pR_aI, q_pR_aL, q_pR_aR, q_pR_K, q_pR_ln, q_pR_n, q_pR_sl, q_pR_is, q_pR_ck, q_rI_fI, q_rI_fL, q_rI_fR, q_rI_aI, q_rI_aL, q_rI_aR, q_rI_K, q_rI_ln, q_rI_n, q_rI_sl, q_rI_is, q_rI_ck, q_rL_fI, q_rL_fL, q_rL_fR, q_rL_aI, q_rL_aL, q_rL_aR, q_rL_K, q_rL_ln, q_rL_n, q_rL_sl, q_rL_is, q_rL_ck, q_rR_fI, q_rR_fL, q_rR_fR, q_rR_aI, q_rR_aL, q_rR_aR, q_rR_K, q_rR_ln, q_rR_n, q_rR_sl, q_rR_is, q_rR_ck]; rw [g_up_f (by decide), g_up_f (by decide)]; exact h1.2.2.2.2.1
    · simp only [q_pI_fI, q_pI_fL, q_pI_fR, q_pI_aI, q_pI_aL, q_pI_aR, q_pI_K, q_pI_ln, q_pI_n, q_pI_sl, q_pI_is, q_pI_ck, q_pL_fI, q_pL_fL, q_pL_fR, q_pL_aI, q_pL_aL, q_pL_aR, q_pL_K, q_pL_ln, q_pL_n, q_pL_sl, q_pL_is, q_pL_ck, q_pR_fI, q_pR_fL, q_pR_fR, q_pR_aI, q_pR_aL, q_pR_aR, q_pR_K, q_pR_ln, q_pR_n, q_pR_sl, q_pR_is, q_pR_ck, q_rI_fI, q_rI_fL, q_rI_fR, q_rI_aI, q_rI_aL, q_rI_aR, q_rI_K, q_rI_ln, q_rI_n, q_rI_sl, q_rI_is, q_rI_ck, q_rL_fI, q_rL_fL, q_rL_fR, q_rL_aI, q_rL_aL, q_rL_aR, q_rL_K, q_rL_ln, q_rL_n, q_rL_sl, q_rL_is, q_rL_ck, q_rR_fI, q_rR_fL, q_rR_fR, q_rR_aI, q_rR_aL, q_rR_aR, q_rR_K, q_rR_ln, q_rR_n, q_rR_sl, q_rR_is, q_rR_ck]; rw [g_up_s]; rfl
  have hM1 : MigC S1 pA pl sc := hM.fr k2.1 fun a q1 q2 => e1 a (by omega) (by omega)
  have h7' : TableC S1 tb sc nx vr.2 := h7.fr k5 fun a q1 q2 => e1 a (by omega) (by omega)
  obtain ⟨S2, d1, d2, d3, d4⟩ := runLoop_C (pB := pB) hI1 (by unfold isMig; omega) k2 k3 hg k5 ⟨hM1, hH.2.2.2.1⟩ h7'
  have e2 : ∀ b, 204 ≤ b → b ≠ pB → EqA S S2 b := fun b q1 q2 => (e1 b (by omega) q2).trans (d3 b (by omega))
  have hB2 : SchC S2 sB (mSchs sc pl) := hB.fr fun a q1 q2 => e2 a (by omega) (by omega)
  have eF : Fr 0 237 S S2 := fun b hb => (e1 b (by omega) (by omega)).trans (d3 b (by omega))
  refine ⟨S2, d1, d2, eF, ⟨d2, sA, sB, pB, pA, hH.fr (d3 0 (by omega)), ?_, ?_, ?_, ?_, ?_, d4, fun _ => ⟨hB2, ?_⟩⟩, ?_, hB2⟩
  · exact (h2.fr (e1 1 (by omega) (by omega))).fr (d3 1 (by omega))
  · refine PlanC.fr (S := S1) ⟨?_, fun k st hk => (by cases hk)⟩ (Nat.zero_le _) fun a q1 q2 => d3 a (by omega)
    rw [← hS1]
    simp only [q_pI_fI, q_pI_fL, q_pI_fR, q_pI_aI, q_pI_aL, q_pI_aR, q_pI_K, q_pI_ln, q_pI_n, q_pI_sl, q_pI_is, q_pI_ck, q_pL_fI, q_pL_fL, q_pL_fR, q_pL_aI, q_pL_aL, q_pL_aR, q_pL_K, q_pL_ln, q_pL_n, q_pL_sl, q_pL_is, q_pL_ck, q_pR_fI, q_pR_fL, q_pR_fR, q_pR_aI, q_pR_aL, q_pR_aR, q_pR_K, q_pR_ln, q_pR_n, q_pR_sl, q_pR_is, q_pR_ck, q_rI_fI, q_rI_fL, q_rI_fR, q_rI_aI, q_rI_aL, q_rI_aR, q_rI_K, q_rI_ln, q_rI_n, q_rI_sl, q_rI_is, q_rI_ck, q_rL_fI, q_rL_fL, q_rL_fR, q_rL_aI, q_rL_aL, q_rL_aR, q_rL_K, q_rL_ln, q_rL_n, q_rL_sl, q_rL_is, q_rL_ck, q_rR_fI, q_rR_fL, q_rR_fR, q_rR_aI, q_rR_aL, q_rR_aR, q_rR_K, q_rR_ln, q_rR_n, q_rR_sl, q_rR_is, q_rR_ck]
    rw [g_up_f (by decide), g_up_s]
    rfl
  · exact h4.fr fun a q1 q2 => e2 a (by omega) (by omega)
  · exact h5.fr (e2 _ (by omega) (by omega)) (e2 _ (by omega) (by omega))
  · refine h6.fr ?_ (fun a q1 q2 => e2 a (by omega) (by omega))
    rw [(d3 0 (by omega)).1, ← hS1]
    simp only [q_pI_fI, q_pI_fL, q_pI_fR, q_pI_aI, q_pI_aL, q_pI_aR, q_pI_K, q_pI_ln, q_pI_n, q_pI_sl, q_pI_is, q_pI_ck, q_pL_fI, q_pL_fL, q_pL_fR, q_pL_aI, q_pL_aL, q_pL_aR, q_pL_K, q_pL_ln, q_pL_n, q_pL_sl, q_pL_is, q_pL_ck, q_pR_fI, q_pR_fL, q_pR_fR, q_pR_aI, q_pR_aL, q_pR_aR, q_pR_K, q_pR_ln, q_pR_n, q_pR_sl, q_pR_is, q_pR_ck, q_rI_fI, q_rI_fL, q_rI_fR, q_rI_aI, q_rI_aL, q_rI_aR, q_rI_K, q_rI_ln, q_rI_n, q_rI_sl, q_rI_is, q_rI_ck, q_rL_fI, q_rL_fL, q_rL_fR, q_rL_aI, q_rL_aL, q_rL_aR, q_rL_K, q_rL_ln, q_rL_n, q_rL_sl, q_rL_is, q_rL_ck, q_rR_fI, q_rR_fL, q_rR_fR, q_rR_aI, q_rR_aL, q_rR_aR, q_rR_K, q_rR_ln, q_rR_n, q_rR_sl, q_rR_is, q_rR_ck]
    rw [g_up_f (by decide), g_up_f (by decide)]
  · exact hM1.fr k2.1 fun a q1 q2 => d3 a (by omega)
  · rw [(d3 0 (by omega)).2.2.1]; exact hH.2.1
theorem mFw_lt : ∀ (ss : List mStep) (l : List mCol) (k : Nat), mFw ss l = some k → k < ss.length := by
  intro ss
  induction ss with
  | nil => intro l k h; cases h
  | cons st ss ih =>
    intro l k h
    unfold mFw at h
    by_cases e : mWrB st l = true
    · rw [if_pos e] at h
      cases h
      simp
    · rw [if_neg e] at h
      cases hq : mFw ss (mStepS st l) with
      | none => rw [hq] at h; cases h
      | some x =>
        rw [hq] at h
        cases h
        have := ih _ _ hq
        simp
        omega
theorem begin_C {S : gS} {m : mS} (h : RC S m) (k : mOk m) : COp S 0 237 (f_X8_begin S 0) (mBegin m).1 (fun S1 => RC S1 (mBegin m).2) := by
  obtain ⟨hI, hD⟩ := h.dk
  have c0 : g_is S 8 0 := hI.is (by decide) (by decide)
  have r0 : gfR S 512 0 = some 1 := hI.r (512, 0, 1) (by decide)
  obtain ⟨S1, a1, a2, a3, a4⟩ := startCall_C hI hD
  have g1 := h.disk k a2 a3 a4
  have kk := k.disk (mStart_ok k.dk)
  have g0 := g1
  obtain ⟨dk, vr, pl, mg, sc, nx, dr, sn, tb⟩ := m
  obtain ⟨hI1, sA, sB, pA, pB, h1, h2, h3, h4, h5, h6, h7, h8⟩ := g1
  obtain ⟨k1, k2, k3, k4, k5, k6, k7, k8⟩ := kk
  have hs := h1.2.2.2.2.2.2.1
  have hp := h1.2.2.2.2.2.2.2
  have c0' : g_is S1 8 0 := hI1.is (by decide) (by decide)
  have c1' : g_is S1 0 1 := hI1.is (by decide) (by decide)
  have c2' : g_is S1 7 2 := hI1.is (by decide) (by decide)
  have r0' : gfR S1 512 0 = some 1 := hI1.r (512, 0, 1) (by decide)
  have r1' : gfR S1 513 0 = some 2 := hI1.r (513, 0, 2) (by decide)
  have mA : MigAt S1 pA := hI1.mig (by unfold isMig; omega)
  have kl := k2.1
  have fail : ∀ c : Int32, COp S 0 237 (some (c, S1)) c (fun S1 => RC S1 (wDk (dk, vr, pl, mg, sc, nx, dr, sn, tb) (mStart dk))) := fun c => ⟨S1, rfl, hI1, a3.mono (by decide) (by decide), g0⟩
  unfold f_X8_begin mBegin
  simp only [g_getI, g_getL, g_getR, g_putI, g_putZ, g_putL, g_putR, g_ldI, g_ldL, g_ldR, g_stI, g_stZ, g_stL, g_stR, g_alen, g_ldX, g_cVI, g_cVL, g_cVR, g_cVV, g_cI, g_cL, g_cN, g_lt, g_jn, g_cpI, g_cpL, g_z, Nat.reduceMul, Nat.reduceAdd, Option.bind_some, or_true, true_or, if_true, g_ck_t c0, r0, g_ck_t (hI.is (show 1 < 265 by decide) (show K0 1 = 0 by decide)), a1, g_ck_t c0', r0', r1', g_ck_t c1', g_ck_t c2', h2.1, h1.2.2.2.2.2.1, b01, h1.1, h1.2.1, h1.2.2.1, h1.2.2.2.2.1, g_ck_t mA.1, h3.1, countSh_C h7 hI1 k5]
  show COp S 0 237 (if dk.1 = 0 then _ else _) _ _
  by_cases e1 : dk.1 = 0
  · simp only [if_pos e1]
    by_cases e2 : vr.2 = true
    · simp only [if_pos e2]
      exact fail (-2)
    · simp only [if_neg e2]
      have run : vr.2 = false := by simpa using e2
      by_cases e3 : pl.length = 0
      · simp only [if_pos e3]
        rw [if_pos (show nI pl.length = 0 by rw [e3]; rfl)]
        exact fail (-2)
      · simp only [if_neg e3]
        rw [if_neg (show ¬ nI pl.length = 0 from nI_ne0 (by omega) (by omega))]
        have hcs := cntSh_le tb
        by_cases e4 : cntSh tb = 0
        · simp only [if_pos e4]
          rw [if_pos (show nI (cntSh tb) ≤ 0 by rw [e4]; decide)]
          by_cases e5 : vr.1 = 30
          · simp only [if_pos e5]
            exact fail (-4)
          · simp only [if_neg e5]
            obtain ⟨S2, b1, b2, b3, b4, b5⟩ := firstWrong_C (S := S1) (p := pA) (s := sB) (sA := sA) hI1 (by unfold isMig; omega) (by unfold isSch; omega) (by unfold isSch; omega) (by omega) k2 h3 k3 h4
            rw [b1, Option.bind_some]
            dsimp only
            have eF : Fr 213 237 S1 S2 := fun b hb => b3 b (by omega) (by omega)
            have hH2 : HouseC S2 sA sB pA pB vr := h1.fr (eF 0 (by omega))
            have hD2 : DiskC S2 (mStart dk) := h2.fr (eF 1 (by omega))
            have hs2 : SchC S2 sA sc := h4.fr fun a q1 q2 => b3 a (by omega) (by omega)
            have hd2 : DraftC S2 dr := h5.fr (eF _ (by omega)) (eF _ (by omega))
            have hn2 : SeenC S2 sn := h6.fr ((eF 0 (by omega)).1 _) (fun a q1 q2 => eF a (by omega))
            have ht2 : TableC S2 tb sc nx vr.2 := h7.fr k5 fun a q1 q2 => eF a (by omega)
            have g2 : RC S2 (mStart dk, vr, pl, mg, sc, nx, dr, sn, tb) := ⟨b2, sA, sB, pA, pB, hH2, hD2, b4, hs2, hd2, hn2, ht2, fun q => absurd q e2⟩
            have k2' : mOk (mStart dk, vr, pl, mg, sc, nx, dr, sn, tb) := ⟨k1, k2, k3, k4, k5, k6, k7, k8⟩
            have F2 : Fr 0 237 S S2 := (a3.mono (by decide) (by decide)).trans (eF.mono (by decide) (by decide))
            cases hq : mFw pl sc with
            | some x =>
              have hx0 := mFw_lt _ _ _ hq
              have hx : x < 2 ^ 31 := by omega
              rw [show ixO (some x) = nI x from rfl, if_neg (nI_pos hx)]
              exact ⟨S2, rfl, b2, F2, g2⟩
            | none =>
              rw [show ixO none = (-1 : Int32) from rfl, if_pos (show (-1 : Int32) < 0 by decide), g_ck_t (b2.is (show 0 < 265 by decide) (show K0 0 = 8 by decide)), b2.r (512, 0, 1) (by decide), Option.bind_some, g_ck_t (b2.is (show 1 < 265 by decide) (show K0 1 = 0 by decide))]
              obtain ⟨S3, d1, d2, d3, d4⟩ := act_C b2 hD2
              rw [d1, Option.bind_some]
              dsimp only
              have F3 : Fr 0 237 S S3 := F2.trans (d3.mono (by decide) (by decide))
              by_cases e6 : (mAct (mStart dk)).1 = true
              · simp only [if_pos e6]
                rw [e6, show b32 true = 1 from rfl, if_neg (show ¬ (1 : Int32) = 0 by decide), g_ck_t (d2.is (show 0 < 265 by decide) (show K0 0 = 8 by decide))]
                obtain ⟨v1, v2⟩ := b5 hq
                obtain ⟨S4, w1, w2, w3, w4, w5, w6⟩ := runPlan_C (S := S3) (dk := (mAct (mStart dk)).2) (vr := vr) (pl := pl) (sc := sc) (nx := nx) (dr := dr) (sn := sn) (tb := tb) d2 (hH2.fr (d3 0 (by omega))) d4 (hs2.fr fun a q1 q2 => d3 a (by omega)) (hd2.fr (d3 _ (by omega)) (d3 _ (by omega))) (hn2.fr ((d3 0 (by omega)).1 _) (fun a q1 q2 => d3 a (by omega))) (ht2.fr k5 fun a q1 q2 => d3 a (by omega)) (v1.fr fun a q1 q2 => d3 a (by omega)) (v2.fr k2.1 fun a q1 q2 => d3 a (by omega)) k2 k3 (mFw_none _ _ hq) k5
                rw [w1, Option.bind_some, g_ck_t (w2.is (show 0 < 265 by decide) (show K0 0 = 8 by decide)), w5, Option.bind_some, g_ck_t (w2.sch (s := sB) (by unfold isSch; omega)).1, w6.1]
                exact ⟨S4, rfl, w2, F3.trans w3, w4⟩
              · have e7 : (mAct (mStart dk)).1 = false := by simpa using e6
                simp only [if_neg e6]
                rw [e7, show b32 false = 0 from rfl, if_pos rfl]
                exact ⟨S3, rfl, d2, F3, g2.disk k2' d2 d3 d4⟩
        · simp only [if_neg e4]
          rw [if_neg (show ¬ nI (cntSh tb) ≤ 0 from nI_nle (by omega) (by omega))]
          exact fail (-2)
  · simp only [if_neg e1]
    exact fail (-8)
