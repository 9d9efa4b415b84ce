/-! ===== write of the reference ===== -/
def fEndR (S21 : gS) (v19 x17 w14 w8 : Int32) : Option (Int32 × gS) :=
g_getI S21 9 15 237 fun x23 =>
g_jn (fun (S24 : gS) => (
if x17 = w14 then (
if w8 = 0 then (
some ((0 : Int32), S24))
else (
some ((1 : Int32), S24)))
else (
g_putZ S24 9 33 237 (1 : Int32) fun S26 =>
some ((-9 : Int32), S26)))) fun jb25 => (
if x23 = 0 then (
g_getR S21 9 7 237 fun a27 =>
g_ldI S21 10 a27 v19 fun x28 =>
if x28 = (1 : Int32) then (
g_getR S21 9 7 237 fun a29 =>
g_stI S21 a29 v19 (0 : Int32) fun S30 =>
jb25 S30)
else (
jb25 S21))
else (
g_getR S21 9 8 237 fun a31 =>
g_stZ S21 a31 v19 (0 : Int32) fun S32 =>
g_getR S32 9 9 237 fun a33 =>
g_stZ S32 a33 v19 (0 : Int32) fun S34 =>
jb25 S34))
def fFilR (S18 : gS) (v19 p2 w8 : Int32) (K : gS → Option (Int32 × gS)) : Option (Int32 × gS) :=
if p2 = 0 then (
g_cVI S18 9 237 (f_X9_form S18 237 v19 (0 : Int32)) fun x36 S35 =>
g_cVV S35 9 237 (f_X9_drafted S35 237 x36 (0 : Int32)) fun S37 =>
g_getI S37 9 15 237 fun x38 =>
if x38 = 0 then (
K S37)
else (
g_cVI S37 9 237 (f_X9_form S37 237 v19 (0 : Int32)) fun x40 S39 =>
g_cVI S39 9 237 (f_X9_form S39 237 v19 (1 : Int32)) fun x42 S41 =>
g_cVV S41 9 237 (f_X9_up S41 237 x40 x42) fun S43 =>
K S43))
else (
g_cVI S18 9 237 (f_X9_form S18 237 v19 (1 : Int32)) fun x45 S44 =>
g_cVV S44 9 237 (f_X9_drafted S44 237 x45 (1 : Int32)) fun S46 =>
g_cVI S46 9 237 (f_X9_form S46 237 v19 (1 : Int32)) fun x48 S47 =>
g_jn (fun (S49 : gS) (w50 : Int32) (w51 : Int32) (w52 : Nat) => (
g_cVI S49 9 237 (f_X9_form S49 237 v19 (0 : Int32)) fun x55 S54 =>
g_cVV S54 9 w52 (f_X9_down S54 w52 w51 w50 x55) fun S56 =>
K S56)) fun jb53 => (
if w8 = 0 then (
jb53 S47 (-1 : Int32) x48 237)
else (
g_cVI S47 9 237 (f_X9_form S47 237 v19 (0 : Int32)) fun x58 S57 =>
jb53 S57 x58 x48 237)))
def fActR (S10 : gS) (p1 p2 w8 x6 w14 : Int32) : Option (Int32 × gS) :=
g_cVI S10 9 237 (f_X9_acts S10 237 w14) fun x17 S16 =>
if x17 = 0 then (
some ((-9 : Int32), S16))
else (
if w8 = 0 then (
g_cVI S16 9 237 (f_X9_insert S16 237 p1) fun x60 S59 =>
fFilR S59 x60 p2 w8 (fun S21 => fEndR S21 x60 x17 w14 w8))
else (
fFilR S16 x6 p2 w8 (fun S21 => fEndR S21 x6 x17 w14 w8)))
theorem rwrite_eq (S : gS) (p1 p2 : Int32) : f_X9_write S 237 p1 p2 = g_putI S 9 30 237 (0 : Int32) fun S1 => g_getI S1 9 32 237 fun x2 => if x2 = 0 then (g_jn (fun (S3 : gS) => (g_cVI S3 9 237 (f_X9_find S3 237 p1) fun x6 S5 => g_jn (fun (S7 : gS) (w8 : Int32) => (g_jn (fun (S10 : gS) => (g_getI S10 9 15 237 fun x12 => if x12 = 0 then fActR S10 p1 p2 w8 x6 (1 : Int32) else fActR S10 p1 p2 w8 x6 (4 : Int32))) fun jb11 => (if w8 = 0 then (g_getI S7 9 6 237 fun x61 => if x61 = (40 : Int32) then some ((-4 : Int32), S7) else jb11 S7) else jb11 S7))) fun jb9 => (if x6 < 0 then jb9 S5 (0 : Int32) else jb9 S5 (1 : Int32)))) fun jb4 => (if p2 = 0 then jb4 S1 else (g_getI S1 9 15 237 fun x62 => if x62 = 0 then some ((-2 : Int32), S1) else jb4 S1))) else some ((-8 : Int32), S1) := rfl
abbrev WA : List Nat := [238, 239, 240, 241, 248, 249, 250, 261, 262, 263, 264]
theorem fil_R {S : gS} {i s : Nat} {run : Bool} {mg : List mStep} {sc nx : List mCol} {dr : mDr} {p2 w8 : Int32} {old fr0 : List mV} {K : gS → Option (Int32 × gS)} (hI : Imm S) (hi : i < 40) (hs : s < 40) (hsi : gaI S 243 i = nI s) (h0 : SchR S 0 sc) (hD : DraftR S dr) (hd : drOk dr) (hrun : gfI S 591 237 = (if run = true then 1 else 0)) (h8 : run = true → SchR S 1 nx ∧ gfI S 598 237 = nI mg.length ∧ PlanR S 6 mg) (k3 : scOk sc) (k4 : run = true → plOk mg ∧ scOk nx ∧ mgOk mg sc ∧ nx = mSchs sc mg) (hp2 : ¬ p2 = 0 → run = true) (hold : (¬ w8 = 0 ∧ FormR S (16 * s) (tys sc) old) ∨ (w8 = 0 ∧ old = List.replicate sc.length (0, []))) : ∃ S1, fFilR S (nI i) p2 w8 K = K S1 ∧ RE WA [] S S1 ∧ (∀ k, (k < 16 * s ∨ 16 * s + 16 ≤ k) → SlotEq S S1 k) ∧ (∀ j l', j < 2 → l'.length ≤ 8 → SchR S j l' → SchR S1 j l') ∧ FormR S1 (16 * s) (tys sc) (if decide (¬ p2 = 0) = true then (mDown mg sc (mDfs dr (tys nx)) old, mDfs dr (tys nx)) else (mDfs dr (tys sc), if run = true then mUp mg sc (mDfs dr (tys sc)) else fr0)).1 ∧ (run = true → FormR S1 (16 * s + 8) (tys nx) (if decide (¬ p2 = 0) = true then (mDown mg sc (mDfs dr (tys nx)) old, mDfs dr (tys nx)) else (mDfs dr (tys sc), if run = true then mUp mg sc (mDfs dr (tys sc)) else fr0)).2) := by
  have hR := hI.ref
  have k38 := k3.1
  have fm : ∀ S2, Imm S2 → gaI S2 243 i = nI s → (∀ G : Int32 → gS → Option (Int32 × gS), g_cVI S2 9 237 (f_X9_form S2 237 (nI i) (0 : Int32)) G = G (nI (16 * s)) S2) ∧ ∀ G : Int32 → gS → Option (Int32 × gS), g_cVI S2 9 237 (f_X9_form S2 237 (nI i) (1 : Int32)) G = G (nI (16 * s + 8)) S2 := by
    intro S2 hI2 h2
    refine ⟨fun G => ?_, fun G => ?_⟩
    · unfold g_cVI
      rw [ck9 hI2.ref, show (0 : Int32) = nI 0 from rfl, form_R hI2 hi h2, Option.bind_some]
      rfl
    · unfold g_cVI
      rw [ck9 hI2.ref, show (1 : Int32) = nI 1 from rfl, form_R hI2 hi h2, Option.bind_some]
  unfold fFilR
  by_cases e : p2 = 0
  · rw [if_pos e, decide_eq_false (fun z => z e), (fm S hI hsi).1]
    obtain ⟨S1, a1, a2, a3, a4⟩ := drafted_R (S := S) (b := 16 * s) (s := 0) (l := sc) (dr := dr) hI k3 (by decide) hd (by omega) h0 hD
    have hI1 := a2.imm hI
    have hR1 := hI1.ref
    have si1 : gaI S1 243 i = nI s := by rw [a2.aI (by decide)]; exact hsi
    rw [show ∀ G : gS → Option (Int32 × gS), g_cVV S 9 237 (f_X9_drafted S 237 (nI (16 * s)) (0 : Int32)) G = G S1 from fun G => by unfold g_cVV; rw [ck9 hR, show (0 : Int32) = nI 0 from rfl, a1, Option.bind_some]]
    have run1 : gfI S1 591 237 = (if run = true then 1 else 0) := (a2.fI (by decide)).trans hrun
    simp only [g_getI, Nat.reduceMul, Nat.reduceAdd, ck9 hR1, run1, b01]
    by_cases r : run = true
    · obtain ⟨kg1, kg2, kg3, kg4⟩ := k4 r
      obtain ⟨u1, u2, u3⟩ := h8 r
      rw [if_pos r, (fm S1 hI1 si1).1, (fm S1 hI1 si1).2]
      obtain ⟨S2, b1, b2, b3, b4, b5⟩ := up_R (S := S1) (a := 16 * s) (b := 16 * s + 8) (mg := mg) (sc := sc) (vs := mDfs dr (tys sc)) hI1 (by omega) (by omega) (by omega) (u3.e a2 (by decide)) ((a2.fI (by decide)).trans u2) kg1 (h0.e a2 (by decide)) k3 kg3 a4
      unfold g_cVV
      rw [ck9 hR1, b1, Option.bind_some, if_pos r]
      rw [← kg4] at b4
      exact ⟨S2, rfl, (a2.mono (by decide) (by decide)).trans (b2.mono (by decide) (by decide)), fun k hk => (a3 k (by omega)).trans (b3 k (by omega)), fun j l' hj hl' h' => b5 j l' hj hl' (h'.e a2 (by decide)), a4.slots fun k q1 q2 => b3 k (by rw [tys_len] at q2; omega), fun _ => b4⟩
    · rw [if_neg r, if_neg r]
      exact ⟨S1, rfl, a2.mono (by decide) (by decide), fun k hk => a3 k (by omega), fun j l' hj hl' h' => h'.e a2 (by decide), a4, fun q => absurd q r⟩
  · have r := hp2 e
    obtain ⟨kg1, kg2, kg3, kg4⟩ := k4 r
    obtain ⟨u1, u2, u3⟩ := h8 r
    rw [if_neg e, decide_eq_true e, if_pos rfl, (fm S hI hsi).2]
    obtain ⟨S1, a1, a2, a3, a4⟩ := drafted_R (S := S) (b := 16 * s + 8) (s := 1) (l := nx) (dr := dr) hI kg2 (by decide) hd (by omega) u1 hD
    have hI1 := a2.imm hI
    have hR1 := hI1.ref
    have si1 : gaI S1 243 i = nI s := by rw [a2.aI (by decide)]; exact hsi
    rw [show ∀ G : gS → Option (Int32 × gS), g_cVV S 9 237 (f_X9_drafted S 237 (nI (16 * s + 8)) (1 : Int32)) G = G S1 from fun G => by unfold g_cVV; rw [ck9 hR, show (1 : Int32) = nI 1 from rfl, a1, Option.bind_some]]
    rw [(fm S1 hI1 si1).2]
    simp only [g_jn]
    have go : ∀ u2' : Int32, ((u2' = nI (16 * s) ∧ FormR S1 (16 * s) (tys sc) old) ∨ (u2' = -1 ∧ old = List.replicate sc.length (0, []))) → ∃ S2, (g_cVI S1 9 237 (f_X9_form S1 237 (nI i) (0 : Int32)) fun x55 S54 => g_cVV S54 9 237 (f_X9_down S54 237 (nI (16 * s + 8)) u2' x55) fun S56 => K S56) = K S2 ∧ RE WA [] S S2 ∧ (∀ k, (k < 16 * s ∨ 16 * s + 16 ≤ k) → SlotEq S S2 k) ∧ (∀ j l', j < 2 → l'.length ≤ 8 → SchR S j l' → SchR S2 j l') ∧ FormR S2 (16 * s) (tys sc) (mDown mg sc (mDfs dr (tys nx)) old) ∧ (run = true → FormR S2 (16 * s + 8) (tys nx) (mDfs dr (tys nx))) := by
      intro u2' hu
      rw [(fm S1 hI1 si1).1]
      obtain ⟨S2, b1, b2, b3, b4, b5⟩ := down_R (S := S1) (a := 16 * s) (b := 16 * s + 8) (u2 := u2') (mg := mg) (sc := sc) (nx := nx) (vs := mDfs dr (tys nx)) (old := old) hI1 (by omega) (by omega) (by omega) (u3.e a2 (by decide)) ((a2.fI (by decide)).trans u2) kg1 (h0.e a2 (by decide)) k3 kg3 kg4 (u1.e a2 (by decide)) kg2 a4 hu
      unfold g_cVV
      rw [ck9 hR1, b1, Option.bind_some]
      exact ⟨S2, rfl, (a2.mono (by decide) (by decide)).trans (b2.mono (by decide) (by decide)), fun k hk => (a3 k (by omega)).trans (b3 k (by omega)), fun j l' hj hl' h' => b5 j l' hj hl' (h'.e a2 (by decide)), b4, fun _ => a4.slots fun k q1 q2 => b3 k (by omega)⟩
    rcases hold with ⟨w, hf⟩ | ⟨w, hf⟩
    · rw [if_neg w, (fm S1 hI1 si1).1]
      exact go _ (Or.inl ⟨rfl, hf.slots fun k q1 q2 => a3 k (by rw [tys_len] at q2; omega)⟩)
    · rw [if_pos w]
      exact go _ (Or.inr ⟨rfl, hf⟩)
/-- the row's marks, and the answer -/
theorem end_R {S S' : gS} {i s : Nat} {run : Bool} {sc nx : List mCol} {k0 s0 : Int32} {V1 V2 : List mV} {x17 w14 w8 : Int32} (hI : Imm S') (hi : i < 40) (hs : s < 40) (hB : BO S') (h242 : gaI S' 242 i = k0) (hsi : gaI S' 243 i = nI s) (hu : gaI S' 247 s = 1) (hrun : gfI S' 591 237 = (if run = true then 1 else 0)) (h244 : if run = true then gaI S' 244 i = 0 else gaI S' 244 i = s0) (hs0 : run = true → s0 = 0 ∨ s0 = 1) (F1 : FormR S' (16 * s) (tys sc) V1) (F2 : run = true → FormR S' (16 * s + 8) (tys nx) V2) : ∃ S1, fEndR S' (nI i) x17 w14 w8 = (if x17 = w14 then some ((if w8 = 0 then 0 else 1), S1) else some (-9, g_pI S1 609 237 1)) ∧ RE [244, 245, 246] [] S' S1 ∧ (∀ x ∈ [244, 245, 246], ∀ j, j ≠ i → gaI S1 x j = gaI S' x j) ∧ BO S1 ∧ RowR S1 i (k0, if s0 = 1 then 0 else s0, 0, V1, V2) sc nx run := by
  have hR := hI.ref
  have key : ∀ S1, Imm S1 → (if x17 = w14 then (if w8 = 0 then some ((0 : Int32), S1) else some ((1 : Int32), S1)) else (g_putZ S1 9 33 237 (1 : Int32) fun S26 => some ((-9 : Int32), S26))) = (if x17 = w14 then some ((if w8 = 0 then 0 else 1), S1) else some (-9, g_pI S1 609 237 1)) := by
    intro S1 hI1
    by_cases c : x17 = w14
    · rw [if_pos c, if_pos c]
      by_cases d : w8 = 0
      · rw [if_pos d, if_pos d]
      · rw [if_neg d, if_neg d]
    · rw [if_neg c, if_neg c]
      simp only [g_getI, g_getL, g_getR, g_putI, g_putZ, g_putL, g_putR, g_ldI, g_ldL, g_ldR, g_stI, g_stZ, g_stL, g_stR, g_alen, g_ldX, g_cVI, g_cVL, g_cVR, g_cVV, g_cI, g_cL, g_cN, g_lt, g_jn, g_cpI, g_cpL, g_z, Nat.reduceMul, Nat.reduceAdd, Option.bind_some, or_true, true_or, if_true, ck9 hI1.ref]
  unfold fEndR
  simp only [g_jn, g_getI, Nat.reduceMul, Nat.reduceAdd, ck9 hR, hrun, b01]
  have rowf : ∀ S1, RE [244, 245, 246] [] S' S1 → (if run = true then gaI S1 245 i = (if s0 = 1 then 0 else s0) ∧ gaI S1 246 i = 0 ∧ gaI S1 244 i = 0 else gaI S1 244 i = (if s0 = 1 then 0 else s0)) → RowR S1 i (k0, if s0 = 1 then 0 else s0, 0, V1, V2) sc nx run := by
    intro S1 e h
    have sl : ∀ k, SlotEq S' S1 k := fun k => e.slot (by decide) (by decide) (by decide)
    refine ⟨by rw [e.aI (by decide)]; exact h242, ⟨s, hs, by rw [e.aI (by decide)]; exact hsi, by rw [e.aI (by decide)]; exact hu, F1.slots fun k _ _ => sl k, fun r => (F2 r).slots fun k _ _ => sl k⟩, h⟩
  by_cases r : run = true
  · rw [if_pos r] at h244
    simp only [if_pos r]
    have e : RE [244, 245, 246] [] S' (g_rI (g_rI S' 245 (upd (gaI S' 245) i 0)) 246 (upd (gaI S' 246) i 0)) := (RE.rI (by decide)).trans (RE.rI (by decide))
    refine ⟨g_rI (g_rI S' 245 (upd (gaI S' 245) i 0)) 246 (upd (gaI S' 246) i 0), ?_, e, ?_, ?_, rowf _ e ?_⟩
    · simp only [g_getR, g_stZ, q_pI_fI, q_pI_fL, q_pI_fR, q_pI_aI, q_pI_aL, q_pI_aR, q_pI_K, q_pI_ln, q_pI_n, q_pI_sl, q_pI_is, q_pI_ck, q_pL_fI, q_pL_fL, q_pL_fR, q_pL_aI, q_pL_aL, q_pL_aR, q_pL_K, q_pL_ln, q_pL_n, q_pL_sl, q_pL_is, q_pL_ck, q_pR_fI, q_pR_fL, q_pR_fR, q_pR_aI, q_pR_aL, q_pR_aR, q_pR_K, q_pR_ln, q_pR_n, q_pR_sl, q_pR_is, q_pR_ck, q_rI_fI, q_rI_fL, q_rI_fR, q_rI_aI, q_rI_aL, q_rI_aR, q_rI_K, q_rI_ln, q_rI_n, q_rI_sl, q_rI_is, q_rI_ck, q_rL_fI, q_rL_fL, q_rL_fR, q_rL_aI, q_rL_aL, q_rL_aR, q_rL_K, q_rL_ln, q_rL_n, q_rL_sl, q_rL_is, q_rL_ck, q_rR_fI, q_rR_fL, q_rR_fR, q_rR_aI, q_rR_aL, q_rR_aR, q_rR_K, q_rR_ln, q_rR_n, q_rR_sl, q_rR_is, q_rR_ck, Nat.reduceMul, Nat.reduceAdd, Option.bind_some, ck9 hR, rf_lags hR, g_ck_t (ri_lags hR), rl_lags hR, rf_wasBehind hR, g_ck_t (ri_wasBehind hR), rl_wasBehind hR, or_true, true_or, if_true, g_row, Nat.reduceEqDiff, reduceIte]
      rw [g_ix_t (by omega) (by decide), nI_clamp (by omega), g_ix_t (by omega) (by decide)]
      exact key _ (e.imm hI)
    · intro x hx j hj
      have : x = 244 ∨ x = 245 ∨ x = 246 := by simpa using hx
      rcases this with rfl | rfl | rfl
      · simp only [q_pI_fI, q_pI_fL, q_pI_fR, q_pI_aI, q_pI_aL, q_pI_aR, q_pI_K, q_pI_ln, q_pI_n, q_pI_sl, q_pI_is, q_pI_ck, q_pL_fI, q_pL_fL, q_pL_fR, q_pL_aI, q_pL_aL, q_pL_aR, q_pL_K, q_pL_ln, q_pL_n, q_pL_sl, q_pL_is, q_pL_ck, q_pR_fI, q_pR_fL, q_pR_fR, q_pR_aI, q_pR_aL, q_pR_aR, q_pR_K, q_pR_ln, q_pR_n, q_pR_sl, q_pR_is, q_pR_ck, q_rI_fI, q_rI_fL, q_rI_fR, q_rI_aI, q_rI_aL, q_rI_aR, q_rI_K, q_rI_ln, q_rI_n, q_rI_sl, q_rI_is, q_rI_ck, q_rL_fI, q_rL_fL, q_rL_fR, q_rL_aI, q_rL_aL, q_rL_aR, q_rL_K, q_rL_ln, q_rL_n, q_rL_sl, q_rL_is, q_rL_ck, q_rR_fI, q_rR_fL, q_rR_fR, q_rR_aI, q_rR_aL, q_rR_aR, q_rR_K, q_rR_ln, q_rR_n, q_rR_sl, q_rR_is, q_rR_ck, g_row, Nat.reduceEqDiff, reduceIte]
      · simp only [q_pI_fI, q_pI_fL, q_pI_fR, q_pI_aI, q_pI_aL, q_pI_aR, q_pI_K, q_pI_ln, q_pI_n, q_pI_sl, q_pI_is, q_pI_ck, q_pL_fI, q_pL_fL, q_pL_fR, q_pL_aI, q_pL_aL, q_pL_aR, q_pL_K, q_pL_ln, q_pL_n, q_pL_sl, q_pL_is, q_pL_ck, q_pR_fI, q_pR_fL, q_pR_fR, q_pR_aI, q_pR_aL, q_pR_aR, q_pR_K, q_pR_ln, q_pR_n, q_pR_sl, q_pR_is, q_pR_ck, q_rI_fI, q_rI_fL, q_rI_fR, q_rI_aI, q_rI_aL, q_rI_aR, q_rI_K, q_rI_ln, q_rI_n, q_rI_sl, q_rI_is, q_rI_ck, q_rL_fI, q_rL_fL, q_rL_fR, q_rL_aI, q_rL_aL, q_rL_aR, q_rL_K, q_rL_ln, q_rL_n, q_rL_sl, q_rL_is, q_rL_ck, q_rR_fI, q_rR_fL, q_rR_fR, q_rR_aI, q_rR_aL, q_rR_aR, q_rR_K, q_rR_ln, q_rR_n, q_rR_sl, q_rR_is, q_rR_ck, g_row, Nat.reduceEqDiff, reduceIte]; rw [pk_un hj]
      · simp only [q_pI_fI, q_pI_fL, q_pI_fR, q_pI_aI, q_pI_aL, q_pI_aR, q_pI_K, q_pI_ln, q_pI_n, q_pI_sl, q_pI_is, q_pI_ck, q_pL_fI, q_pL_fL, q_pL_fR, q_pL_aI, q_pL_aL, q_pL_aR, q_pL_K, q_pL_ln, q_pL_n, q_pL_sl, q_pL_is, q_pL_ck, q_pR_fI, q_pR_fL, q_pR_fR, q_pR_aI, q_pR_aL, q_pR_aR, q_pR_K, q_pR_ln, q_pR_n, q_pR_sl, q_pR_is, q_pR_ck, q_rI_fI, q_rI_fL, q_rI_fR, q_rI_aI, q_rI_aL, q_rI_aR, q_rI_K, q_rI_ln, q_rI_n, q_rI_sl, q_rI_is, q_rI_ck, q_rL_fI, q_rL_fL, q_rL_fR, q_rL_aI, q_rL_aL, q_rL_aR, q_rL_K, q_rL_ln, q_rL_n, q_rL_sl, q_rL_is, q_rL_ck, q_rR_fI, q_rR_fL, q_rR_fR, q_rR_aI, q_rR_aL, q_rR_aR, q_rR_K, q_rR_ln, q_rR_n, q_rR_sl, q_rR_is, q_rR_ck, g_row, Nat.reduceEqDiff, reduceIte]; rw [pk_un hj]
    · intro j
      simp only [q_pI_fI, q_pI_fL, q_pI_fR, q_pI_aI, q_pI_aL, q_pI_aR, q_pI_K, q_pI_ln, q_pI_n, q_pI_sl, q_pI_is, q_pI_ck, q_pL_fI, q_pL_fL, q_pL_fR, q_pL_aI, q_pL_aL, q_pL_aR, q_pL_K, q_pL_ln, q_pL_n, q_pL_sl, q_pL_is, q_pL_ck, q_pR_fI, q_pR_fL, q_pR_fR, q_pR_aI, q_pR_aL, q_pR_aR, q_pR_K, q_pR_ln, q_pR_n, q_pR_sl, q_pR_is, q_pR_ck, q_rI_fI, q_rI_fL, q_rI_fR, q_rI_aI, q_rI_aL, q_rI_aR, q_rI_K, q_rI_ln, q_rI_n, q_rI_sl, q_rI_is, q_rI_ck, q_rL_fI, q_rL_fL, q_rL_fR, q_rL_aI, q_rL_aL, q_rL_aR, q_rL_K, q_rL_ln, q_rL_n, q_rL_sl, q_rL_is, q_rL_ck, q_rR_fI, q_rR_fL, q_rR_fR, q_rR_aI, q_rR_aL, q_rR_aR, q_rR_K, q_rR_ln, q_rR_n, q_rR_sl, q_rR_is, q_rR_ck, g_row, Nat.reduceEqDiff, reduceIte]
      by_cases q : j = i
      · rw [q, pk_us, pk_us]; exact ⟨Or.inl rfl, Or.inl rfl⟩
      · rw [pk_un q, pk_un q]; exact hB j
    · rw [if_pos r]
      simp only [q_pI_fI, q_pI_fL, q_pI_fR, q_pI_aI, q_pI_aL, q_pI_aR, q_pI_K, q_pI_ln, q_pI_n, q_pI_sl, q_pI_is, q_pI_ck, q_pL_fI, q_pL_fL, q_pL_fR, q_pL_aI, q_pL_aL, q_pL_aR, q_pL_K, q_pL_ln, q_pL_n, q_pL_sl, q_pL_is, q_pL_ck, q_pR_fI, q_pR_fL, q_pR_fR, q_pR_aI, q_pR_aL, q_pR_aR, q_pR_K, q_pR_ln, q_pR_n, q_pR_sl, q_pR_is, q_pR_ck, q_rI_fI, q_rI_fL, q_rI_fR, q_rI_aI, q_rI_aL, q_rI_aR, q_rI_K, q_rI_ln, q_rI_n, q_rI_sl, q_rI_is, q_rI_ck, q_rL_fI, q_rL_fL, q_rL_fR, q_rL_aI, q_rL_aL, q_rL_aR, q_rL_K, q_rL_ln, q_rL_n, q_rL_sl, q_rL_is, q_rL_ck, q_rR_fI, q_rR_fL, q_rR_fR, q_rR_aI, q_rR_aL, q_rR_aR, q_rR_K, q_rR_ln, q_rR_n, q_rR_sl, q_rR_is, q_rR_ck, g_row, Nat.reduceEqDiff, reduceIte]
      rw [pk_us, pk_us]
      refine ⟨?_, rfl, h244⟩
      rcases hs0 r with q | q
      · rw [q]; rfl
      · rw [q]; rfl
  · rw [if_neg r] at h244
    simp only [if_neg r]
    simp only [g_getR, g_ldI, g_stI, Nat.reduceMul, Nat.reduceAdd, Option.bind_some, ck9 hR, rf_sorts hR, g_ck_t (ri_sorts hR), rl_sorts hR]
    rw [g_ix_t (by omega) (by decide), nI_clamp (by omega), h244]
    by_cases c : s0 = 1
    · have e : RE [244, 245, 246] [] S' (g_rI S' 244 (upd (gaI S' 244) i 0)) := RE.rI (by decide)
      refine ⟨g_rI S' 244 (upd (gaI S' 244) i 0), ?_, e, ?_, ?_, rowf _ e ?_⟩
      · rw [if_pos c, g_ix_t (by omega) (by decide)]
        exact key _ (e.imm hI)
      · intro x hx j hj
        have : x = 244 ∨ x = 245 ∨ x = 246 := by simpa using hx
        rcases this with rfl | rfl | rfl
        · simp only [q_pI_fI, q_pI_fL, q_pI_fR, q_pI_aI, q_pI_aL, q_pI_aR, q_pI_K, q_pI_ln, q_pI_n, q_pI_sl, q_pI_is, q_pI_ck, q_pL_fI, q_pL_fL, q_pL_fR, q_pL_aI, q_pL_aL, q_pL_aR, q_pL_K, q_pL_ln, q_pL_n, q_pL_sl, q_pL_is, q_pL_ck, q_pR_fI, q_pR_fL, q_pR_fR, q_pR_aI, q_pR_aL, q_pR_aR, q_pR_K, q_pR_ln, q_pR_n, q_pR_sl, q_pR_is, q_pR_ck, q_rI_fI, q_rI_fL, q_rI_fR, q_rI_aI, q_rI_aL, q_rI_aR, q_rI_K, q_rI_ln, q_rI_n, q_rI_sl, q_rI_is, q_rI_ck, q_rL_fI, q_rL_fL, q_rL_fR, q_rL_aI, q_rL_aL, q_rL_aR, q_rL_K, q_rL_ln, q_rL_n, q_rL_sl, q_rL_is, q_rL_ck, q_rR_fI, q_rR_fL, q_rR_fR, q_rR_aI, q_rR_aL, q_rR_aR, q_rR_K, q_rR_ln, q_rR_n, q_rR_sl, q_rR_is, q_rR_ck, g_row, Nat.reduceEqDiff, reduceIte]; rw [pk_un hj]
        · simp only [q_pI_fI, q_pI_fL, q_pI_fR, q_pI_aI, q_pI_aL, q_pI_aR, q_pI_K, q_pI_ln, q_pI_n, q_pI_sl, q_pI_is, q_pI_ck, q_pL_fI, q_pL_fL, q_pL_fR, q_pL_aI, q_pL_aL, q_pL_aR, q_pL_K, q_pL_ln, q_pL_n, q_pL_sl, q_pL_is, q_pL_ck, q_pR_fI, q_pR_fL, q_pR_fR, q_pR_aI, q_pR_aL, q_pR_aR, q_pR_K, q_pR_ln, q_pR_n, q_pR_sl, q_pR_is, q_pR_ck, q_rI_fI, q_rI_fL, q_rI_fR, q_rI_aI, q_rI_aL, q_rI_aR, q_rI_K, q_rI_ln, q_rI_n, q_rI_sl, q_rI_is, q_rI_ck, q_rL_fI, q_rL_fL, q_rL_fR, q_rL_aI, q_rL_aL, q_rL_aR, q_rL_K, q_rL_ln, q_rL_n, q_rL_sl, q_rL_is, q_rL_ck, q_rR_fI, q_rR_fL, q_rR_fR, q_rR_aI, q_rR_aL, q_rR_aR, q_rR_K, q_rR_ln, q_rR_n, q_rR_sl, q_rR_is, q_rR_ck, g_row, Nat.reduceEqDiff, reduceIte]
        · simp only [q_pI_fI, q_pI_fL, q_pI_fR, q_pI_aI, q_pI_aL, q_pI_aR, q_pI_K, q_pI_ln, q_pI_n, q_pI_sl, q_pI_is, q_pI_ck, q_pL_fI, q_pL_fL, q_pL_fR, q_pL_aI, q_pL_aL, q_pL_aR, q_pL_K, q_pL_ln, q_pL_n, q_pL_sl, q_pL_is, q_pL_ck, q_pR_fI, q_pR_fL, q_pR_fR, q_pR_aI, q_pR_aL, q_pR_aR, q_pR_K, q_pR_ln, q_pR_n, q_pR_sl, q_pR_is, q_pR_ck, q_rI_fI, q_rI_fL, q_rI_fR, q_rI_aI, q_rI_aL, q_rI_aR, q_rI_K, q_rI_ln, q_rI_n, q_rI_sl, q_rI_is, q_rI_ck, q_rL_fI, q_rL_fL, q_rL_fR, q_rL_aI, q_rL_aL, q_rL_aR, q_rL_K, q_rL_ln, q_rL_n, q_rL_sl, q_rL_is, q_rL_ck, q_rR_fI, q_rR_fL, q_rR_fR, q_rR_aI, q_rR_aL, q_rR_aR, q_rR_K, q_rR_ln, q_rR_n, q_rR_sl, q_rR_is, q_rR_ck, g_row, Nat.reduceEqDiff, reduceIte]
      · intro j
        simp only [q_pI_fI, q_pI_fL, q_pI_fR, q_pI_aI, q_pI_aL, q_pI_aR, q_pI_K, q_pI_ln, q_pI_n, q_pI_sl, q_pI_is, q_pI_ck, q_pL_fI, q_pL_fL, q_pL_fR, q_pL_aI, q_pL_aL, q_pL_aR, q_pL_K, q_pL_ln, q_pL_n, q_pL_sl, q_pL_is, q_pL_ck, q_pR_fI, q_pR_fL, q_pR_fR, q_pR_aI, q_pR_aL, q_pR_aR, q_pR_K, q_pR_ln, q_pR_n, q_pR_sl, q_pR_is, q_pR_ck, q_rI_fI, q_rI_fL, q_rI_fR, q_rI_aI, q_rI_aL, q_rI_aR, q_rI_K, q_rI_ln, q_rI_n, q_rI_sl, q_rI_is, q_rI_ck, q_rL_fI, q_rL_fL, q_rL_fR, q_rL_aI, q_rL_aL, q_rL_aR, q_rL_K, q_rL_ln, q_rL_n, q_rL_sl, q_rL_is, q_rL_ck, q_rR_fI, q_rR_fL, q_rR_fR, q_rR_aI, q_rR_aL, q_rR_aR, q_rR_K, q_rR_ln, q_rR_n, q_rR_sl, q_rR_is, q_rR_ck, g_row, Nat.reduceEqDiff, reduceIte]
        exact hB j
      · rw [if_neg r, if_pos c]
        simp only [q_pI_fI, q_pI_fL, q_pI_fR, q_pI_aI, q_pI_aL, q_pI_aR, q_pI_K, q_pI_ln, q_pI_n, q_pI_sl, q_pI_is, q_pI_ck, q_pL_fI, q_pL_fL, q_pL_fR, q_pL_aI, q_pL_aL, q_pL_aR, q_pL_K, q_pL_ln, q_pL_n, q_pL_sl, q_pL_is, q_pL_ck, q_pR_fI, q_pR_fL, q_pR_fR, q_pR_aI, q_pR_aL, q_pR_aR, q_pR_K, q_pR_ln, q_pR_n, q_pR_sl, q_pR_is, q_pR_ck, q_rI_fI, q_rI_fL, q_rI_fR, q_rI_aI, q_rI_aL, q_rI_aR, q_rI_K, q_rI_ln, q_rI_n, q_rI_sl, q_rI_is, q_rI_ck, q_rL_fI, q_rL_fL, q_rL_fR, q_rL_aI, q_rL_aL, q_rL_aR, q_rL_K, q_rL_ln, q_rL_n, q_rL_sl, q_rL_is, q_rL_ck, q_rR_fI, q_rR_fL, q_rR_fR, q_rR_aI, q_rR_aL, q_rR_aR, q_rR_K, q_rR_ln, q_rR_n, q_rR_sl, q_rR_is, q_rR_ck, g_row, Nat.reduceEqDiff, reduceIte]
        rw [pk_us]
    · refine ⟨S', ?_, RE.refl, fun _ _ _ _ => rfl, hB, rowf _ RE.refl ?_⟩
      · rw [if_neg c]
        exact key _ hI
      · rw [if_neg r, if_neg c]; exact h244
theorem mW_run {m : mS} {T : List mRow} {x : Int32} (hn : mNt m) (h0 : m.1.1 = 0) (hr : m.2.1.2 = true) : (if (mAct (mStart m.1)).1 = true then mTail (wTb (wDk m (mAct (mStart m.1)).2) T) x else (-9, wDk m (mAct (mStart m.1)).2)) = if (mActs 4 (mStart m.1)).1 = 0 then (-9, wDk m (mActs 4 (mStart m.1)).2) else if (mActs 4 (mStart m.1)).1 = 4 then (x, wTb (wDk m (mActs 4 (mStart m.1)).2) T) else (-9, wTb (wDk m ((mActs 4 (mStart m.1)).2.1, 1, (mActs 4 (mStart m.1)).2.2.2)) T) := by
  rw [mActs_4]
  by_cases e : (mAct (mStart m.1)).1 = true
  · rw [if_pos e, if_pos e]
    dsimp only
    rw [if_neg (by omega)]
    have nn : (mAct (mStart m.1)).2.2.1 = 0 := by
      have := mActs_note 1 (mStart m.1)
      rw [mActs_1, if_pos e] at this
      exact this.trans (hn h0)
    rw [mTail_w, if_pos hr, mNote_eq nn]
    dsimp only
    by_cases c : (mActs 3 (mAct (mStart m.1)).2).1 = 3
    · rw [if_pos c, decide_eq_true c, if_pos rfl, if_pos (by omega)]
    · rw [if_neg c, decide_eq_false c, if_neg (by decide), if_neg (by omega)]
  · rw [if_neg e, if_neg e]
    dsimp only
    rw [if_pos rfl]
theorem mW_not {m : mS} {T : List mRow} {x : Int32} (hr : m.2.1.2 = false) : (if (mAct (mStart m.1)).1 = true then mTail (wTb (wDk m (mAct (mStart m.1)).2) T) x else (-9, wDk m (mAct (mStart m.1)).2)) = if (mActs 1 (mStart m.1)).1 = 0 then (-9, wDk m (mActs 1 (mStart m.1)).2) else if (mActs 1 (mStart m.1)).1 = 1 then (x, wTb (wDk m (mActs 1 (mStart m.1)).2) T) else (-9, wTb (wDk m ((mActs 1 (mStart m.1)).2.1, 1, (mActs 1 (mStart m.1)).2.2.2)) T) := by
  rw [mActs_1]
  by_cases e : (mAct (mStart m.1)).1 = true
  · rw [if_pos e, if_pos e]
    dsimp only
    rw [if_neg (by omega), if_pos rfl, mTail_w, if_neg (by rw [hr]; decide)]
  · rw [if_neg e, if_neg e]
    dsimp only
    rw [if_pos rfl]
