/-! ===== the reference's rows move ===== -/
abbrev A5 : List Nat := [242, 243, 244, 245, 246]
def Sh5 (S S1 : gS) (g : Nat → Nat) : Prop := ∀ x ∈ A5, ∀ j, gaI S1 x j = gaI S x (g j)
def BO (S : gS) : Prop := ∀ i, (gaI S 245 i = 0 ∨ gaI S 245 i = 1) ∧ (gaI S 246 i = 0 ∨ gaI S 246 i = 1)
theorem Sh5.trans {S S1 S2 : gS} {g g2 : Nat → Nat} (h : Sh5 S S1 g) (h2 : Sh5 S1 S2 g2) : Sh5 S S2 (fun j => g (g2 j)) := fun x hx j => (h2 x hx j).trans (h x hx _)
theorem Sh5.id {S : gS} : Sh5 S S (fun j => j) := fun _ _ _ => rfl
theorem Sh5.congr {S S1 : gS} {g g2 : Nat → Nat} (h : Sh5 S S1 g) (e : ∀ j, g2 j = g j) : Sh5 S S1 g2 := fun x hx j => by rw [e]; exact h x hx j
theorem Sh5.bo {S S1 : gS} {g : Nat → Nat} (h : Sh5 S S1 g) (b : BO S) : BO S1 := fun i => by rw [h 245 (by decide) i, h 246 (by decide) i]; exact b (g i)
theorem moveRow_R {S : gS} {a b : Nat} (hI : Imm S) (ha : a < 40) (hb : b < 40) (hB : BO S) : ∃ S1, f_X9_moveRow S 237 (nI a) (nI b) = some S1 ∧ RE A5 [] S S1 ∧ Sh5 S S1 (fun j => if j = b then a else j) := by
  have hR := hI.ref
  unfold f_X9_moveRow
  simp only [g_getR, g_ldI, g_stI, g_stZ, Nat.reduceMul, Nat.reduceAdd, Option.bind_some, q_pI_fI, q_pI_fL, q_pI_fR, q_pI_aI, q_pI_aL, q_pI_aR, q_pI_K, q_pI_ln, q_pI_n, q_pI_sl, q_pI_is, q_pI_ck, q_pL_fI, q_pL_fL, q_pL_fR, q_pL_aI, q_pL_aL, q_pL_aR, q_pL_K, q_pL_ln, q_pL_n, q_pL_sl, q_pL_is, q_pL_ck, q_pR_fI, q_pR_fL, q_pR_fR, q_pR_aI, q_pR_aL, q_pR_aR, q_pR_K, q_pR_ln, q_pR_n, q_pR_sl, q_pR_is, q_pR_ck, q_rI_fI, q_rI_fL, q_rI_fR, q_rI_aI, q_rI_aL, q_rI_aR, q_rI_K, q_rI_ln, q_rI_n, q_rI_sl, q_rI_is, q_rI_ck, q_rL_fI, q_rL_fL, q_rL_fR, q_rL_aI, q_rL_aL, q_rL_aR, q_rL_K, q_rL_ln, q_rL_n, q_rL_sl, q_rL_is, q_rL_ck, q_rR_fI, q_rR_fL, q_rR_fR, q_rR_aI, q_rR_aL, q_rR_aR, q_rR_K, q_rR_ln, q_rR_n, q_rR_sl, q_rR_is, q_rR_ck, ck9 hR, rf_keys hR, rf_slots hR, rf_sorts hR, rf_lags hR, rf_wasBehind hR, g_ck_t (ri_keys hR), g_ck_t (ri_slots hR), g_ck_t (ri_sorts hR), g_ck_t (ri_lags hR), g_ck_t (ri_wasBehind hR), rl_keys hR, rl_slots hR, rl_sorts hR, rl_lags hR, rl_wasBehind hR]
  simp (disch := omega) only [g_ix_t, nI_clamp, g_row, Nat.reduceEqDiff, reduceIte]
  rw [if_pos (hB a).1, if_pos (hB a).2]
  refine ⟨_, rfl, ((((RE.rI (by decide)).trans (RE.rI (by decide))).trans (RE.rI (by decide))).trans (RE.rI (by decide))).trans (RE.rI (by decide)), ?_⟩
  have hu : ∀ (f : Nat → Int32) (j : Nat), upd f b (f a) j = f (if j = b then a else j) := by
    intro f j
    by_cases e : j = b
    · rw [if_pos e, e, pk_us]
    · rw [if_neg e, pk_un e]
  intro x hx j
  have : x = 242 ∨ x = 243 ∨ x = 244 ∨ x = 245 ∨ x = 246 := by simpa using hx
  rcases this with rfl | rfl | rfl | rfl | rfl
  · simp only [q_pI_fI, q_pI_fL, q_pI_fR, q_pI_aI, q_pI_aL, q_pI_aR, q_pI_K, q_pI_ln, q_pI_n, q_pI_sl, q_pI_is, q_pI_ck, q_pL_fI, q_pL_fL, q_pL_fR, q_pL_aI, q_pL_aL, q_pL_aR, q_pL_K, q_pL_ln, q_pL_n, q_pL_sl, q_pL_is, q_pL_ck, q_pR_fI, q_pR_fL, q_pR_fR, q_pR_aI, q_pR_aL, q_pR_aR, q_pR_K, q_pR_ln, q_pR_n, q_pR_sl, q_pR_is, q_pR_ck, q_rI_fI, q_rI_fL, q_rI_fR, q_rI_aI, q_rI_aL, q_rI_aR, q_rI_K, q_rI_ln, q_rI_n, q_rI_sl, q_rI_is, q_rI_ck, q_rL_fI, q_rL_fL, q_rL_fR, q_rL_aI, q_rL_aL, q_rL_aR, q_rL_K, q_rL_ln, q_rL_n, q_rL_sl, q_rL_is, q_rL_ck, q_rR_fI, q_rR_fL, q_rR_fR, q_rR_aI, q_rR_aL, q_rR_aR, q_rR_K, q_rR_ln, q_rR_n, q_rR_sl, q_rR_is, q_rR_ck, g_row, Nat.reduceEqDiff, reduceIte]; exact hu _ _
  · simp only [q_pI_fI, q_pI_fL, q_pI_fR, q_pI_aI, q_pI_aL, q_pI_aR, q_pI_K, q_pI_ln, q_pI_n, q_pI_sl, q_pI_is, q_pI_ck, q_pL_fI, q_pL_fL, q_pL_fR, q_pL_aI, q_pL_aL, q_pL_aR, q_pL_K, q_pL_ln, q_pL_n, q_pL_sl, q_pL_is, q_pL_ck, q_pR_fI, q_pR_fL, q_pR_fR, q_pR_aI, q_pR_aL, q_pR_aR, q_pR_K, q_pR_ln, q_pR_n, q_pR_sl, q_pR_is, q_pR_ck, q_rI_fI, q_rI_fL, q_rI_fR, q_rI_aI, q_rI_aL, q_rI_aR, q_rI_K, q_rI_ln, q_rI_n, q_rI_sl, q_rI_is, q_rI_ck, q_rL_fI, q_rL_fL, q_rL_fR, q_rL_aI, q_rL_aL, q_rL_aR, q_rL_K, q_rL_ln, q_rL_n, q_rL_sl, q_rL_is, q_rL_ck, q_rR_fI, q_rR_fL, q_rR_fR, q_rR_aI, q_rR_aL, q_rR_aR, q_rR_K, q_rR_ln, q_rR_n, q_rR_sl, q_rR_is, q_rR_ck, g_row, Nat.reduceEqDiff, reduceIte]; exact hu _ _
  · simp only [q_pI_fI, q_pI_fL, q_pI_fR, q_pI_aI, q_pI_aL, q_pI_aR, q_pI_K, q_pI_ln, q_pI_n, q_pI_sl, q_pI_is, q_pI_ck, q_pL_fI, q_pL_fL, q_pL_fR, q_pL_aI, q_pL_aL, q_pL_aR, q_pL_K, q_pL_ln, q_pL_n, q_pL_sl, q_pL_is, q_pL_ck, q_pR_fI, q_pR_fL, q_pR_fR, q_pR_aI, q_pR_aL, q_pR_aR, q_pR_K, q_pR_ln, q_pR_n, q_pR_sl, q_pR_is, q_pR_ck, q_rI_fI, q_rI_fL, q_rI_fR, q_rI_aI, q_rI_aL, q_rI_aR, q_rI_K, q_rI_ln, q_rI_n, q_rI_sl, q_rI_is, q_rI_ck, q_rL_fI, q_rL_fL, q_rL_fR, q_rL_aI, q_rL_aL, q_rL_aR, q_rL_K, q_rL_ln, q_rL_n, q_rL_sl, q_rL_is, q_rL_ck, q_rR_fI, q_rR_fL, q_rR_fR, q_rR_aI, q_rR_aL, q_rR_aR, q_rR_K, q_rR_ln, q_rR_n, q_rR_sl, q_rR_is, q_rR_ck, g_row, Nat.reduceEqDiff, reduceIte]; exact hu _ _
  · simp only [q_pI_fI, q_pI_fL, q_pI_fR, q_pI_aI, q_pI_aL, q_pI_aR, q_pI_K, q_pI_ln, q_pI_n, q_pI_sl, q_pI_is, q_pI_ck, q_pL_fI, q_pL_fL, q_pL_fR, q_pL_aI, q_pL_aL, q_pL_aR, q_pL_K, q_pL_ln, q_pL_n, q_pL_sl, q_pL_is, q_pL_ck, q_pR_fI, q_pR_fL, q_pR_fR, q_pR_aI, q_pR_aL, q_pR_aR, q_pR_K, q_pR_ln, q_pR_n, q_pR_sl, q_pR_is, q_pR_ck, q_rI_fI, q_rI_fL, q_rI_fR, q_rI_aI, q_rI_aL, q_rI_aR, q_rI_K, q_rI_ln, q_rI_n, q_rI_sl, q_rI_is, q_rI_ck, q_rL_fI, q_rL_fL, q_rL_fR, q_rL_aI, q_rL_aL, q_rL_aR, q_rL_K, q_rL_ln, q_rL_n, q_rL_sl, q_rL_is, q_rL_ck, q_rR_fI, q_rR_fL, q_rR_fR, q_rR_aI, q_rR_aL, q_rR_aR, q_rR_K, q_rR_ln, q_rR_n, q_rR_sl, q_rR_is, q_rR_ck, g_row, Nat.reduceEqDiff, reduceIte]; exact hu _ _
  · simp only [q_pI_fI, q_pI_fL, q_pI_fR, q_pI_aI, q_pI_aL, q_pI_aR, q_pI_K, q_pI_ln, q_pI_n, q_pI_sl, q_pI_is, q_pI_ck, q_pL_fI, q_pL_fL, q_pL_fR, q_pL_aI, q_pL_aL, q_pL_aR, q_pL_K, q_pL_ln, q_pL_n, q_pL_sl, q_pL_is, q_pL_ck, q_pR_fI, q_pR_fL, q_pR_fR, q_pR_aI, q_pR_aL, q_pR_aR, q_pR_K, q_pR_ln, q_pR_n, q_pR_sl, q_pR_is, q_pR_ck, q_rI_fI, q_rI_fL, q_rI_fR, q_rI_aI, q_rI_aL, q_rI_aR, q_rI_K, q_rI_ln, q_rI_n, q_rI_sl, q_rI_is, q_rI_ck, q_rL_fI, q_rL_fL, q_rL_fR, q_rL_aI, q_rL_aL, q_rL_aR, q_rL_K, q_rL_ln, q_rL_n, q_rL_sl, q_rL_is, q_rL_ck, q_rR_fI, q_rR_fL, q_rR_fR, q_rR_aI, q_rR_aL, q_rR_aR, q_rR_K, q_rR_ln, q_rR_n, q_rR_sl, q_rR_is, q_rR_ck, g_row, Nat.reduceEqDiff, reduceIte]; exact hu _ _
theorem drop_loop {n : Nat} {p1 : Int32} {K : gS → Int32 → Option gS} (hn : 0 < n) (hn2 : n ≤ 40) : ∀ (d fu k : Nat) (S : gS), k + d = n - 1 → d < fu → Imm S → gfI S 582 237 = nI n → BO S → ∃ S1, l_X9_drop_14 237 p1 fu S (nI k) K = K S1 (nI (n - 1)) ∧ RE A5 [] S S1 ∧ Sh5 S S1 (fun j => if k ≤ j ∧ j + 1 < n then j + 1 else j) := by
  intro d
  induction d with
  | zero =>
    intro fu k S hk hf hI hc hB
    obtain ⟨fu, rfl⟩ : ∃ m, fu = m + 1 := ⟨fu - 1, by omega⟩
    have hR := hI.ref
    have : k = n - 1 := by omega
    subst this
    rw [l_X9_drop_14]
    simp only [g_getI, g_getL, g_getR, g_putI, g_putZ, g_putL, g_putR, g_ldI, g_ldL, g_ldR, g_stI, g_stZ, g_stL, g_stR, g_alen, g_ldX, g_cVI, g_cVL, g_cVR, g_cVV, g_cI, g_cL, g_cN, g_lt, g_jn, g_cpI, g_cpL, g_z, Nat.reduceMul, Nat.reduceAdd, Option.bind_some, or_true, true_or, if_true, ck9 hR, hc, add1]
    rw [if_pos (nI_le (by omega) (by omega))]
    exact ⟨S, rfl, RE.refl, Sh5.id.congr fun j => if_neg (by omega)⟩
  | succ d ih =>
    intro fu k S hk hf hI hc hB
    obtain ⟨fu, rfl⟩ : ∃ m, fu = m + 1 := ⟨fu - 1, by omega⟩
    have hR := hI.ref
    obtain ⟨S1, a1, a2, a3⟩ := moveRow_R (S := S) (a := k + 1) (b := k) hI (by omega) (by omega) hB
    rw [l_X9_drop_14]
    simp only [g_getI, g_getL, g_getR, g_putI, g_putZ, g_putL, g_putR, g_ldI, g_ldL, g_ldR, g_stI, g_stZ, g_stL, g_stR, g_alen, g_ldX, g_cVI, g_cVL, g_cVR, g_cVV, g_cI, g_cL, g_cN, g_lt, g_jn, g_cpI, g_cpL, g_z, Nat.reduceMul, Nat.reduceAdd, Option.bind_some, or_true, true_or, if_true, ck9 hR, hc, add1, a1]
    rw [if_neg (nI_ge (by omega) (by omega))]
    obtain ⟨S2, b1, b2, b3⟩ := ih fu (k + 1) S1 (by omega) (by omega) (a2.imm hI) (by rw [a2.fI (by decide)]; exact hc) (a3.bo hB)
    refine ⟨S2, b1, a2.trans b2, (a3.trans b3).congr fun j => ?_⟩
    by_cases c : k + 1 ≤ j ∧ j + 1 < n
    · rw [if_pos c, if_pos (by omega), if_neg (by omega)]
    · rw [if_neg c]
      by_cases e : j = k
      · rw [if_pos e, if_pos (by omega), e]
      · rw [if_neg e, if_neg (by omega)]
theorem FormR.same {S S1 : gS} {s : Nat} {ts : List Int32} {vs : List mV} (h : FormR S s ts vs) (e1 : gaL S1 238 = gaL S 238) (e2 : gaI S1 239 = gaI S 239) (e3 : gaI S1 240 = gaI S 240) : FormR S1 s ts vs := by
  unfold FormR
  rw [e1, e2, e3]
  exact h
theorem drop_R {S : gS} {tb : List mRow} {sc nx : List mCol} {run : Bool} {i : Nat} (h : TableR S tb sc nx run) (hI : Imm S) (hl : tb.length ≤ 40) (hi : i < tb.length) : ∃ S1, f_X9_drop S 237 (nI i) = some S1 ∧ RE [242, 243, 244, 245, 246, 247] [582] S S1 ∧ TableR S1 (tb.eraseIdx i) sc nx run := by
  obtain ⟨h1, h2, ⟨h3, hB⟩, h4⟩ := h
  have hR := hI.ref
  obtain ⟨-, ⟨s, s1, s2, s3, -, -⟩, -⟩ := h4 i _ (List.getElem?_eq_getElem hi)
  unfold f_X9_drop
  simp only [g_getR, g_ldI, g_stZ, Nat.reduceMul, Nat.reduceAdd, Option.bind_some, ck9 hR, rf_slots hR, rf_isUsed hR, g_ck_t (ri_slots hR), g_ck_t (ri_isUsed hR), rl_slots hR, rl_isUsed hR]
  rw [g_ix_t (by omega) (by decide), nI_clamp (by omega), s2, g_ix_t (by omega) (by decide), nI_clamp (by omega), if_pos (show True ∨ (0 : Int32) = 1 from Or.inl trivial)]
  generalize hS0 : g_rI S 247 (upd (gaI S 247) s 0) = S0
  have e0 : RE [247] [] S S0 := by rw [← hS0]; exact RE.rI (by decide)
  have hB0 : BO S0 := fun i => by rw [e0.aI (show 245 ∉ [247] by decide), e0.aI (show 246 ∉ [247] by decide)]; exact hB i
  obtain ⟨S1, b1, b2, b3⟩ := drop_loop (n := tb.length) (p1 := nI i) (K := fun S7 v8 => g_getI S7 9 6 237 fun x9 => g_putI S7 9 6 237 (x9 - (1 : Int32)) fun S10 => some S10) (by omega) hl (tb.length - 1 - i) 100 i S0 (by omega) (by omega) (e0.imm hI) (by rw [e0.fI (by decide)]; exact h1) hB0
  have hI1 := b2.imm (e0.imm hI)
  have hc1 : gfI S1 582 237 = nI tb.length := by rw [b2.fI (by decide), e0.fI (by decide)]; exact h1
  refine ⟨g_pI S1 582 237 (nI (tb.length - 1)), ?_, ?_, ?_⟩
  · refine b1.trans ?_
    simp only [g_getI, g_getL, g_getR, g_putI, g_putZ, g_putL, g_putR, g_ldI, g_ldL, g_ldR, g_stI, g_stZ, g_stL, g_stR, g_alen, g_ldX, g_cVI, g_cVL, g_cVR, g_cVV, g_cI, g_cL, g_cN, g_lt, g_jn, g_cpI, g_cpL, g_z, Nat.reduceMul, Nat.reduceAdd, Option.bind_some, or_true, true_or, if_true, ck9 hI1.ref, hc1, show (1 : Int32) = nI 1 from rfl]
    rw [sub_nI (by omega)]
  · exact ((e0.mono (by decide) (by decide)).trans (b2.mono (by decide) (by decide))).trans (RE.pI (by decide))
  · have sh : ∀ x ∈ A5, ∀ j, gaI (g_pI S1 582 237 (nI (tb.length - 1))) x j = gaI S x (if i ≤ j ∧ j + 1 < tb.length then j + 1 else j) := by
      intro x hx j
      rw [q_pI_aI, b3 x hx j, e0.aI (by revert x; decide)]
    have hu : gaI (g_pI S1 582 237 (nI (tb.length - 1))) 247 = upd (gaI S 247) s 0 := by
      rw [q_pI_aI, b2.aI (by decide), ← hS0, q_rI_aI, g_row_s]
    have len : (tb.eraseIdx i).length = tb.length - 1 := List.length_eraseIdx_of_lt hi
    have inj2 : ∀ a b, a < tb.length → b < tb.length → gaI S 243 a = gaI S 243 b → a = b := h2
    refine ⟨?_, ?_, ⟨?_, ?_⟩, ?_⟩
    · rw [q_pI_fI, g_up_s, len]
    · intro a b ha hb hab
      rw [len] at ha hb
      rw [sh 243 (by decide), sh 243 (by decide)] at hab
      by_cases ca : i ≤ a
      · rw [if_pos (by omega)] at hab
        by_cases cb : i ≤ b
        · rw [if_pos (by omega)] at hab
          have := inj2 _ _ (by omega) (by omega) hab
          omega
        · rw [if_neg (by omega)] at hab
          have := inj2 _ _ (by omega) (by omega) hab
          omega
      · rw [if_neg (by omega)] at hab
        by_cases cb : i ≤ b
        · rw [if_pos (by omega)] at hab
          have := inj2 _ _ (by omega) (by omega) hab
          omega
        · rw [if_neg (by omega)] at hab
          exact inj2 _ _ (by omega) (by omega) hab
    · intro z hz
      rw [hu]
      by_cases e : z = s
      · rw [e, pk_us]; exact Or.inl rfl
      · rw [pk_un e]
        rcases h3 z hz with q | ⟨q, o, o1, o2⟩
        · exact Or.inl q
        · refine Or.inr ⟨q, ?_⟩
          have ho : o ≠ i := by
            intro q2
            rw [q2, s2] at o2
            exact e ((nI_eq (by omega) (by omega)).mp o2).symm
          by_cases c : o < i
          · exact ⟨o, by rw [len]; omega, by rw [sh 243 (by decide), if_neg (by omega)]; exact o2⟩
          · refine ⟨o - 1, by rw [len]; omega, ?_⟩
            rw [sh 243 (by decide), if_pos (by omega), show o - 1 + 1 = o by omega]
            exact o2
    · intro j
      rw [sh 245 (by decide), sh 246 (by decide)]
      exact hB _
    · intro j r hj
      have hj2 := lt_of_some hj
      rw [len] at hj2
      rw [List.getElem?_eraseIdx] at hj
      have fm : ∀ q ts vs, FormR S q ts vs → FormR (g_pI S1 582 237 (nI (tb.length - 1))) q ts vs := fun q ts vs hf => hf.same (by rw [q_pI_aL, b2.aL (by decide), e0.aL (by decide)]) (by rw [q_pI_aI, b2.aI (by decide), e0.aI (by decide)]) (by rw [q_pI_aI, b2.aI (by decide), e0.aI (by decide)])
      have main : ∀ g, g < tb.length → g ≠ i → tb[g]? = some r → (if i ≤ j ∧ j + 1 < tb.length then j + 1 else j) = g → RowR (g_pI S1 582 237 (nI (tb.length - 1))) j r sc nx run := by
        intro g hg hgi hgr hgj
        obtain ⟨v1, ⟨y, v2, v3, v4, v5, v6⟩, v7⟩ := h4 g r hgr
        unfold RowR
        rw [sh 242 (by decide), sh 243 (by decide), sh 244 (by decide), sh 245 (by decide), sh 246 (by decide), hgj, hu]
        refine ⟨v1, ⟨y, v2, v3, ?_, fm _ _ _ v5, fun hr => fm _ _ _ (v6 hr)⟩, v7⟩
        rw [pk_un]
        · exact v4
        · intro q
          rw [q] at v3
          exact hgi (inj2 g i hg hi (v3.trans s2.symm))
      by_cases c : j < i
      · rw [if_pos c] at hj
        exact main j (by omega) (by omega) hj (if_neg (by omega))
      · rw [if_neg c] at hj
        exact main (j + 1) (by omega) (by omega) hj (if_pos (by omega))
theorem RR.tb {S : gS} {m : mS} (h : RR S m) : TableR S (mTb m) m.2.2.2.2.1 m.2.2.2.2.2.1 m.2.1.2 ∧ gfI S 591 237 = (if m.2.1.2 = true then 1 else 0) := by
  obtain ⟨dk, vr, pl, mg, sc, nx, dr, sn, tb⟩ := m
  obtain ⟨hI, h2, h3, h4, h5, h6, h7, h8, h9, h10⟩ := h
  exact ⟨h9, h4⟩
theorem RR.table {A F : List Nat} {S S1 : gS} {m : mS} {tb : List mRow} (h : RR S m) (k : mOk m) (e : RE A F S S1) (hF : ∀ f ∈ [605, 606, 607, 608, 609, 590, 591, 597, 598, 603], f ∉ F) (hA : ∀ a ∈ [248, 249, 250, 251, 252, 253, 254, 255, 256, 257, 258, 259, 260], a ∉ A) (w : ∀ k, 640 ≤ k → k < 648 → SlotEq S S1 k) (ht : TableR S1 tb m.2.2.2.2.1 m.2.2.2.2.2.1 m.2.1.2) : RR S1 (wTb m tb) := by
  obtain ⟨dk, vr, pl, mg, sc, nx, dr, sn, tb0⟩ := m
  obtain ⟨hI, h2, h3, h4, h5, h6, h7, h8, h9, h10⟩ := h
  obtain ⟨k1, k2, k3, k4, k5, k6, k7, k8⟩ := k
  have pA : ∀ a ∈ [251, 252, 253, 254, 255], a ∉ A := fun a ha => hA a (by revert a; decide)
  have sA : ∀ a ∈ [248, 249, 250], a ∉ A := fun a ha => hA a (by revert a; decide)
  exact ⟨e.imm hI, h2.e e (fun f hf => hF f (by revert f; decide)), (e.fI (hF _ (by decide))).trans h3, (e.fI (hF _ (by decide))).trans h4, ⟨(e.fI (hF _ (by decide))).trans h5.1, h5.2.e e pA⟩, h6.e e sA, h7.e e (fun a ha => hA a (by revert a; decide)), h8.e e (hF _ (by decide)) (hA _ (by decide)) k8 w, ht, fun hr => ⟨(h10 hr).1.e e sA, (e.fI (hF _ (by decide))).trans (h10 hr).2.1, (h10 hr).2.2.e e pA⟩⟩
theorem mActs_note (n : Nat) (d : mDk) : (mActs n d).2.2.1 = d.2.1 := by
  have := congrArg (fun z => z.2.2.1) (mActs_noted n d d.2.1)
  exact this
/-- not down: no note on the disk -/
def mNt (m : mS) : Prop := m.1.1 = 0 → m.1.2.1 = 0
theorem mActs_4 {d : mDk} : mActs 4 d = if (mAct d).1 = true then ((mActs 3 (mAct d).2).1 + 1, (mActs 3 (mAct d).2).2) else (0, (mAct d).2) := rfl
theorem mActs_1 {d : mDk} : mActs 1 d = if (mAct d).1 = true then (1, (mAct d).2) else (0, (mAct d).2) := rfl
/-- the reference's end of write and remove while a migration runs -/
theorem mNote_eq {d : mDk} (h : d.2.1 = 0) : mNote d = (decide ((mActs 3 d).1 = 3), if (mActs 3 d).1 = 3 then (mActs 3 d).2 else ((mActs 3 d).2.1, 1, (mActs 3 d).2.2.2)) := by
  unfold mNote
  have hn := mActs_noted 3 d 1
  have h0 := mActs_note 3 d
  rw [h] at h0
  rw [hn]
  dsimp only
  congr 1
  by_cases c : (mActs 3 d).1 = 3
  · rw [if_pos c, if_pos c, ← h0]
  · rw [if_neg c, if_neg c]
theorem mTail_w {m : mS} {d : mDk} {tb : List mRow} {x : Int32} : mTail (wTb (wDk m d) tb) x = if m.2.1.2 = true then (if (mNote d).1 = true then x else -9, wTb (wDk m (mNote d).2) tb) else (x, wTb (wDk m d) tb) := by
  obtain ⟨dk, vr, pl, mg, sc, nx, dr, sn, tb0⟩ := m
  rfl
theorem mRemove_run {m : mS} {key : Int32} {i : Nat} (k : mOk m) (hn : mNt m) (h0 : m.1.1 = 0) (hr : m.2.1.2 = true) (hq : mFnd (mTb m) key = some i) : mRemove m key = if (mActs 4 (mStart m.1)).1 = 0 then (-9, wDk m (mActs 4 (mStart m.1)).2) else if (mActs 4 (mStart m.1)).1 = 4 then (1, wTb (wDk m (mActs 4 (mStart m.1)).2) ((mTb m).eraseIdx i)) else (-9, wTb (wDk m ((mActs 4 (mStart m.1)).2.1, 1, (mActs 4 (mStart m.1)).2.2.2)) ((mTb m).eraseIdx i)) := by
  have hi := mFnd_lt hq
  have hp : mPlaces ((mTb m).getD i (0, 0, 0, [], [])) = 1 := by
    have := (k.tb.2.1 _ (List.mem_of_getElem? (getD_some (d := ((0, 0, 0, [], []) : mRow)) hi))).2
    unfold mPlaces
    rw [if_neg]
    intro q
    rw [q, hr] at this
    rcases this with z | z | z
    · exact absurd z (by decide)
    · exact absurd z (by decide)
    · exact absurd z.1 (by decide)
  unfold mRemove
  rw [if_pos h0, hq]
  dsimp only
  rw [hp, mActs_1, mActs_4]
  by_cases e : (mAct (mStart m.1)).1 = true
  · rw [if_pos e, if_pos e]
    dsimp only
    rw [if_pos rfl, if_neg (by omega)]
    have nn : (mAct (mStart m.1)).2.2.1 = 0 := by
      have := mActs_note 1 (mStart m.1)
      rw [mActs_1, if_pos e] at this
      exact this.trans (hn h0)
    rw [mTail_w, if_pos hr, mNote_eq nn]
    dsimp only
    by_cases c : (mActs 3 (mAct (mStart m.1)).2).1 = 3
    · rw [if_pos c, decide_eq_true c, if_pos rfl, if_pos (by omega)]
    · rw [if_neg c, decide_eq_false c, if_neg (by decide), if_neg (by omega)]
  · rw [if_neg e, if_neg e]
    dsimp only
    rw [if_neg (by decide), if_pos rfl]
theorem remove_R {S : gS} {m : mS} {key : Int32} (h : RR S m) (k : mOk m) (hn : mNt m) : COp S 237 265 (f_X9_remove S 237 key) (mRemove m key).1 (fun S1 => RR S1 (mRemove m key).2) := by
  obtain ⟨hI, hD⟩ := h.dk
  have kd := k.dk
  have a3 : RF 605 610 S (g_pI S 606 237 0) := RF.pI (by decide) (by decide)
  have a4 : DiskR (g_pI S 606 237 0) (mStart m.1) := by
    obtain ⟨d1, d2, d3, d4, d5⟩ := hD
    simp [DiskR, q_pI_fI, q_pI_fL, q_pI_fR, q_pI_aI, q_pI_aL, q_pI_aR, q_pI_K, q_pI_ln, q_pI_n, q_pI_sl, q_pI_is, q_pI_ck, q_pL_fI, q_pL_fL, q_pL_fR, q_pL_aI, q_pL_aL, q_pL_aR, q_pL_K, q_pL_ln, q_pL_n, q_pL_sl, q_pL_is, q_pL_ck, q_pR_fI, q_pR_fL, q_pR_fR, q_pR_aI, q_pR_aL, q_pR_aR, q_pR_K, q_pR_ln, q_pR_n, q_pR_sl, q_pR_is, q_pR_ck, q_rI_fI, q_rI_fL, q_rI_fR, q_rI_aI, q_rI_aL, q_rI_aR, q_rI_K, q_rI_ln, q_rI_n, q_rI_sl, q_rI_is, q_rI_ck, q_rL_fI, q_rL_fL, q_rL_fR, q_rL_aI, q_rL_aL, q_rL_aR, q_rL_K, q_rL_ln, q_rL_n, q_rL_sl, q_rL_is, q_rL_ck, q_rR_fI, q_rR_fL, q_rR_fR, q_rR_aI, q_rR_aL, q_rR_aR, q_rR_K, q_rR_ln, q_rR_n, q_rR_sl, q_rR_is, q_rR_ck, g_up, d1, d2, d3, d4, mStart]
  have h1 := h.disk a3 a4
  have k1 := k.disk (mStart_ok kd)
  have ks := mStart_ok kd
  obtain ⟨u1, u2, u3⟩ := k.tb
  unfold f_X9_remove
  simp only [g_putI, g_getI, Nat.reduceMul, Nat.reduceAdd, ck9 hI.ref]
  generalize g_pI S 606 237 0 = S1 at a3 a4 h1 ⊢
  have hI1 := a3.imm hI
  have hR1 := hI1.ref
  have tb1 : TableR S1 (mTb m) m.2.2.2.2.1 m.2.2.2.2.2.1 m.2.1.2 := h1.tb.1
  have run1 : gfI S1 591 237 = (if m.2.1.2 = true then 1 else 0) := h1.tb.2
  have fd := find_R tb1 hI1 u1 u3 key
  simp only [g_getI, g_getL, g_getR, g_putI, g_putZ, g_putL, g_putR, g_ldI, g_ldL, g_ldR, g_stI, g_stZ, g_stL, g_stR, g_alen, g_ldX, g_cVI, g_cVL, g_cVR, g_cVV, g_cI, g_cL, g_cN, g_lt, g_jn, g_cpI, g_cpL, g_z, Nat.reduceMul, Nat.reduceAdd, Option.bind_some, or_true, true_or, if_true, ck9 hR1, a4.1, fd, run1, b01]
  show COp S 237 265 (if m.1.1 = 0 then _ else _) _ _
  by_cases e1 : m.1.1 = 0
  · rw [if_pos e1]
    cases hq : mFnd (mTb m) key with
    | none =>
      rw [show ixO none = (-1 : Int32) from rfl, if_neg (show ¬ (0 : Int32) ≤ -1 by decide)]
      unfold mRemove
      rw [if_pos e1, hq]
      exact ⟨S1, rfl, hI1, a3.fr, h1⟩
    | some i =>
      have hi := mFnd_lt hq
      rw [show ixO (some i) = nI i from rfl, if_pos (show (0 : Int32) ≤ nI i from nI_le (a := 0) (by omega) (by omega))]
      have hrow := tb1.2.2.2 i _ (getD_some (d := ((0, 0, 0, [], []) : mRow)) hi)
      by_cases run : m.2.1.2 = true
      · rw [if_pos run, mRemove_run k hn e1 run hq]
        obtain ⟨S2, b1, b3, b4⟩ := acts_R (n := 4) (by decide) hI1 ks a4
        have b3' : RF 605 610 S S2 := a3.trans (b3.mono (by decide) (by decide))
        have hI2 := b3'.imm hI
        have h2 := h.disk b3' b4
        rw [show (4 : Int32) = nI 4 from rfl, b1, Option.bind_some]
        dsimp only
        have hle := mActs_le 4 (mStart m.1)
        by_cases e2 : (mActs 4 (mStart m.1)).1 = 0
        · rw [if_pos (show nI (mActs 4 (mStart m.1)).1 = 0 by rw [e2]; rfl), if_pos e2]
          exact ⟨S2, rfl, hI2, b3'.fr, h2⟩
        · rw [if_neg (show ¬ nI (mActs 4 (mStart m.1)).1 = 0 from nI_ne0 (by omega) (by omega)), if_neg e2, ck9 hI2.ref, show gfI S2 591 237 = (if m.2.1.2 = true then 1 else 0) from h2.tb.2, if_pos run, if_neg (show ¬ (1 : Int32) = 0 by decide), ck9 hI2.ref]
          have k2 : mOk (wDk m (mActs 4 (mStart m.1)).2) := k.disk (mActs_ok 4 ks)
          obtain ⟨S3, d1, d2, d3⟩ := drop_R (i := i) h2.tb.1 hI2 u1 hi
          rw [d1, Option.bind_some]
          have h3 := h2.table k2 d2 (by decide) (by decide) (fun k _ _ => d2.slot (by decide) (by decide) (by decide)) d3
          by_cases e3 : (mActs 4 (mStart m.1)).1 = 4
          · rw [if_pos (show nI (mActs 4 (mStart m.1)).1 = nI 4 by rw [e3]), if_pos e3]
            exact ⟨S3, rfl, d2.imm hI2, b3'.fr.trans (d2.fr (by decide)), h3⟩
          · rw [if_neg (show ¬ nI (mActs 4 (mStart m.1)).1 = nI 4 by rw [nI_eq (by omega) (by omega)]; exact e3), if_neg e3]
            have hI3 := d2.imm hI2
            simp only [g_getI, g_getL, g_getR, g_putI, g_putZ, g_putL, g_putR, g_ldI, g_ldL, g_ldR, g_stI, g_stZ, g_stL, g_stR, g_alen, g_ldX, g_cVI, g_cVL, g_cVR, g_cVV, g_cI, g_cL, g_cN, g_lt, g_jn, g_cpI, g_cpL, g_z, Nat.reduceMul, Nat.reduceAdd, Option.bind_some, or_true, true_or, if_true, ck9 hI3.ref]
            have q : RF 605 610 S3 (g_pI S3 609 237 1) := RF.pI (by decide) (by decide)
            refine ⟨_, rfl, q.imm hI3, (b3'.fr.trans (d2.fr (by decide))).trans q.fr, RR.disk h3 q ?_⟩
            obtain ⟨x1, x2, x3, x4, x5⟩ := h3.dk.2
            unfold DiskR
            simp only [q_pI_fI, q_pI_fL, q_pI_fR, q_pI_aI, q_pI_aL, q_pI_aR, q_pI_K, q_pI_ln, q_pI_n, q_pI_sl, q_pI_is, q_pI_ck, q_pL_fI, q_pL_fL, q_pL_fR, q_pL_aI, q_pL_aL, q_pL_aR, q_pL_K, q_pL_ln, q_pL_n, q_pL_sl, q_pL_is, q_pL_ck, q_pR_fI, q_pR_fL, q_pR_fR, q_pR_aI, q_pR_aL, q_pR_aR, q_pR_K, q_pR_ln, q_pR_n, q_pR_sl, q_pR_is, q_pR_ck, q_rI_fI, q_rI_fL, q_rI_fR, q_rI_aI, q_rI_aL, q_rI_aR, q_rI_K, q_rI_ln, q_rI_n, q_rI_sl, q_rI_is, q_rI_ck, q_rL_fI, q_rL_fL, q_rL_fR, q_rL_aI, q_rL_aL, q_rL_aR, q_rL_K, q_rL_ln, q_rL_n, q_rL_sl, q_rL_is, q_rL_ck, q_rR_fI, q_rR_fL, q_rR_fR, q_rR_aI, q_rR_aL, q_rR_aR, q_rR_K, q_rR_ln, q_rR_n, q_rR_sl, q_rR_is, q_rR_ck]
            rw [g_up_s, g_up_f (by decide), g_up_f (by decide), g_up_f (by decide), g_up_f (by decide)]
            exact ⟨x1, rfl, x3, x4, x5⟩
      · have run2 : m.2.1.2 = false := by simpa using run
        rw [if_neg run, rf_sorts hR1, Option.bind_some, g_ck_t (ri_sorts hR1), rl_sorts hR1, g_ix_t (by omega) (by decide), nI_clamp (by omega)]
        have hs : gaI S1 244 i = ((mTb m).getD i (0, 0, 0, [], [])).2.1 := by
          have := hrow.2.2
          rw [if_neg run] at this
          exact this
        have fin : ∀ n : Nat, n = mPlaces ((mTb m).getD i (0, 0, 0, [], [])) → COp S 237 265 ((f_X9_acts S1 237 (nI n)).bind fun z => if z.1 = 0 then some ((-9 : Int32), z.2) else g_ck z.2 9 237 (if gfI z.2 591 237 = 0 then (if nI n ≤ z.1 then g_ck z.2 9 237 ((f_X9_drop z.2 237 (nI i)).bind fun S14 => if z.1 = nI n then some ((1 : Int32), S14) else g_ck S14 9 237 (some ((-9 : Int32), g_pI S14 609 237 1))) else some (-9, z.2)) else g_ck z.2 9 237 ((f_X9_drop z.2 237 (nI i)).bind fun S14 => if z.1 = nI n then some ((1 : Int32), S14) else g_ck S14 9 237 (some ((-9 : Int32), g_pI S14 609 237 1))))) (mRemove m key).1 (fun S1 => RR S1 (mRemove m key).2) := by
          intro n hn'
          have hp2 := mPlaces_le ((mTb m).getD i (0, 0, 0, [], []))
          have hp1 : 1 ≤ mPlaces ((mTb m).getD i (0, 0, 0, [], [])) := by unfold mPlaces; split <;> omega
          unfold mRemove
          rw [if_pos e1, hq]
          dsimp only
          rw [← hn'] at hp1 hp2 ⊢
          obtain ⟨S2, b1, b3, b4⟩ := acts_R (n := n) (by omega) hI1 ks a4
          have b3' : RF 605 610 S S2 := a3.trans (b3.mono (by decide) (by decide))
          have hI2 := b3'.imm hI
          have h2 := h.disk b3' b4
          rw [b1, Option.bind_some]
          dsimp only
          have hle := mActs_le n (mStart m.1)
          by_cases e2 : (mActs n (mStart m.1)).1 = n
          · rw [if_pos e2]
            have k2 : mOk (wDk m (mActs n (mStart m.1)).2) := k.disk (mActs_ok n ks)
            obtain ⟨S3, d1, d2, d3⟩ := drop_R (i := i) h2.tb.1 hI2 u1 hi
            have h3 := h2.table k2 d2 (by decide) (by decide) (fun k _ _ => d2.slot (by decide) (by decide) (by decide)) d3
            rw [e2, if_neg (show ¬ nI n = 0 from nI_ne0 (by omega) (by omega)), ck9 hI2.ref, show gfI S2 591 237 = (if m.2.1.2 = true then 1 else 0) from h2.tb.2, if_neg run, if_pos rfl, if_pos (nI_le (by omega) (by omega)), ck9 hI2.ref, d1, Option.bind_some, if_pos rfl]
            unfold mTail
            rw [show (wTb (wDk m (mActs n (mStart m.1)).2) ((mTb m).eraseIdx i)).2.1.2 = m.2.1.2 from rfl]
            simp only [if_neg run]
            exact ⟨S3, rfl, d2.imm hI2, b3'.fr.trans (d2.fr (by decide)), h3⟩
          · rw [if_neg e2]
            by_cases e3 : (mActs n (mStart m.1)).1 = 0
            · rw [if_pos (show nI (mActs n (mStart m.1)).1 = 0 by rw [e3]; rfl)]
              exact ⟨S2, rfl, hI2, b3'.fr, h2⟩
            · rw [if_neg (show ¬ nI (mActs n (mStart m.1)).1 = 0 from nI_ne0 (by omega) (by omega)), ck9 hI2.ref, show gfI S2 591 237 = (if m.2.1.2 = true then 1 else 0) from h2.tb.2, if_neg run, if_pos rfl, if_neg (nI_ge (by omega) (by omega))]
              exact ⟨S2, rfl, hI2, b3'.fr, h2⟩
        by_cases e4 : gaI S1 244 i = 2
        · rw [if_pos e4]
          exact fin 2 (by unfold mPlaces; rw [if_pos (hs.symm.trans e4)])
        · rw [if_neg e4]
          exact fin 1 (by unfold mPlaces; rw [if_neg (fun q => e4 (hs.trans q))])
  · rw [if_neg e1]
    unfold mRemove
    rw [if_neg e1]
    exact ⟨S1, rfl, hI1, a3.fr, h1⟩
