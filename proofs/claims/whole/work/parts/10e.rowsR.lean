/-! ===== all rows, one behind the other, of the reference ===== -/
theorem RowR.oth {S S1 : gS} {i : Nat} {r : mRow} {sc nx : List mCol} {run : Bool} {s0 : Nat} (h : RowR S i r sc nx run) (hs : sc.length ≤ 8) (hn : run = true → nx.length ≤ 8) (e2 : gaI S1 242 = gaI S 242) (e3 : gaI S1 243 = gaI S 243) (e7 : gaI S1 247 = gaI S 247) (ex : ∀ x ∈ [244, 245, 246], gaI S1 x i = gaI S x i) (hne : gaI S 243 i ≠ nI s0) (w : ∀ k, (k < 16 * s0 ∨ 16 * s0 + 16 ≤ k) → k < 648 → SlotEq S S1 k) : RowR S1 i r sc nx run := by
  obtain ⟨r1, ⟨s, r2, r3, r4, r5, r6⟩, r7⟩ := h
  have hss : s ≠ s0 := fun q => hne (by rw [r3, q])
  unfold RowR
  rw [e2, e3, e7, ex 244 (by decide), ex 245 (by decide), ex 246 (by decide)]
  refine ⟨r1, ⟨s, r2, r3, r4, r5.slots fun k a b => w k ?_ ?_, fun hr => (r6 hr).slots fun k a b => w k ?_ ?_⟩, r7⟩
  · unfold tys at b; rw [List.length_map] at b; omega
  · unfold tys at b; rw [List.length_map] at b; omega
  · have := hn hr; unfold tys at b; rw [List.length_map] at b; omega
  · have := hn hr; unfold tys at b; rw [List.length_map] at b; omega
theorem rrows_loop {α : Type} {tb : List mRow} {sc nx sc2 nx2 : List mCol} {run run2 : Bool} {g : mRow → mRow} {AA FF : List Nat} {Amb : gS → Prop} {loop : Nat → gS → Int32 → Option α} {K : gS → Int32 → Option α} (hl : tb.length ≤ 40) (hs : sc.length ≤ 8) (hn : run = true → nx.length ≤ 8) (hs2 : sc2.length ≤ 8) (hn2 : run2 = true → nx2.length ≤ 8) (hAA : ∀ a ∈ [242, 243, 247], a ∉ AA) (hFF : 582 ∉ FF)
    (hstep : ∀ S i r s, Imm S → Amb S → gfI S 582 237 = nI tb.length → i < tb.length → tb[i]? = some r → s < 40 → gaI S 243 i = nI s → BO S → RowR S i r sc nx run → ∃ S1, (∀ fu, loop (fu + 1) S (nI i) = loop fu S1 (nI (i + 1))) ∧ Amb S1 ∧ RE AA FF S S1 ∧ (∀ x ∈ [244, 245, 246], ∀ j, j ≠ i → gaI S1 x j = gaI S x j) ∧ (∀ k, (k < 16 * s ∨ 16 * s + 16 ≤ k) → k < 648 → SlotEq S S1 k) ∧ BO S1 ∧ RowR S1 i (g r) sc2 nx2 run2)
    (h0 : ∀ fu S i, Imm S → gfI S 582 237 = nI tb.length → tb.length ≤ i → i ≤ 40 → loop (fu + 1) S (nI i) = K S (nI i)) :
    ∀ (d fu i : Nat) (S : gS), i + d = tb.length → d < fu → Imm S → Amb S → gfI S 582 237 = nI tb.length → (∀ a b, a < tb.length → b < tb.length → gaI S 243 a = gaI S 243 b → a = b) → (∀ s, s < 40 → (gaI S 247 s = 0 ∨ (gaI S 247 s = 1 ∧ ∃ i, i < tb.length ∧ gaI S 243 i = nI s))) → BO S → (∀ j r, j < i → tb[j]? = some r → RowR S j (g r) sc2 nx2 run2) → (∀ j r, i ≤ j → tb[j]? = some r → RowR S j r sc nx run) →
    ∃ S1, loop fu S (nI i) = K S1 (nI tb.length) ∧ Amb S1 ∧ RE AA FF S S1 ∧ (∀ k, 640 ≤ k → k < 648 → SlotEq S S1 k) ∧ TableR S1 (tb.map g) sc2 nx2 run2 := by
  intro d
  induction d with
  | zero =>
    intro fu i S hi hf hI hA hc hinj hus hB hlo hhi
    obtain ⟨fu, rfl⟩ : ∃ m, fu = m + 1 := ⟨fu - 1, by omega⟩
    have : i = tb.length := by omega
    subst this
    refine ⟨S, h0 fu S _ hI hc (by omega) hl, hA, RE.refl, fun _ _ _ => SlotEq.refl, by rw [List.length_map]; exact hc, by rw [List.length_map]; exact hinj, ⟨by rw [List.length_map]; exact hus, hB⟩, fun j r hj => ?_⟩
    rw [List.getElem?_map] at hj
    cases hr : tb[j]? with
    | none => rw [hr] at hj; cases hj
    | some r0 =>
      rw [hr] at hj
      cases hj
      exact hlo j r0 (lt_of_some hr) hr
  | succ d ih =>
    intro fu i S hi hf hI hA hc hinj hus hB hlo hhi
    obtain ⟨fu, rfl⟩ : ∃ m, fu = m + 1 := ⟨fu - 1, by omega⟩
    have hil : i < tb.length := by omega
    have hr := List.getElem?_eq_getElem hil
    have hrow := hhi i _ (by omega) hr
    obtain ⟨s, s1, s2, s3, -⟩ := hrow.2.1
    obtain ⟨S1, a1, a2, a3, a4, a5, a6, a7⟩ := hstep S i tb[i] s hI hA hc hil hr s1 s2 hB hrow
    rw [a1 fu]
    have x2 : gaI S1 242 = gaI S 242 := a3.aI (hAA 242 (by decide))
    have x3 : gaI S1 243 = gaI S 243 := a3.aI (hAA 243 (by decide))
    have x7 : gaI S1 247 = gaI S 247 := a3.aI (hAA 247 (by decide))
    have hne : ∀ j, j < tb.length → j ≠ i → gaI S 243 j ≠ nI s := fun j hj hji q => hji (hinj j i hj hil (q.trans s2.symm))
    obtain ⟨S2, b1, b2, b3, b4, b5⟩ := ih fu (i + 1) S1 (by omega) (by omega) (a3.imm hI) a2 (by rw [a3.fI hFF]; exact hc) (by rw [x3]; exact hinj) (by rw [x7, x3]; exact hus) a6 (fun j r hj hjr => by
        by_cases c : j = i
        · subst c
          rw [hr] at hjr
          cases hjr
          exact a7
        · exact (hlo j r (by omega) hjr).oth hs2 hn2 x2 x3 x7 (fun x hx => a4 x hx j c) (hne j (lt_of_some hjr) c) a5) (fun j r hj hjr => (hhi j r (by omega) hjr).oth hs hn x2 x3 x7 (fun x hx => a4 x hx j (by omega)) (hne j (lt_of_some hjr) (by omega)) a5)
    exact ⟨S2, b1, b2, a3.trans b3, fun k k1 k2 => (a5 k (by omega) k2).trans (b4 k k1 k2), b5⟩
/-! ===== a schema of the reference copied ===== -/
theorem copySchema_loop {a b : Nat} (ha : a < 3) (hb : b < 3) (hab : a ≠ b) {K : gS → Int32 → Option gS} : ∀ (d fu i : Nat) (S : gS), i + d = 8 → d < fu → Imm S → ∃ S1, l_X9_copySchema_2 237 (nI a) (nI b) fu S (nI i) K = K S1 (nI 8) ∧ RE [248, 249] [] S S1 ∧ ∀ x ∈ [248, 249], ∀ q, gaI S1 x q = if 8 * b + i ≤ q ∧ q < 8 * b + 8 then gaI S x (8 * a + (q - 8 * b)) else gaI S x q := by
  intro d
  induction d with
  | zero =>
    intro fu i S hi hf hI
    obtain ⟨fu, rfl⟩ : ∃ m, fu = m + 1 := ⟨fu - 1, by omega⟩
    have : i = 8 := by omega
    subst this
    rw [l_X9_copySchema_2, if_pos (by decide)]
    exact ⟨S, rfl, RE.refl, fun x _ q => by rw [if_neg (by omega)]⟩
  | succ d ih =>
    intro fu i S hi hf hI
    obtain ⟨fu, rfl⟩ : ∃ m, fu = m + 1 := ⟨fu - 1, by omega⟩
    have hR := hI.ref
    rw [l_X9_copySchema_2, show (8 : Int32) = nI 8 from rfl, if_neg (nI_ge (by omega) (by omega))]
    simp only [g_getI, g_getL, g_getR, g_putI, g_putZ, g_putL, g_putR, g_ldI, g_ldL, g_ldR, g_stI, g_stZ, g_stL, g_stR, g_alen, g_ldX, g_cVI, g_cVL, g_cVR, g_cVV, g_cI, g_cL, g_cN, g_lt, g_jn, g_cpI, g_cpL, g_z, Nat.reduceMul, Nat.reduceAdd, Option.bind_some, or_true, true_or, if_true, q_pI_fI, q_pI_fL, q_pI_fR, q_pI_aI, q_pI_aL, q_pI_aR, q_pI_K, q_pI_ln, q_pI_n, q_pI_sl, q_pI_is, q_pI_ck, q_pL_fI, q_pL_fL, q_pL_fR, q_pL_aI, q_pL_aL, q_pL_aR, q_pL_K, q_pL_ln, q_pL_n, q_pL_sl, q_pL_is, q_pL_ck, q_pR_fI, q_pR_fL, q_pR_fR, q_pR_aI, q_pR_aL, q_pR_aR, q_pR_K, q_pR_ln, q_pR_n, q_pR_sl, q_pR_is, q_pR_ck, q_rI_fI, q_rI_fL, q_rI_fR, q_rI_aI, q_rI_aL, q_rI_aR, q_rI_K, q_rI_ln, q_rI_n, q_rI_sl, q_rI_is, q_rI_ck, q_rL_fI, q_rL_fL, q_rL_fR, q_rL_aI, q_rL_aL, q_rL_aR, q_rL_K, q_rL_ln, q_rL_n, q_rL_sl, q_rL_is, q_rL_ck, q_rR_fI, q_rR_fL, q_rR_fR, q_rR_aI, q_rR_aL, q_rR_aR, q_rR_K, q_rR_ln, q_rR_n, q_rR_sl, q_rR_is, q_rR_ck, ck9 hR, rf_names hR, g_ck_t (ri_names hR), rl_names hR, rf_types hR, g_ck_t (ri_types hR), rl_types hR, pk_mul, nI_add, add1]
    simp (disch := omega) only [g_ix_t, nI_clamp, g_row, Nat.reduceEqDiff, reduceIte]
    generalize hS0 : g_rI (g_rI S 248 (upd (gaI S 248) (8 * b + i) (gaI S 248 (8 * a + i)))) 249 (upd (gaI S 249) (8 * b + i) (gaI S 249 (8 * a + i))) = S0
    have e0 : RE [248, 249] [] S S0 := by rw [← hS0]; exact (RE.rI (by decide)).trans (RE.rI (by decide))
    have g8 : ∀ x ∈ [248, 249], ∀ q, gaI S0 x q = if q = 8 * b + i then gaI S x (8 * a + i) else gaI S x q := by
      intro x hx q
      have : x = 248 ∨ x = 249 := by simpa using hx
      rw [← hS0]
      rcases this with rfl | rfl
      · simp only [q_pI_fI, q_pI_fL, q_pI_fR, q_pI_aI, q_pI_aL, q_pI_aR, q_pI_K, q_pI_ln, q_pI_n, q_pI_sl, q_pI_is, q_pI_ck, q_pL_fI, q_pL_fL, q_pL_fR, q_pL_aI, q_pL_aL, q_pL_aR, q_pL_K, q_pL_ln, q_pL_n, q_pL_sl, q_pL_is, q_pL_ck, q_pR_fI, q_pR_fL, q_pR_fR, q_pR_aI, q_pR_aL, q_pR_aR, q_pR_K, q_pR_ln, q_pR_n, q_pR_sl, q_pR_is, q_pR_ck, q_rI_fI, q_rI_fL, q_rI_fR, q_rI_aI, q_rI_aL, q_rI_aR, q_rI_K, q_rI_ln, q_rI_n, q_rI_sl, q_rI_is, q_rI_ck, q_rL_fI, q_rL_fL, q_rL_fR, q_rL_aI, q_rL_aL, q_rL_aR, q_rL_K, q_rL_ln, q_rL_n, q_rL_sl, q_rL_is, q_rL_ck, q_rR_fI, q_rR_fL, q_rR_fR, q_rR_aI, q_rR_aL, q_rR_aR, q_rR_K, q_rR_ln, q_rR_n, q_rR_sl, q_rR_is, q_rR_ck, g_row, Nat.reduceEqDiff, reduceIte]
        by_cases c : q = 8 * b + i
        · rw [if_pos c, c, pk_us]
        · rw [if_neg c, pk_un c]
      · simp only [q_pI_fI, q_pI_fL, q_pI_fR, q_pI_aI, q_pI_aL, q_pI_aR, q_pI_K, q_pI_ln, q_pI_n, q_pI_sl, q_pI_is, q_pI_ck, q_pL_fI, q_pL_fL, q_pL_fR, q_pL_aI, q_pL_aL, q_pL_aR, q_pL_K, q_pL_ln, q_pL_n, q_pL_sl, q_pL_is, q_pL_ck, q_pR_fI, q_pR_fL, q_pR_fR, q_pR_aI, q_pR_aL, q_pR_aR, q_pR_K, q_pR_ln, q_pR_n, q_pR_sl, q_pR_is, q_pR_ck, q_rI_fI, q_rI_fL, q_rI_fR, q_rI_aI, q_rI_aL, q_rI_aR, q_rI_K, q_rI_ln, q_rI_n, q_rI_sl, q_rI_is, q_rI_ck, q_rL_fI, q_rL_fL, q_rL_fR, q_rL_aI, q_rL_aL, q_rL_aR, q_rL_K, q_rL_ln, q_rL_n, q_rL_sl, q_rL_is, q_rL_ck, q_rR_fI, q_rR_fL, q_rR_fR, q_rR_aI, q_rR_aL, q_rR_aR, q_rR_K, q_rR_ln, q_rR_n, q_rR_sl, q_rR_is, q_rR_ck, g_row, Nat.reduceEqDiff, reduceIte]
        by_cases c : q = 8 * b + i
        · rw [if_pos c, c, pk_us]
        · rw [if_neg c, pk_un c]
    obtain ⟨S1, b1, b2, b3⟩ := ih fu (i + 1) S0 (by omega) (by omega) (e0.imm hI)
    refine ⟨S1, b1, e0.trans b2, fun x hx q => ?_⟩
    rw [b3 x hx q, g8 x hx, g8 x hx]
    by_cases c : 8 * b + (i + 1) ≤ q ∧ q < 8 * b + 8
    · rw [if_pos c, if_neg (by omega), if_pos (by omega)]
    · rw [if_neg c]
      by_cases c2 : q = 8 * b + i
      · rw [if_pos c2, if_pos (by omega), show 8 * a + (q - 8 * b) = 8 * a + i by omega]
      · rw [if_neg c2, if_neg (by omega)]
theorem copySchema_R {S : gS} {a b : Nat} (hI : Imm S) (ha : a < 3) (hb : b < 3) (hab : a ≠ b) : ∃ S1, f_X9_copySchema S 237 (nI a) (nI b) = some S1 ∧ RE [248, 249, 250] [] S S1 ∧ (∀ l, l.length ≤ 8 → SchR S a l → SchR S1 b l) ∧ ∀ j l, j < 3 → j ≠ b → l.length ≤ 8 → SchR S j l → SchR S1 j l := by
  obtain ⟨S0, b1, b2, b3⟩ := copySchema_loop ha hb hab (K := fun S9 _ => g_getR S9 9 13 237 fun a11 => g_getR S9 9 13 237 fun a12 => g_ldI S9 10 a12 (nI a) fun x13 => g_stI S9 a11 (nI b) x13 fun S14 => some S14) 8 100 0 S (by omega) (by omega) hI
  have hI0 := b2.imm hI
  have hR := hI0.ref
  refine ⟨g_rI S0 250 (upd (gaI S0 250) b (gaI S0 250 a)), ?_, (b2.mono (by decide) (by decide)).trans (RE.rI (by decide)), ?_, ?_⟩
  · refine b1.trans ?_
    simp only [g_getI, g_getL, g_getR, g_putI, g_putZ, g_putL, g_putR, g_ldI, g_ldL, g_ldR, g_stI, g_stZ, g_stL, g_stR, g_alen, g_ldX, g_cVI, g_cVL, g_cVR, g_cVV, g_cI, g_cL, g_cN, g_lt, g_jn, g_cpI, g_cpL, g_z, Nat.reduceMul, Nat.reduceAdd, Option.bind_some, or_true, true_or, if_true, ck9 hR, rf_columns hR, g_ck_t (ri_columns hR), rl_columns hR]
    simp (disch := omega) only [g_ix_t, nI_clamp]
  · intro l hl h
    refine ⟨?_, fun i c hc => ?_⟩
    · rw [q_rI_aI, g_row_s, pk_us, b2.aI (by decide)]; exact h.1
    · have hi := lt_of_some hc
      rw [q_rI_aI, g_row_n (by decide), g_row_n (by decide), b3 248 (by decide), b3 249 (by decide), if_pos (by omega), if_pos (by omega), show 8 * a + (8 * b + i - 8 * b) = 8 * a + i by omega]
      exact h.2 i c hc
  · intro j l hj hjb hl h
    refine ⟨?_, fun i c hc => ?_⟩
    · rw [q_rI_aI, g_row_s, pk_un hjb, b2.aI (by decide)]; exact h.1
    · have hi := lt_of_some hc
      rw [q_rI_aI, g_row_n (by decide), g_row_n (by decide), b3 248 (by decide), b3 249 (by decide), if_neg (by omega), if_neg (by omega)]
      exact h.2 i c hc
/-! ===== finish and rollback of the reference ===== -/
/-- the beginning that finish and rollback share -/
theorem endR {S : gS} {m : mS} (h : RR S m) (k : mOk m) : ∃ S1, RF 605 610 S S1 ∧ RR S1 (wDk m (mEnd m).2) ∧ ∀ F : gS → Option (Int32 × gS), (g_putI S 9 30 237 (0 : Int32) fun S1 => g_getI S1 9 32 237 fun x2 => if x2 = 0 then (g_getI S1 9 15 237 fun x3 => if x3 = 0 then (some ((-2 : Int32), S1)) else (g_cVI S1 9 237 (f_X9_act S1 237) fun x5 S4 => if x5 = 0 then (some ((-9 : Int32), S4)) else F S4)) else (some ((-8 : Int32), S1))) = if (mEnd m).1 = 0 then F S1 else some ((mEnd m).1, S1) := by
  obtain ⟨hI, hD⟩ := h.dk
  have kd := k.dk
  have a3 : RF 605 610 S (g_pI S 606 237 0) := RF.pI (by decide) (by decide)
  have a4 : DiskR (g_pI S 606 237 0) (mStart m.1) := by
    obtain ⟨d1, d2, d3, d4, d5⟩ := hD
    simp [DiskR, q_pI_fI, q_pI_fL, q_pI_fR, q_pI_aI, q_pI_aL, q_pI_aR, q_pI_K, q_pI_ln, q_pI_n, q_pI_sl, q_pI_is, q_pI_ck, q_pL_fI, q_pL_fL, q_pL_fR, q_pL_aI, q_pL_aL, q_pL_aR, q_pL_K, q_pL_ln, q_pL_n, q_pL_sl, q_pL_is, q_pL_ck, q_pR_fI, q_pR_fL, q_pR_fR, q_pR_aI, q_pR_aL, q_pR_aR, q_pR_K, q_pR_ln, q_pR_n, q_pR_sl, q_pR_is, q_pR_ck, q_rI_fI, q_rI_fL, q_rI_fR, q_rI_aI, q_rI_aL, q_rI_aR, q_rI_K, q_rI_ln, q_rI_n, q_rI_sl, q_rI_is, q_rI_ck, q_rL_fI, q_rL_fL, q_rL_fR, q_rL_aI, q_rL_aL, q_rL_aR, q_rL_K, q_rL_ln, q_rL_n, q_rL_sl, q_rL_is, q_rL_ck, q_rR_fI, q_rR_fL, q_rR_fR, q_rR_aI, q_rR_aL, q_rR_aR, q_rR_K, q_rR_ln, q_rR_n, q_rR_sl, q_rR_is, q_rR_ck, g_up, d1, d2, d3, d4, mStart]
  have h1 := h.disk a3 a4
  have ks := mStart_ok kd
  simp only [g_putI, g_getI, g_cVI, Nat.reduceMul, Nat.reduceAdd, ck9 hI.ref]
  generalize g_pI S 606 237 0 = S1 at a3 a4 h1 ⊢
  have hI1 := a3.imm hI
  have hR1 := hI1.ref
  have run1 : gfI S1 591 237 = (if m.2.1.2 = true then 1 else 0) := h1.tb.2
  simp only [ck9 hR1, a4.1, run1, b01]
  unfold mEnd
  show ∃ S1, _ ∧ _ ∧ ∀ F, (if m.1.1 = 0 then _ else _) = _
  by_cases e1 : m.1.1 = 0
  · simp only [if_pos e1]
    by_cases e2 : m.2.1.2 = true
    · simp only [if_pos e2]
      obtain ⟨S2, b1, b3, b4⟩ := act_R hI1 ks a4
      have b3' : RF 605 610 S S2 := a3.trans (b3.mono (by decide) (by decide))
      simp only [b1, Option.bind_some]
      by_cases e3 : (mAct (mStart m.1)).1 = true
      · simp only [if_pos e3]
        refine ⟨S2, b3', h.disk b3' b4, fun F => ?_⟩
        rw [e3, show b32 true = 1 from rfl, if_neg (show ¬ (1 : Int32) = 0 by decide), if_pos trivial]
      · have e4 : (mAct (mStart m.1)).1 = false := by simpa using e3
        simp only [if_neg e3]
        refine ⟨S2, b3', h.disk b3' b4, fun F => ?_⟩
        rw [e4, show b32 false = 0 from rfl, if_pos rfl, if_neg (by decide)]
    · simp only [if_neg e2]
      exact ⟨S1, a3, h1, fun F => by rw [if_neg (by decide)]⟩
  · simp only [if_neg e1]
    exact ⟨S1, a3, h1, fun F => by rw [if_neg (by decide)]⟩
theorem finish_R {S : gS} {m : mS} (h : RR S m) (k : mOk m) : COp S 237 265 (f_X9_finish S 237) (mFinish m).1 (fun S1 => RR S1 (mFinish m).2) := by
  obtain ⟨S1, a1, a2, a3⟩ := endR h k
  have hI := h.dk.1
  have hI1 := a1.imm hI
  have k2 := k.disk (mEnd_ok k)
  unfold f_X9_finish
  rw [a3]
  obtain ⟨dk, vr, pl, mg, sc, nx, dr, sn, tb⟩ := m
  unfold mFinish
  dsimp only
  by_cases e1 : (mEnd (dk, vr, pl, mg, sc, nx, dr, sn, tb)).1 = 0
  · have run : vr.2 = true := mEnd_run e1
    rw [if_pos e1]
    simp only [if_pos e1]
    generalize (mEnd (dk, vr, pl, mg, sc, nx, dr, sn, tb)).2 = d at a2 k2
    obtain ⟨-, h2, h3, h4, h5, h6, h7, h8, h9, h10⟩ := a2
    obtain ⟨k1, k2, k3, k4, k5, k6, k7, k8⟩ := k2
    obtain ⟨g1, g2, g3⟩ := h10 run
    obtain ⟨kg1, kg2, -⟩ := k4 run
    obtain ⟨S2, b1, b2, b3, b4⟩ := copySchema_R (S := S1) (a := 1) (b := 0) hI1 (by decide) (by decide) (by decide)
    unfold g_cVV
    rw [ck9 hI1.ref, show (1 : Int32) = nI 1 from rfl, show (0 : Int32) = nI 0 from rfl, b1, Option.bind_some]
    have hI2 := b2.imm hI1
    have ws2 : ∀ k, SlotEq S1 S2 k := fun k => b2.slot (by decide) (by decide) (by decide)
    rw [run] at h9 k6
    have h9' : TableR S2 tb sc nx true := h9.e b2 (by decide) (by decide) k3.1 (fun _ => kg2.1) (fun k _ => ws2 k)
    obtain ⟨t1, t2, ⟨t3, t4⟩, t5⟩ := h9'
    obtain ⟨S3, d1, -, d2, d3, d4⟩ := rrows_loop (tb := tb) (sc := sc) (nx := nx) (sc2 := nx) (nx2 := nx) (run := true) (run2 := false) (g := gFin) (AA := [238, 239, 240, 241, 244]) (FF := []) (Amb := fun _ => True) (loop := fun fu S i => l_X9_finish_43 237 fu S i (fun S22 _ => g_putZ S22 9 15 237 (0 : Int32) fun S24 => g_getI S24 9 14 237 fun x25 => g_putI S24 9 14 237 (x25 + (1 : Int32)) fun S26 => g_getI S26 9 14 237 fun x27 => some (x27, S26))) (K := fun S22 _ => g_putZ S22 9 15 237 (0 : Int32) fun S24 => g_getI S24 9 14 237 fun x25 => g_putI S24 9 14 237 (x25 + (1 : Int32)) fun S26 => g_getI S26 9 14 237 fun x27 => some (x27, S26)) k5 k3.1 (fun _ => kg2.1) kg2.1 (fun q => by cases q) (by decide) (by decide) (fun S i r s hI _ hc hi hir hs hsi hB hrow => by
        have hR := hI.ref
        obtain ⟨r1, ⟨s', r2, r3, r4, r5, r6⟩, r7⟩ := hrow
        have : s' = s := by
          rw [hsi] at r3
          exact ((nI_eq (by omega) (by omega)).mp r3).symm
        subst this
        rw [if_pos rfl] at r7
        obtain ⟨S2, b1, b2, b3, b4⟩ := copyForm_V (S := S) (s := 16 * s' + 8) (d := 16 * s') hI (by omega) (by omega) (by omega)
        have hI2 := b2.imm hI
        have hR2 := hI2.ref
        have hl : r.2.1 = 0 ∨ r.2.1 = 1 := by
          rcases (k6 r (List.mem_of_getElem? hir)).2 with q | q | q
          · exact Or.inl q
          · exact Or.inr q
          · exact absurd q.1 (by decide)
        have h245 : gaI S2 245 i = r.2.1 := by rw [b2.aI (by decide)]; exact r7.1
        generalize hx : (if r.2.1 = 1 then (1 : Int32) else 2) = x
        have e : RE [238, 239, 240, 241, 244] [] S (g_rI S2 244 (upd (gaI S2 244) i x)) := (b2.mono (by decide) (by decide)).trans (RE.rI (by decide))
        have sl : ∀ k, SlotEq S2 (g_rI S2 244 (upd (gaI S2 244) i x)) k := fun k => ⟨rfl, by simp only [q_pI_fI, q_pI_fL, q_pI_fR, q_pI_aI, q_pI_aL, q_pI_aR, q_pI_K, q_pI_ln, q_pI_n, q_pI_sl, q_pI_is, q_pI_ck, q_pL_fI, q_pL_fL, q_pL_fR, q_pL_aI, q_pL_aL, q_pL_aR, q_pL_K, q_pL_ln, q_pL_n, q_pL_sl, q_pL_is, q_pL_ck, q_pR_fI, q_pR_fL, q_pR_fR, q_pR_aI, q_pR_aL, q_pR_aR, q_pR_K, q_pR_ln, q_pR_n, q_pR_sl, q_pR_is, q_pR_ck, q_rI_fI, q_rI_fL, q_rI_fR, q_rI_aI, q_rI_aL, q_rI_aR, q_rI_K, q_rI_ln, q_rI_n, q_rI_sl, q_rI_is, q_rI_ck, q_rL_fI, q_rL_fL, q_rL_fR, q_rL_aI, q_rL_aL, q_rL_aR, q_rL_K, q_rL_ln, q_rL_n, q_rL_sl, q_rL_is, q_rL_ck, q_rR_fI, q_rR_fL, q_rR_fR, q_rR_aI, q_rR_aL, q_rR_aR, q_rR_K, q_rR_ln, q_rR_n, q_rR_sl, q_rR_is, q_rR_ck, g_row, Nat.reduceEqDiff, reduceIte], fun _ _ => by simp only [q_pI_fI, q_pI_fL, q_pI_fR, q_pI_aI, q_pI_aL, q_pI_aR, q_pI_K, q_pI_ln, q_pI_n, q_pI_sl, q_pI_is, q_pI_ck, q_pL_fI, q_pL_fL, q_pL_fR, q_pL_aI, q_pL_aL, q_pL_aR, q_pL_K, q_pL_ln, q_pL_n, q_pL_sl, q_pL_is, q_pL_ck, q_pR_fI, q_pR_fL, q_pR_fR, q_pR_aI, q_pR_aL, q_pR_aR, q_pR_K, q_pR_ln, q_pR_n, q_pR_sl, q_pR_is, q_pR_ck, q_rI_fI, q_rI_fL, q_rI_fR, q_rI_aI, q_rI_aL, q_rI_aR, q_rI_K, q_rI_ln, q_rI_n, q_rI_sl, q_rI_is, q_rI_ck, q_rL_fI, q_rL_fL, q_rL_fR, q_rL_aI, q_rL_aL, q_rL_aR, q_rL_K, q_rL_ln, q_rL_n, q_rL_sl, q_rL_is, q_rL_ck, q_rR_fI, q_rR_fL, q_rR_fR, q_rR_aI, q_rR_aL, q_rR_aR, q_rR_K, q_rR_ln, q_rR_n, q_rR_sl, q_rR_is, q_rR_ck, g_row, Nat.reduceEqDiff, reduceIte]⟩
        refine ⟨g_rI S2 244 (upd (gaI S2 244) i x), fun fu => ?_, trivial, e, ?_, ?_, ?_, ?_⟩
        · show l_X9_finish_43 237 (fu + 1) S (nI i) _ = _
          rw [l_X9_finish_43]
          simp only [g_getI, g_getL, g_getR, g_putI, g_putZ, g_putL, g_putR, g_ldI, g_ldL, g_ldR, g_stI, g_stZ, g_stL, g_stR, g_alen, g_ldX, g_cVI, g_cVL, g_cVR, g_cVV, g_cI, g_cL, g_cN, g_lt, g_jn, g_cpI, g_cpL, g_z, Nat.reduceMul, Nat.reduceAdd, Option.bind_some, or_true, true_or, if_true, ck9 hR, hc]
          rw [if_neg (nI_ge hi (by omega)), show (1 : Int32) = nI 1 from rfl, form_R hI (by omega) hsi, Option.bind_some]
          dsimp only
          rw [ck9 hR, show (0 : Int32) = nI 0 from rfl, form_R hI (by omega) hsi, Option.bind_some]
          dsimp only
          rw [ck9 hR, show 16 * s' + 8 * 1 = 16 * s' + 8 from rfl, show 16 * s' + 8 * 0 = 16 * s' from rfl, b1, Option.bind_some, ck9 hR2, rf_sorts hR2, Option.bind_some, ck9 hR2, rf_lags hR2, Option.bind_some, g_ck_t (ri_lags hR2), rl_lags hR2, g_ix_t (by omega) (by decide), nI_clamp (by omega), h245]
          simp only [g_ck_t (ri_sorts hR2), rl_sorts hR2, nI_add]
          rw [g_ix_t (by omega) (by decide), g_ix_t (by omega) (by decide)]
          rcases hl with q | q
          · rw [q, if_neg (by decide)] at hx
            rw [q, if_pos (by decide), ← hx]
          · rw [q, if_pos rfl] at hx
            rw [q, if_neg (by decide), ← hx]
            rfl
        · intro x hx j hj
          have : x = 244 ∨ x = 245 ∨ x = 246 := by simpa using hx
          rcases this with rfl | rfl | rfl
          · simp only [q_pI_fI, q_pI_fL, q_pI_fR, q_pI_aI, q_pI_aL, q_pI_aR, q_pI_K, q_pI_ln, q_pI_n, q_pI_sl, q_pI_is, q_pI_ck, q_pL_fI, q_pL_fL, q_pL_fR, q_pL_aI, q_pL_aL, q_pL_aR, q_pL_K, q_pL_ln, q_pL_n, q_pL_sl, q_pL_is, q_pL_ck, q_pR_fI, q_pR_fL, q_pR_fR, q_pR_aI, q_pR_aL, q_pR_aR, q_pR_K, q_pR_ln, q_pR_n, q_pR_sl, q_pR_is, q_pR_ck, q_rI_fI, q_rI_fL, q_rI_fR, q_rI_aI, q_rI_aL, q_rI_aR, q_rI_K, q_rI_ln, q_rI_n, q_rI_sl, q_rI_is, q_rI_ck, q_rL_fI, q_rL_fL, q_rL_fR, q_rL_aI, q_rL_aL, q_rL_aR, q_rL_K, q_rL_ln, q_rL_n, q_rL_sl, q_rL_is, q_rL_ck, q_rR_fI, q_rR_fL, q_rR_fR, q_rR_aI, q_rR_aL, q_rR_aR, q_rR_K, q_rR_ln, q_rR_n, q_rR_sl, q_rR_is, q_rR_ck, g_row, Nat.reduceEqDiff, reduceIte]; rw [pk_un hj, b2.aI (by decide)]
          · simp only [q_pI_fI, q_pI_fL, q_pI_fR, q_pI_aI, q_pI_aL, q_pI_aR, q_pI_K, q_pI_ln, q_pI_n, q_pI_sl, q_pI_is, q_pI_ck, q_pL_fI, q_pL_fL, q_pL_fR, q_pL_aI, q_pL_aL, q_pL_aR, q_pL_K, q_pL_ln, q_pL_n, q_pL_sl, q_pL_is, q_pL_ck, q_pR_fI, q_pR_fL, q_pR_fR, q_pR_aI, q_pR_aL, q_pR_aR, q_pR_K, q_pR_ln, q_pR_n, q_pR_sl, q_pR_is, q_pR_ck, q_rI_fI, q_rI_fL, q_rI_fR, q_rI_aI, q_rI_aL, q_rI_aR, q_rI_K, q_rI_ln, q_rI_n, q_rI_sl, q_rI_is, q_rI_ck, q_rL_fI, q_rL_fL, q_rL_fR, q_rL_aI, q_rL_aL, q_rL_aR, q_rL_K, q_rL_ln, q_rL_n, q_rL_sl, q_rL_is, q_rL_ck, q_rR_fI, q_rR_fL, q_rR_fR, q_rR_aI, q_rR_aL, q_rR_aR, q_rR_K, q_rR_ln, q_rR_n, q_rR_sl, q_rR_is, q_rR_ck, g_row, Nat.reduceEqDiff, reduceIte]; rw [b2.aI (by decide)]
          · simp only [q_pI_fI, q_pI_fL, q_pI_fR, q_pI_aI, q_pI_aL, q_pI_aR, q_pI_K, q_pI_ln, q_pI_n, q_pI_sl, q_pI_is, q_pI_ck, q_pL_fI, q_pL_fL, q_pL_fR, q_pL_aI, q_pL_aL, q_pL_aR, q_pL_K, q_pL_ln, q_pL_n, q_pL_sl, q_pL_is, q_pL_ck, q_pR_fI, q_pR_fL, q_pR_fR, q_pR_aI, q_pR_aL, q_pR_aR, q_pR_K, q_pR_ln, q_pR_n, q_pR_sl, q_pR_is, q_pR_ck, q_rI_fI, q_rI_fL, q_rI_fR, q_rI_aI, q_rI_aL, q_rI_aR, q_rI_K, q_rI_ln, q_rI_n, q_rI_sl, q_rI_is, q_rI_ck, q_rL_fI, q_rL_fL, q_rL_fR, q_rL_aI, q_rL_aL, q_rL_aR, q_rL_K, q_rL_ln, q_rL_n, q_rL_sl, q_rL_is, q_rL_ck, q_rR_fI, q_rR_fL, q_rR_fR, q_rR_aI, q_rR_aL, q_rR_aR, q_rR_K, q_rR_ln, q_rR_n, q_rR_sl, q_rR_is, q_rR_ck, g_row, Nat.reduceEqDiff, reduceIte]; rw [b2.aI (by decide)]
        · exact fun k hk _ => (b3 k (by omega)).trans (sl k)
        · intro j
          rw [e.aI (by decide), e.aI (by decide)]
          exact hB j
        · refine ⟨?_, ⟨s', hs, ?_, ?_, ?_, fun q => by cases q⟩, ?_⟩
          · rw [e.aI (by decide)]; exact r1
          · rw [e.aI (by decide)]; exact hsi
          · rw [e.aI (by decide)]; exact r4
          · exact ((r6 rfl).cp (by unfold tys; rw [List.length_map]; exact kg2.1) b4).slots fun k _ _ => sl k
          · rw [if_neg (by decide), q_rI_aI, g_row_s, pk_us]; exact hx.symm) (fun fu S i hI hc hi hi2 => by
        have hR := hI.ref
        show l_X9_finish_43 237 (fu + 1) S (nI i) _ = _
        rw [l_X9_finish_43]
        simp only [g_getI, Nat.reduceMul, Nat.reduceAdd, ck9 hR, hc]
        rw [if_pos (nI_le hi (by omega))]) tb.length 100 0 S2 (by omega) (by omega) hI2 trivial t1 t2 t3 t4 (fun j r hj => by omega) (fun j r _ hjr => t5 j r hjr)
    have hI3 := d2.imm hI2
    have e23 : RE [238, 239, 240, 241, 244, 248, 249, 250] [] S1 S3 := (b2.mono (by decide) (by decide)).trans (d2.mono (by decide) (by decide))
    have v3 : gfI S3 590 237 = vr.1 := by rw [e23.fI (by decide)]; exact h3
    have e : RE [238, 239, 240, 241, 244, 248, 249, 250] [590, 591] S1 (g_pI (g_pI S3 591 237 0) 590 237 (vr.1 + 1)) := ((e23.mono (by decide) (by decide)).trans (RE.pI (by decide))).trans (RE.pI (by decide))
    refine COp.pre (S1 := S1) a1.fr ⟨_, ?_, e.imm hI1, e.fr (by decide), e.imm hI1, h2.e e (by decide), ?_, ?_, ⟨(e.fI (by decide)).trans h5.1, h5.2.e e (by decide)⟩, ?_, h7.e e (by decide), ?_, ?_, fun q => by cases q⟩
    · refine d1.trans ?_
      simp only [g_getI, g_getL, g_getR, g_putI, g_putZ, g_putL, g_putR, g_ldI, g_ldL, g_ldR, g_stI, g_stZ, g_stL, g_stR, g_alen, g_ldX, g_cVI, g_cVL, g_cVR, g_cVV, g_cI, g_cL, g_cN, g_lt, g_jn, g_cpI, g_cpL, g_z, Nat.reduceMul, Nat.reduceAdd, Option.bind_some, or_true, true_or, if_true, q_pI_fI, q_pI_fL, q_pI_fR, q_pI_aI, q_pI_aL, q_pI_aR, q_pI_K, q_pI_ln, q_pI_n, q_pI_sl, q_pI_is, q_pI_ck, q_pL_fI, q_pL_fL, q_pL_fR, q_pL_aI, q_pL_aL, q_pL_aR, q_pL_K, q_pL_ln, q_pL_n, q_pL_sl, q_pL_is, q_pL_ck, q_pR_fI, q_pR_fL, q_pR_fR, q_pR_aI, q_pR_aL, q_pR_aR, q_pR_K, q_pR_ln, q_pR_n, q_pR_sl, q_pR_is, q_pR_ck, q_rI_fI, q_rI_fL, q_rI_fR, q_rI_aI, q_rI_aL, q_rI_aR, q_rI_K, q_rI_ln, q_rI_n, q_rI_sl, q_rI_is, q_rI_ck, q_rL_fI, q_rL_fL, q_rL_fR, q_rL_aI, q_rL_aL, q_rL_aR, q_rL_K, q_rL_ln, q_rL_n, q_rL_sl, q_rL_is, q_rL_ck, q_rR_fI, q_rR_fL, q_rR_fR, q_rR_aI, q_rR_aL, q_rR_aR, q_rR_K, q_rR_ln, q_rR_n, q_rR_sl, q_rR_is, q_rR_ck, ck9 hI3.ref]
      rw [g_up_s, g_up_f (show (590 : Nat) ≠ 591 by decide), v3]
      rfl
    · simp only [q_pI_fI, q_pI_fL, q_pI_fR, q_pI_aI, q_pI_aL, q_pI_aR, q_pI_K, q_pI_ln, q_pI_n, q_pI_sl, q_pI_is, q_pI_ck, q_pL_fI, q_pL_fL, q_pL_fR, q_pL_aI, q_pL_aL, q_pL_aR, q_pL_K, q_pL_ln, q_pL_n, q_pL_sl, q_pL_is, q_pL_ck, q_pR_fI, q_pR_fL, q_pR_fR, q_pR_aI, q_pR_aL, q_pR_aR, q_pR_K, q_pR_ln, q_pR_n, q_pR_sl, q_pR_is, q_pR_ck, q_rI_fI, q_rI_fL, q_rI_fR, q_rI_aI, q_rI_aL, q_rI_aR, q_rI_K, q_rI_ln, q_rI_n, q_rI_sl, q_rI_is, q_rI_ck, q_rL_fI, q_rL_fL, q_rL_fR, q_rL_aI, q_rL_aL, q_rL_aR, q_rL_K, q_rL_ln, q_rL_n, q_rL_sl, q_rL_is, q_rL_ck, q_rR_fI, q_rR_fL, q_rR_fR, q_rR_aI, q_rR_aL, q_rR_aR, q_rR_K, q_rR_ln, q_rR_n, q_rR_sl, q_rR_is, q_rR_ck]; rw [g_up_s]; rfl
    · simp only [q_pI_fI, q_pI_fL, q_pI_fR, q_pI_aI, q_pI_aL, q_pI_aR, q_pI_K, q_pI_ln, q_pI_n, q_pI_sl, q_pI_is, q_pI_ck, q_pL_fI, q_pL_fL, q_pL_fR, q_pL_aI, q_pL_aL, q_pL_aR, q_pL_K, q_pL_ln, q_pL_n, q_pL_sl, q_pL_is, q_pL_ck, q_pR_fI, q_pR_fL, q_pR_fR, q_pR_aI, q_pR_aL, q_pR_aR, q_pR_K, q_pR_ln, q_pR_n, q_pR_sl, q_pR_is, q_pR_ck, q_rI_fI, q_rI_fL, q_rI_fR, q_rI_aI, q_rI_aL, q_rI_aR, q_rI_K, q_rI_ln, q_rI_n, q_rI_sl, q_rI_is, q_rI_ck, q_rL_fI, q_rL_fL, q_rL_fR, q_rL_aI, q_rL_aL, q_rL_aR, q_rL_K, q_rL_ln, q_rL_n, q_rL_sl, q_rL_is, q_rL_ck, q_rR_fI, q_rR_fL, q_rR_fR, q_rR_aI, q_rR_aL, q_rR_aR, q_rR_K, q_rR_ln, q_rR_n, q_rR_sl, q_rR_is, q_rR_ck]; rw [g_up_f (by decide), g_up_s]; rfl
    · exact (b3 nx kg2.1 g1).e (show RE [238, 239, 240, 241, 244] [590, 591] S2 _ from ((d2.mono (by decide) (by decide)).trans (RE.pI (by decide))).trans (RE.pI (by decide))) (by decide)
    · exact h8.e e (by decide) (by decide) k8 fun k q1 q2 => ((ws2 k).trans (d3 k q1 q2)).trans ⟨rfl, rfl, fun _ _ => rfl⟩
    · exact d4.e (show RE [] [590, 591] S3 _ from (RE.pI (by decide)).trans (RE.pI (by decide))) (by decide) (by decide) kg2.1 (fun q => by cases q) fun k _ => ⟨rfl, rfl, fun _ _ => rfl⟩
  · rw [if_neg e1]
    simp only [if_neg e1]
    exact ⟨S1, rfl, hI1, a1.fr, a2⟩
theorem rollback_R {S : gS} {m : mS} (h : RR S m) (k : mOk m) : COp S 237 265 (f_X9_rollback S 237) (mRollback m).1 (fun S1 => RR S1 (mRollback m).2) := by
  obtain ⟨S1, a1, a2, a3⟩ := endR h k
  have hI := h.dk.1
  have hI1 := a1.imm hI
  have k2 := k.disk (mEnd_ok k)
  unfold f_X9_rollback
  rw [a3]
  obtain ⟨dk, vr, pl, mg, sc, nx, dr, sn, tb⟩ := m
  unfold mRollback
  dsimp only
  by_cases e1 : (mEnd (dk, vr, pl, mg, sc, nx, dr, sn, tb)).1 = 0
  · have run : vr.2 = true := mEnd_run e1
    rw [if_pos e1]
    simp only [if_pos e1]
    generalize (mEnd (dk, vr, pl, mg, sc, nx, dr, sn, tb)).2 = d at a2 k2
    obtain ⟨-, h2, h3, h4, h5, h6, h7, h8, h9, h10⟩ := a2
    obtain ⟨k1, k2, k3, k4, k5, k6, k7, k8⟩ := k2
    obtain ⟨kg1, kg2, -⟩ := k4 run
    rw [run] at h9 k6
    obtain ⟨t1, t2, ⟨t3, t4⟩, t5⟩ := h9
    obtain ⟨S3, d1, -, d2, d3, d4⟩ := rrows_loop (tb := tb) (sc := sc) (nx := nx) (sc2 := sc) (nx2 := nx) (run := true) (run2 := false) (g := gRol) (AA := [244]) (FF := []) (Amb := fun _ => True) (loop := fun fu S i => l_X9_rollback_37 237 fu S i (fun S16 _ => g_putZ S16 9 15 237 (0 : Int32) fun S18 => g_getI S18 9 14 237 fun x19 => some (x19, S18))) (K := fun S16 _ => g_putZ S16 9 15 237 (0 : Int32) fun S18 => g_getI S18 9 14 237 fun x19 => some (x19, S18)) k5 k3.1 (fun _ => kg2.1) k3.1 (fun q => by cases q) (by decide) (by decide) (fun S i r s hI _ hc hi hir hs hsi hB hrow => by
        have hR := hI.ref
        obtain ⟨r1, ⟨s', r2, r3, r4, r5, r6⟩, r7⟩ := hrow
        have : s' = s := by
          rw [hsi] at r3
          exact ((nI_eq (by omega) (by omega)).mp r3).symm
        subst this
        rw [if_pos rfl] at r7
        have hl : r.2.2.1 = 0 ∨ r.2.2.1 = 1 := (k6 r (List.mem_of_getElem? hir)).1
        generalize hx : (if r.2.2.1 = 0 then (0 : Int32) else 1) = x
        have e : RE [244] [] S (g_rI S 244 (upd (gaI S 244) i x)) := RE.rI (by decide)
        have sl : ∀ k, SlotEq S (g_rI S 244 (upd (gaI S 244) i x)) k := fun k => ⟨rfl, by simp only [q_pI_fI, q_pI_fL, q_pI_fR, q_pI_aI, q_pI_aL, q_pI_aR, q_pI_K, q_pI_ln, q_pI_n, q_pI_sl, q_pI_is, q_pI_ck, q_pL_fI, q_pL_fL, q_pL_fR, q_pL_aI, q_pL_aL, q_pL_aR, q_pL_K, q_pL_ln, q_pL_n, q_pL_sl, q_pL_is, q_pL_ck, q_pR_fI, q_pR_fL, q_pR_fR, q_pR_aI, q_pR_aL, q_pR_aR, q_pR_K, q_pR_ln, q_pR_n, q_pR_sl, q_pR_is, q_pR_ck, q_rI_fI, q_rI_fL, q_rI_fR, q_rI_aI, q_rI_aL, q_rI_aR, q_rI_K, q_rI_ln, q_rI_n, q_rI_sl, q_rI_is, q_rI_ck, q_rL_fI, q_rL_fL, q_rL_fR, q_rL_aI, q_rL_aL, q_rL_aR, q_rL_K, q_rL_ln, q_rL_n, q_rL_sl, q_rL_is, q_rL_ck, q_rR_fI, q_rR_fL, q_rR_fR, q_rR_aI, q_rR_aL, q_rR_aR, q_rR_K, q_rR_ln, q_rR_n, q_rR_sl, q_rR_is, q_rR_ck, g_row, Nat.reduceEqDiff, reduceIte], fun _ _ => by simp only [q_pI_fI, q_pI_fL, q_pI_fR, q_pI_aI, q_pI_aL, q_pI_aR, q_pI_K, q_pI_ln, q_pI_n, q_pI_sl, q_pI_is, q_pI_ck, q_pL_fI, q_pL_fL, q_pL_fR, q_pL_aI, q_pL_aL, q_pL_aR, q_pL_K, q_pL_ln, q_pL_n, q_pL_sl, q_pL_is, q_pL_ck, q_pR_fI, q_pR_fL, q_pR_fR, q_pR_aI, q_pR_aL, q_pR_aR, q_pR_K, q_pR_ln, q_pR_n, q_pR_sl, q_pR_is, q_pR_ck, q_rI_fI, q_rI_fL, q_rI_fR, q_rI_aI, q_rI_aL, q_rI_aR, q_rI_K, q_rI_ln, q_rI_n, q_rI_sl, q_rI_is, q_rI_ck, q_rL_fI, q_rL_fL, q_rL_fR, q_rL_aI, q_rL_aL, q_rL_aR, q_rL_K, q_rL_ln, q_rL_n, q_rL_sl, q_rL_is, q_rL_ck, q_rR_fI, q_rR_fL, q_rR_fR, q_rR_aI, q_rR_aL, q_rR_aR, q_rR_K, q_rR_ln, q_rR_n, q_rR_sl, q_rR_is, q_rR_ck, g_row, Nat.reduceEqDiff, reduceIte]⟩
        refine ⟨g_rI S 244 (upd (gaI S 244) i x), fun fu => ?_, trivial, e, ?_, fun k _ _ => sl k, ?_, ?_⟩
        · show l_X9_rollback_37 237 (fu + 1) S (nI i) _ = _
          rw [l_X9_rollback_37]
          simp only [g_getI, g_getL, g_getR, g_putI, g_putZ, g_putL, g_putR, g_ldI, g_ldL, g_ldR, g_stI, g_stZ, g_stL, g_stR, g_alen, g_ldX, g_cVI, g_cVL, g_cVR, g_cVV, g_cI, g_cL, g_cN, g_lt, g_jn, g_cpI, g_cpL, g_z, Nat.reduceMul, Nat.reduceAdd, Option.bind_some, or_true, true_or, if_true, ck9 hR, hc, rf_sorts hR, rf_wasBehind hR, g_ck_t (ri_wasBehind hR), rl_wasBehind hR, g_ck_t (ri_sorts hR), rl_sorts hR]
          rw [if_neg (nI_ge hi (by omega)), g_ix_t (by omega) (by decide), nI_clamp (by omega), r7.2.1, g_ix_t (by omega) (by decide), g_ix_t (by omega) (by decide), add1]
          rcases hl with q | q
          · rw [q, if_pos rfl] at hx
            rw [q, if_pos rfl, ← hx]
          · rw [q, if_neg (by decide)] at hx
            rw [q, if_neg (by decide), ← hx]
        · intro x hx j hj
          have : x = 244 ∨ x = 245 ∨ x = 246 := by simpa using hx
          rcases this with rfl | rfl | rfl
          · simp only [q_pI_fI, q_pI_fL, q_pI_fR, q_pI_aI, q_pI_aL, q_pI_aR, q_pI_K, q_pI_ln, q_pI_n, q_pI_sl, q_pI_is, q_pI_ck, q_pL_fI, q_pL_fL, q_pL_fR, q_pL_aI, q_pL_aL, q_pL_aR, q_pL_K, q_pL_ln, q_pL_n, q_pL_sl, q_pL_is, q_pL_ck, q_pR_fI, q_pR_fL, q_pR_fR, q_pR_aI, q_pR_aL, q_pR_aR, q_pR_K, q_pR_ln, q_pR_n, q_pR_sl, q_pR_is, q_pR_ck, q_rI_fI, q_rI_fL, q_rI_fR, q_rI_aI, q_rI_aL, q_rI_aR, q_rI_K, q_rI_ln, q_rI_n, q_rI_sl, q_rI_is, q_rI_ck, q_rL_fI, q_rL_fL, q_rL_fR, q_rL_aI, q_rL_aL, q_rL_aR, q_rL_K, q_rL_ln, q_rL_n, q_rL_sl, q_rL_is, q_rL_ck, q_rR_fI, q_rR_fL, q_rR_fR, q_rR_aI, q_rR_aL, q_rR_aR, q_rR_K, q_rR_ln, q_rR_n, q_rR_sl, q_rR_is, q_rR_ck, g_row, Nat.reduceEqDiff, reduceIte]; rw [pk_un hj]
          · simp only [q_pI_fI, q_pI_fL, q_pI_fR, q_pI_aI, q_pI_aL, q_pI_aR, q_pI_K, q_pI_ln, q_pI_n, q_pI_sl, q_pI_is, q_pI_ck, q_pL_fI, q_pL_fL, q_pL_fR, q_pL_aI, q_pL_aL, q_pL_aR, q_pL_K, q_pL_ln, q_pL_n, q_pL_sl, q_pL_is, q_pL_ck, q_pR_fI, q_pR_fL, q_pR_fR, q_pR_aI, q_pR_aL, q_pR_aR, q_pR_K, q_pR_ln, q_pR_n, q_pR_sl, q_pR_is, q_pR_ck, q_rI_fI, q_rI_fL, q_rI_fR, q_rI_aI, q_rI_aL, q_rI_aR, q_rI_K, q_rI_ln, q_rI_n, q_rI_sl, q_rI_is, q_rI_ck, q_rL_fI, q_rL_fL, q_rL_fR, q_rL_aI, q_rL_aL, q_rL_aR, q_rL_K, q_rL_ln, q_rL_n, q_rL_sl, q_rL_is, q_rL_ck, q_rR_fI, q_rR_fL, q_rR_fR, q_rR_aI, q_rR_aL, q_rR_aR, q_rR_K, q_rR_ln, q_rR_n, q_rR_sl, q_rR_is, q_rR_ck, g_row, Nat.reduceEqDiff, reduceIte]
          · simp only [q_pI_fI, q_pI_fL, q_pI_fR, q_pI_aI, q_pI_aL, q_pI_aR, q_pI_K, q_pI_ln, q_pI_n, q_pI_sl, q_pI_is, q_pI_ck, q_pL_fI, q_pL_fL, q_pL_fR, q_pL_aI, q_pL_aL, q_pL_aR, q_pL_K, q_pL_ln, q_pL_n, q_pL_sl, q_pL_is, q_pL_ck, q_pR_fI, q_pR_fL, q_pR_fR, q_pR_aI, q_pR_aL, q_pR_aR, q_pR_K, q_pR_ln, q_pR_n, q_pR_sl, q_pR_is, q_pR_ck, q_rI_fI, q_rI_fL, q_rI_fR, q_rI_aI, q_rI_aL, q_rI_aR, q_rI_K, q_rI_ln, q_rI_n, q_rI_sl, q_rI_is, q_rI_ck, q_rL_fI, q_rL_fL, q_rL_fR, q_rL_aI, q_rL_aL, q_rL_aR, q_rL_K, q_rL_ln, q_rL_n, q_rL_sl, q_rL_is, q_rL_ck, q_rR_fI, q_rR_fL, q_rR_fR, q_rR_aI, q_rR_aL, q_rR_aR, q_rR_K, q_rR_ln, q_rR_n, q_rR_sl, q_rR_is, q_rR_ck, g_row, Nat.reduceEqDiff, reduceIte]
        · intro j
          rw [e.aI (by decide), e.aI (by decide)]
          exact hB j
        · refine ⟨?_, ⟨s', hs, ?_, ?_, ?_, fun q => by cases q⟩, ?_⟩
          · rw [e.aI (by decide)]; exact r1
          · rw [e.aI (by decide)]; exact hsi
          · rw [e.aI (by decide)]; exact r4
          · exact r5.slots fun k _ _ => sl k
          · rw [if_neg (by decide), q_rI_aI, g_row_s, pk_us]; exact hx.symm) (fun fu S i hI hc hi hi2 => by
        have hR := hI.ref
        show l_X9_rollback_37 237 (fu + 1) S (nI i) _ = _
        rw [l_X9_rollback_37]
        simp only [g_getI, Nat.reduceMul, Nat.reduceAdd, ck9 hR, hc]
        rw [if_pos (nI_le hi (by omega))]) tb.length 100 0 S1 (by omega) (by omega) hI1 trivial t1 t2 t3 t4 (fun j r hj => by omega) (fun j r _ hjr => t5 j r hjr)
    have hI3 := d2.imm hI1
    have v3 : gfI S3 590 237 = vr.1 := by rw [d2.fI (by decide)]; exact h3
    have e : RE [244] [591] S1 (g_pI S3 591 237 0) := (d2.mono (by decide) (by decide)).trans (RE.pI (by decide))
    refine COp.pre (S1 := S1) a1.fr ⟨_, ?_, e.imm hI1, e.fr (by decide), e.imm hI1, h2.e e (by decide), (e.fI (by decide)).trans h3, ?_, ⟨(e.fI (by decide)).trans h5.1, h5.2.e e (by decide)⟩, h6.e e (by decide), h7.e e (by decide), ?_, ?_, fun q => by cases q⟩
    · refine d1.trans ?_
      simp only [g_getI, g_getL, g_getR, g_putI, g_putZ, g_putL, g_putR, g_ldI, g_ldL, g_ldR, g_stI, g_stZ, g_stL, g_stR, g_alen, g_ldX, g_cVI, g_cVL, g_cVR, g_cVV, g_cI, g_cL, g_cN, g_lt, g_jn, g_cpI, g_cpL, g_z, Nat.reduceMul, Nat.reduceAdd, Option.bind_some, or_true, true_or, if_true, q_pI_fI, q_pI_fL, q_pI_fR, q_pI_aI, q_pI_aL, q_pI_aR, q_pI_K, q_pI_ln, q_pI_n, q_pI_sl, q_pI_is, q_pI_ck, q_pL_fI, q_pL_fL, q_pL_fR, q_pL_aI, q_pL_aL, q_pL_aR, q_pL_K, q_pL_ln, q_pL_n, q_pL_sl, q_pL_is, q_pL_ck, q_pR_fI, q_pR_fL, q_pR_fR, q_pR_aI, q_pR_aL, q_pR_aR, q_pR_K, q_pR_ln, q_pR_n, q_pR_sl, q_pR_is, q_pR_ck, q_rI_fI, q_rI_fL, q_rI_fR, q_rI_aI, q_rI_aL, q_rI_aR, q_rI_K, q_rI_ln, q_rI_n, q_rI_sl, q_rI_is, q_rI_ck, q_rL_fI, q_rL_fL, q_rL_fR, q_rL_aI, q_rL_aL, q_rL_aR, q_rL_K, q_rL_ln, q_rL_n, q_rL_sl, q_rL_is, q_rL_ck, q_rR_fI, q_rR_fL, q_rR_fR, q_rR_aI, q_rR_aL, q_rR_aR, q_rR_K, q_rR_ln, q_rR_n, q_rR_sl, q_rR_is, q_rR_ck, ck9 hI3.ref]
      rw [g_up_f (by decide), v3]
    · simp only [q_pI_fI, q_pI_fL, q_pI_fR, q_pI_aI, q_pI_aL, q_pI_aR, q_pI_K, q_pI_ln, q_pI_n, q_pI_sl, q_pI_is, q_pI_ck, q_pL_fI, q_pL_fL, q_pL_fR, q_pL_aI, q_pL_aL, q_pL_aR, q_pL_K, q_pL_ln, q_pL_n, q_pL_sl, q_pL_is, q_pL_ck, q_pR_fI, q_pR_fL, q_pR_fR, q_pR_aI, q_pR_aL, q_pR_aR, q_pR_K, q_pR_ln, q_pR_n, q_pR_sl, q_pR_is, q_pR_ck, q_rI_fI, q_rI_fL, q_rI_fR, q_rI_aI, q_rI_aL, q_rI_aR, q_rI_K, q_rI_ln, q_rI_n, q_rI_sl, q_rI_is, q_rI_ck, q_rL_fI, q_rL_fL, q_rL_fR, q_rL_aI, q_rL_aL, q_rL_aR, q_rL_K, q_rL_ln, q_rL_n, q_rL_sl, q_rL_is, q_rL_ck, q_rR_fI, q_rR_fL, q_rR_fR, q_rR_aI, q_rR_aL, q_rR_aR, q_rR_K, q_rR_ln, q_rR_n, q_rR_sl, q_rR_is, q_rR_ck]; rw [g_up_s]; rfl
    · exact h8.e e (by decide) (by decide) k8 fun k q1 q2 => (d3 k q1 q2).trans ⟨rfl, rfl, fun _ _ => rfl⟩
    · exact d4.e (show RE [] [591] S3 _ from RE.pI (by decide)) (by decide) (by decide) k3.1 (fun q => by cases q) fun k _ => ⟨rfl, rfl, fun _ _ => rfl⟩
  · rw [if_neg e1]
    simp only [if_neg e1]
    exact ⟨S1, rfl, hI1, a1.fr, a2⟩
