/-! ===== one slot of the reference's values, over the store ===== -/
abbrev V4 : List Nat := [238, 239, 240, 241]
def VOp (S : gS) (s : Nat) (o : Option gS) (P : gS → Prop) : Prop := ∃ S1, o = some S1 ∧ RE V4 [] S S1 ∧ (∀ k, k ≠ s → SlotEq S S1 k) ∧ P S1
theorem ROp.V {S : gS} {s : Nat} {o : Option gS} {Q : (Nat → Int64) → (Nat → Int32) → (Nat → Int32) → Prop} (h : ROp S s (gaL S 238) (gaI S 239) (gaI S 240) o Q) : VOp S s o (fun S1 => Q (gaL S1 238) (gaI S1 239) (gaI S1 240)) := by
  obtain ⟨nb, ln, ch, dg, h1, h2, h3⟩ := h
  refine ⟨_, h1, RE.q4 (by decide) (by decide) (by decide) (by decide), fun k hk => OnlyS.slot (s := s) ?_ hk, ?_⟩
  · rw [Q4_aL, Q4_a239, Q4_a240]; exact h2
  · show Q _ _ _
    rw [Q4_aL, Q4_a239, Q4_a240]; exact h3
abbrev RVS (t : Int32) (S : gS) (s : Nat) (x : mV) : Prop := RVv t (gaL S 238) (gaI S 239) (gaI S 240) s x
theorem tell_V {S : gS} {s : Nat} {t a b : Int32} (hI : Imm S) (hs : s < 656) (ht : isTy t) : VOp S s (f_X9_tell S 237 (nI s) t a b) (fun S1 => RVS t S1 s (mTell t (mJoin a b))) := by
  have := ROp.V (tell_eq (S := S) (s := s) (nb := gaL S 238) (ln := gaI S 239) (ch := gaI S 240) (dg := gaI S 241) (a := a) (b := b) hI.ref hs ht)
  rw [Q4_id] at this
  exact this
theorem become_V {S : gS} {s : Nat} {tf tt : Int32} {x : mV} (hI : Imm S) (hs : s < 656) (hx : RVS tf S s x) (ht : isTy tt) : VOp S s (f_X9_become S 237 (nI s) tf tt) (fun S1 => RVS tt S1 s (mBec tf tt x)) := by
  have := ROp.V (rbecome_eq (S := S) (s := s) (nb := gaL S 238) (ln := gaI S 239) (ch := gaI S 240) (dg := gaI S 241) hI.ref hs hx ht)
  rw [Q4_id] at this
  exact this
theorem clear_V {S : gS} {s : Nat} (hI : Imm S) (hs : s < 656) : VOp S s (f_X9_clear S 237 (nI s)) (fun S1 => gaL S1 238 s = 0 ∧ RTx (gaI S1 239) (gaI S1 240) s []) := by
  have := ROp.V (clear_R (S := S) (s := s) (nb := gaL S 238) (ln := gaI S 239) (ch := gaI S 240) (dg := gaI S 241) hI.ref hs)
  rw [Q4_id] at this
  exact this
theorem addChar_V {S : gS} {s c : Nat} {T : List Nat} (hI : Imm S) (hs : s < 656) (hT : RTx (gaI S 239) (gaI S 240) s T) (hl : T.length < 24) (hc : c < 256) : VOp S s (f_X9_addChar S 237 (nI s) (nI c)) (fun S1 => RTx (gaI S1 239) (gaI S1 240) s (T ++ (if c = 0 then [] else [c]))) := by
  have := ROp.V (addChar_R (S := S) (s := s) (nb := gaL S 238) (ln := gaI S 239) (ch := gaI S 240) (dg := gaI S 241) hI.ref hs hT hl hc)
  rw [Q4_id] at this
  obtain ⟨S1, h1, h2, h3, h4⟩ := this
  exact ⟨S1, h1, h2, h3, h4.2⟩
/-- the slot b holds what the slot a held -/
def SlotCp (S S1 : gS) (a b : Nat) : Prop := gaL S1 238 b = gaL S 238 a ∧ gaI S1 239 b = gaI S 239 a ∧ ∀ j, j < 24 → gaI S1 240 (24 * b + j) = gaI S 240 (24 * a + j)
theorem SlotCp.v {S S1 : gS} {a b : Nat} {t : Int32} {x : mV} (h : SlotCp S S1 a b) (hx : RVS t S a x) : RVS t S1 b x := by
  unfold RVS RVv at hx ⊢
  by_cases ht : t = 4
  · rw [if_pos ht] at hx ⊢
    obtain ⟨h1, h2, h3, h4⟩ := hx
    exact ⟨h.2.1.trans h1, h2, h3, fun j hj => (h.2.2 j (by omega)).trans (h4 j hj)⟩
  · rw [if_neg ht] at hx ⊢; exact h.1.trans hx
theorem SlotCp.eq {S S1 S2 : gS} {a b : Nat} (h : SlotCp S S1 a b) (e : SlotEq S1 S2 b) : SlotCp S S2 a b := ⟨e.1.trans h.1, e.2.1.trans h.2.1, fun j hj => (e.2.2 j hj).trans (h.2.2 j hj)⟩
theorem SlotEq.cp {S S1 S2 : gS} {a b : Nat} (e : SlotEq S S1 a) (h : SlotCp S1 S2 a b) : SlotCp S S2 a b := ⟨h.1.trans e.1, h.2.1.trans e.2.1, fun j hj => (h.2.2 j hj).trans (e.2.2 j hj)⟩
theorem copy_V {S : gS} {a b : Nat} (hI : Imm S) (ha : a < 656) (hb : b < 656) (hab : a ≠ b) : VOp S b (f_X9_copy S 237 (nI a) (nI b)) (fun S1 => SlotCp S S1 a b) := by
  have := copy_eq (S := S) (a := a) (b := b) (nb := gaL S 238) (ln := gaI S 239) (ch := gaI S 240) (dg := gaI S 241) hI.ref ha hb hab
  rw [Q4_id] at this
  refine ⟨_, this, RE.q4 (by decide) (by decide) (by decide) (by decide), fun k hk => ?_, ?_⟩
  · refine OnlyS.slot (s := b) ?_ hk
    rw [Q4_aL, Q4_a239, Q4_a240]
    refine ⟨fun k hk => ⟨pk_uLn hk, pk_un hk⟩, fun j hj => ?_⟩
    unfold cpCh
    rw [if_neg (by omega)]
  · show SlotCp _ _ _ _
    unfold SlotCp
    rw [Q4_aL, Q4_a239, Q4_a240]
    refine ⟨pk_uLs, pk_us, fun j hj => ?_⟩
    unfold cpCh
    rw [if_pos (by omega)]
    congr 1
    omega
/-- some slots copied: s .. s + n to d .. d + n; the two do not meet -/
theorem copyForm_loop {s d : Nat} (hs : s + 8 ≤ 656) (hd : d + 8 ≤ 656) (hsd : s + 8 ≤ d ∨ d + 8 ≤ s) : ∀ (m n i : Nat) (S : gS), i + m = 8 → m < n → Imm S → ∃ S1, l_X9_copyForm_2 237 (nI s) (nI d) n S (nI i) = some S1 ∧ RE V4 [] S S1 ∧ (∀ k, (k < d + i ∨ d + 8 ≤ k) → SlotEq S S1 k) ∧ ∀ j, i ≤ j → j < 8 → SlotCp S S1 (s + j) (d + j) := by
  intro m
  induction m with
  | zero =>
    intro n i S hi hn hI
    obtain ⟨n, rfl⟩ : ∃ m, n = m + 1 := ⟨n - 1, by omega⟩
    have : i = 8 := by omega
    subst this
    rw [l_X9_copyForm_2, if_pos (by decide)]
    exact ⟨S, rfl, RE.refl, fun _ _ => SlotEq.refl, fun j h1 h2 => by omega⟩
  | succ m ih =>
    intro n i S hi hn hI
    obtain ⟨n, rfl⟩ : ∃ m, n = m + 1 := ⟨n - 1, by omega⟩
    rw [l_X9_copyForm_2, if_neg (by rw [show (8 : Int32) = nI 8 from rfl, nI_leI (by omega) (by omega)]; omega)]
    unfold g_cVV
    rw [ck9 hI.ref, nI_add, nI_add]
    obtain ⟨S1, b1, b2, b3, b4⟩ := copy_V (S := S) (a := s + i) (b := d + i) hI (by omega) (by omega) (by omega)
    rw [b1, Option.bind_some, add1]
    obtain ⟨S2, d1, d2, d3, d4⟩ := ih n (i + 1) S1 (by omega) (by omega) (b2.imm hI)
    refine ⟨S2, d1, b2.trans d2, fun k hk => (b3 k (by omega)).trans (d3 k (by omega)), fun j h1 h2 => ?_⟩
    by_cases e : j = i
    · subst e
      exact b4.eq (d3 _ (by omega))
    · exact (b3 _ (by omega)).cp (d4 j (by omega) h2)
theorem copyForm_V {S : gS} {s d : Nat} (hI : Imm S) (hs : s + 8 ≤ 656) (hd : d + 8 ≤ 656) (hsd : s + 8 ≤ d ∨ d + 8 ≤ s) : ∃ S1, f_X9_copyForm S 237 (nI s) (nI d) = some S1 ∧ RE V4 [] S S1 ∧ (∀ k, (k < d ∨ d + 8 ≤ k) → SlotEq S S1 k) ∧ ∀ j, j < 8 → SlotCp S S1 (s + j) (d + j) := by
  obtain ⟨S1, b1, b2, b3, b4⟩ := copyForm_loop hs hd hsd 8 100 0 S (by omega) (by omega) hI
  exact ⟨S1, b1, b2, fun k hk => b3 k (by omega), fun j hj => b4 j (by omega) hj⟩
theorem FormR.cp {S S1 : gS} {s d : Nat} {ts : List Int32} {vs : List mV} (h : FormR S s ts vs) (hl : ts.length ≤ 8) (e : ∀ j, j < 8 → SlotCp S S1 (s + j) (d + j)) : FormR S1 d ts vs :=
  ⟨h.1, fun i t x ht hx => (e i (by have := lt_of_some ht; omega)).v (h.2 i t x ht hx)⟩
theorem letters_loop {j n L : Nat} (hj : j < 8) (hl : n + L ≤ 24) {p2 p3 : Int32} {K : gS → Int32 → Option (Int32 × gS)} : ∀ (d fu k : Nat) (S : gS), k + d = L → d < fu → Imm S → gaI S 239 648 = nI L →
    l_X9_letters_52 237 (nI j) p2 p3 (nI n) fu S (nI k) K = K (g_rI S 259 (fun q => if 24 * j + n + k ≤ q ∧ q < 24 * j + n + L then gaI S 240 (15552 + (q - (24 * j + n))) else gaI S 259 q)) (nI L) := by
  intro d
  induction d with
  | zero =>
    intro fu k S hk hf hI h
    obtain ⟨fu, rfl⟩ : ∃ m, fu = m + 1 := ⟨fu - 1, by omega⟩
    have hR := hI.ref
    rw [l_X9_letters_52]
    simp only [g_getI, g_getL, g_getR, g_putI, g_putZ, g_putL, g_putR, g_ldI, g_ldL, g_ldR, g_stI, g_stZ, g_stL, g_stR, g_alen, g_ldX, g_cVI, g_cVL, g_cVR, g_cVV, g_cI, g_cL, g_cN, g_lt, g_jn, g_cpI, g_cpL, g_z, Nat.reduceMul, Nat.reduceAdd, Option.bind_some, or_true, true_or, if_true, ck9 hR, rf_lengths hR, g_ck_t (ri_lengths hR), rl_lengths hR, show (648 : Int32) = nI 648 from rfl]
    simp (disch := omega) only [g_ix_t, nI_clamp]
    have : k = L := by omega
    subst this
    rw [h, if_pos (nI_le (by omega) (by omega))]
    congr 1
    rw [show (fun q => if 24 * j + n + k ≤ q ∧ q < 24 * j + n + k then gaI S 240 (15552 + (q - (24 * j + n))) else gaI S 259 q) = gaI S 259 from funext fun q => if_neg (by omega), g_rI_id]
  | succ d ih =>
    intro fu k S hk hf hI h
    obtain ⟨fu, rfl⟩ : ∃ m, fu = m + 1 := ⟨fu - 1, by omega⟩
    have hR := hI.ref
    rw [l_X9_letters_52]
    simp only [g_getI, g_getL, g_getR, g_putI, g_putZ, g_putL, g_putR, g_ldI, g_ldL, g_ldR, g_stI, g_stZ, g_stL, g_stR, g_alen, g_ldX, g_cVI, g_cVL, g_cVR, g_cVV, g_cI, g_cL, g_cN, g_lt, g_jn, g_cpI, g_cpL, g_z, Nat.reduceMul, Nat.reduceAdd, Option.bind_some, or_true, true_or, if_true, ck9 hR, rf_lengths hR, g_ck_t (ri_lengths hR), rl_lengths hR, rf_letterRow hR, g_ck_t (ri_letterRow hR), rl_letterRow hR, rf_chars hR, g_ck_t (ri_chars hR), rl_chars hR, show (648 : Int32) = nI 648 from rfl, show (15552 : Int32) = nI 15552 from rfl, mul24, nI_add]
    simp (disch := omega) only [g_ix_t, nI_clamp]
    rw [h, if_neg (by rw [nI_leI (by omega) (by omega)]; omega), add1, ih fu (k + 1) (g_rI S 259 (upd (gaI S 259) (24 * j + n + k) (gaI S 240 (15552 + k)))) (by omega) (by omega) (hI.of rfl rfl rfl rfl rfl) (by rw [q_rI_aI, g_row_n (by decide)]; exact h), g_rI_rI]
    congr 2
    funext q
    simp only [q_pI_fI, q_pI_fL, q_pI_fR, q_pI_aI, q_pI_aL, q_pI_aR, q_pI_K, q_pI_ln, q_pI_n, q_pI_sl, q_pI_is, q_pI_ck, q_pL_fI, q_pL_fL, q_pL_fR, q_pL_aI, q_pL_aL, q_pL_aR, q_pL_K, q_pL_ln, q_pL_n, q_pL_sl, q_pL_is, q_pL_ck, q_pR_fI, q_pR_fL, q_pR_fR, q_pR_aI, q_pR_aL, q_pR_aR, q_pR_K, q_pR_ln, q_pR_n, q_pR_sl, q_pR_is, q_pR_ck, q_rI_fI, q_rI_fL, q_rI_fR, q_rI_aI, q_rI_aL, q_rI_aR, q_rI_K, q_rI_ln, q_rI_n, q_rI_sl, q_rI_is, q_rI_ck, q_rL_fI, q_rL_fL, q_rL_fR, q_rL_aI, q_rL_aL, q_rL_aR, q_rL_K, q_rL_ln, q_rL_n, q_rL_sl, q_rL_is, q_rL_ck, q_rR_fI, q_rR_fL, q_rR_fR, q_rR_aI, q_rR_aL, q_rR_aR, q_rR_K, q_rR_ln, q_rR_n, q_rR_sl, q_rR_is, q_rR_ck, g_row, Nat.reduceEqDiff, reduceIte]
    by_cases a : q = 24 * j + n + k
    · rw [if_neg (by omega), if_pos (by omega), a, pk_us]
      congr 1
      omega
    · rw [pk_un a]
      by_cases b : 24 * j + n + (k + 1) ≤ q ∧ q < 24 * j + n + L
      · rw [if_pos b, if_pos (by omega)]
      · rw [if_neg b, if_neg (by omega)]
theorem letters_R {S : gS} {m : mS} {i a b : Int32} (h : RR S m) (k : mOk m) (hd : ∀ q, q < 8 → (mDrf m q).2.length ≤ 24) : COp S 237 265 (f_X9_letters S 237 i a b) (mLetters m i a b).1 (fun S1 => RR S1 (mLetters m i a b).2) := by
  have h0 := h
  obtain ⟨dk, vr, pl, mg, sc, nx, dr, sn, tb⟩ := m
  obtain ⟨hI, h2, h3, h4, h5, h6, h7, h8, h9, h10⟩ := h
  obtain ⟨k1, k2, k3, k4, k5, k6, k7, k8⟩ := k
  have hR := hI.ref
  unfold f_X9_letters mLetters
  simp only [g_cI, isIn_eq, Option.bind_some]
  by_cases bad : i < 0 ∨ 7 < i
  · rw [if_pos bad, if_pos bad, if_pos rfl]
    exact ⟨S, rfl, hI, Fr.refl, h0⟩
  · rw [if_neg bad, if_neg bad, if_neg (by decide)]
    obtain ⟨j, hj, rfl⟩ := cell_of bad
    rw [nI_clamp (by omega)]
    have hdj : (dr j).2.length ≤ 24 := hd j hj
    have hle : (mB (mJoin a b)).length ≤ 8 := mBr_len _ 8
    obtain ⟨S1, b1, b2, b3, b4⟩ := tell_V (S := S) (s := 648) (t := 4) (a := a) (b := b) hI (by decide) (Or.inr (Or.inr (Or.inr (Or.inr rfl))))
    have hI1 := b2.imm hI
    have hR1 := hI1.ref
    have h7' : DraftR S1 dr := h7.e b2 (by decide)
    unfold RVS RVv at b4
    rw [if_pos rfl, mTell4] at b4
    obtain ⟨t1, t2, t3, t4⟩ := b4
    simp only [g_cVV, g_getR, g_ldI, ck9 hR, show (648 : Int32) = nI 648 from rfl, b1, Option.bind_some, Nat.reduceMul, Nat.reduceAdd, ck9 hR1, rf_letterCount hR1, g_ck_t (ri_letterCount hR1), rl_letterCount hR1, rf_lengths hR1, g_ck_t (ri_lengths hR1), rl_lengths hR1]
    simp (disch := omega) only [g_ix_t, nI_clamp]
    rw [(h7' j hj).2.1, t1]
    dsimp only
    rw [nI_add, show (24 : Int32) = nI 24 from rfl, show mDrf (dk, vr, pl, mg, sc, nx, dr, sn, tb) = dr from rfl]
    by_cases hl : 24 < (dr j).2.length + (mB (mJoin a b)).length
    · rw [if_neg (by rw [nI_leI (by omega) (by omega)]; omega)]
      simp only [if_pos hl]
      have e := b2
      have ws : ∀ k, k < 648 → SlotEq S S1 k := fun k hk => b3 k (by omega)
      exact ⟨S1, rfl, hI1, e.fr (by decide), hI1, h2.e e (by decide), (e.fI (by decide)).trans h3, (e.fI (by decide)).trans h4, ⟨(e.fI (by decide)).trans h5.1, h5.2.e e (by decide)⟩, h6.e e (by decide), h7.e e (by decide), h8.e e (by decide) (by decide) k8 (fun k _ hk => ws k (by omega)), h9.e e (by decide) (by decide) k3.1 (fun hr => (k4 hr).2.1.1) (fun k hk => ws k (by omega)), fun hr => ⟨(h10 hr).1.e e (by decide), (e.fI (by decide)).trans (h10 hr).2.1, (h10 hr).2.2.e e (by decide)⟩⟩
    · rw [if_pos (by rw [nI_leI (by omega) (by omega)]; omega), show (0 : Int32) = nI 0 from rfl, letters_loop (n := (dr j).2.length) (L := (mB (mJoin a b)).length) hj (by omega) (mB (mJoin a b)).length 100 0 S1 (by omega) (by omega) hI1 t1]
      generalize hr : (fun q => if 24 * j + (dr j).2.length + 0 ≤ q ∧ q < 24 * j + (dr j).2.length + (mB (mJoin a b)).length then gaI S1 240 (15552 + (q - (24 * j + (dr j).2.length))) else gaI S1 259 q) = r
      have hI2 : Imm (g_rI S1 259 r) := hI1.of rfl rfl rfl rfl rfl
      have hR2 := hI2.ref
      simp only [g_getI, g_getL, g_getR, g_putI, g_putZ, g_putL, g_putR, g_ldI, g_ldL, g_ldR, g_stI, g_stZ, g_stL, g_stR, g_alen, g_ldX, g_cVI, g_cVL, g_cVR, g_cVV, g_cI, g_cL, g_cN, g_lt, g_jn, g_cpI, g_cpL, g_z, Nat.reduceMul, Nat.reduceAdd, Option.bind_some, or_true, true_or, if_true, q_pI_fI, q_pI_fL, q_pI_fR, q_pI_aI, q_pI_aL, q_pI_aR, q_pI_K, q_pI_ln, q_pI_n, q_pI_sl, q_pI_is, q_pI_ck, q_pL_fI, q_pL_fL, q_pL_fR, q_pL_aI, q_pL_aL, q_pL_aR, q_pL_K, q_pL_ln, q_pL_n, q_pL_sl, q_pL_is, q_pL_ck, q_pR_fI, q_pR_fL, q_pR_fR, q_pR_aI, q_pR_aL, q_pR_aR, q_pR_K, q_pR_ln, q_pR_n, q_pR_sl, q_pR_is, q_pR_ck, q_rI_fI, q_rI_fL, q_rI_fR, q_rI_aI, q_rI_aL, q_rI_aR, q_rI_K, q_rI_ln, q_rI_n, q_rI_sl, q_rI_is, q_rI_ck, q_rL_fI, q_rL_fL, q_rL_fR, q_rL_aI, q_rL_aL, q_rL_aR, q_rL_K, q_rL_ln, q_rL_n, q_rL_sl, q_rL_is, q_rL_ck, q_rR_fI, q_rR_fL, q_rR_fR, q_rR_aI, q_rR_aL, q_rR_aR, q_rR_K, q_rR_ln, q_rR_n, q_rR_sl, q_rR_is, q_rR_ck, ck9 hR1, rf_letterCount hR1, g_ck_t (ri_letterCount hR1), rl_letterCount hR1, rf_lengths hR1, g_ck_t (ri_lengths hR1), rl_lengths hR1, g_row, Nat.reduceEqDiff, reduceIte]
      simp (disch := omega) only [g_ix_t, nI_clamp]
      rw [t1, nI_add, pk_us]
      simp only [if_neg hl]
      have e : RE [238, 239, 240, 241, 258, 259] [] S (g_rI (g_rI S1 259 r) 258 (upd (gaI S1 258) j (nI ((dr j).2.length + (mB (mJoin a b)).length)))) := ((b2.mono (by decide) (by decide)).trans (RE.rI (by decide))).trans (RE.rI (by decide))
      have ws : ∀ k, k < 648 → SlotEq S (g_rI (g_rI S1 259 r) 258 (upd (gaI S1 258) j (nI ((dr j).2.length + (mB (mJoin a b)).length)))) k := fun k hk => (b3 k (by omega)).trans ⟨rfl, by simp only [q_pI_fI, q_pI_fL, q_pI_fR, q_pI_aI, q_pI_aL, q_pI_aR, q_pI_K, q_pI_ln, q_pI_n, q_pI_sl, q_pI_is, q_pI_ck, q_pL_fI, q_pL_fL, q_pL_fR, q_pL_aI, q_pL_aL, q_pL_aR, q_pL_K, q_pL_ln, q_pL_n, q_pL_sl, q_pL_is, q_pL_ck, q_pR_fI, q_pR_fL, q_pR_fR, q_pR_aI, q_pR_aL, q_pR_aR, q_pR_K, q_pR_ln, q_pR_n, q_pR_sl, q_pR_is, q_pR_ck, q_rI_fI, q_rI_fL, q_rI_fR, q_rI_aI, q_rI_aL, q_rI_aR, q_rI_K, q_rI_ln, q_rI_n, q_rI_sl, q_rI_is, q_rI_ck, q_rL_fI, q_rL_fL, q_rL_fR, q_rL_aI, q_rL_aL, q_rL_aR, q_rL_K, q_rL_ln, q_rL_n, q_rL_sl, q_rL_is, q_rL_ck, q_rR_fI, q_rR_fL, q_rR_fR, q_rR_aI, q_rR_aL, q_rR_aR, q_rR_K, q_rR_ln, q_rR_n, q_rR_sl, q_rR_is, q_rR_ck, g_row, Nat.reduceEqDiff, reduceIte], fun _ _ => by simp only [q_pI_fI, q_pI_fL, q_pI_fR, q_pI_aI, q_pI_aL, q_pI_aR, q_pI_K, q_pI_ln, q_pI_n, q_pI_sl, q_pI_is, q_pI_ck, q_pL_fI, q_pL_fL, q_pL_fR, q_pL_aI, q_pL_aL, q_pL_aR, q_pL_K, q_pL_ln, q_pL_n, q_pL_sl, q_pL_is, q_pL_ck, q_pR_fI, q_pR_fL, q_pR_fR, q_pR_aI, q_pR_aL, q_pR_aR, q_pR_K, q_pR_ln, q_pR_n, q_pR_sl, q_pR_is, q_pR_ck, q_rI_fI, q_rI_fL, q_rI_fR, q_rI_aI, q_rI_aL, q_rI_aR, q_rI_K, q_rI_ln, q_rI_n, q_rI_sl, q_rI_is, q_rI_ck, q_rL_fI, q_rL_fL, q_rL_fR, q_rL_aI, q_rL_aL, q_rL_aR, q_rL_K, q_rL_ln, q_rL_n, q_rL_sl, q_rL_is, q_rL_ck, q_rR_fI, q_rR_fL, q_rR_fR, q_rR_aI, q_rR_aL, q_rR_aR, q_rR_K, q_rR_ln, q_rR_n, q_rR_sl, q_rR_is, q_rR_ck, g_row, Nat.reduceEqDiff, reduceIte]⟩
      refine ⟨_, rfl, e.imm hI, e.fr (by decide), e.imm hI, h2.e e (by decide), (e.fI (by decide)).trans h3, (e.fI (by decide)).trans h4, ⟨(e.fI (by decide)).trans h5.1, h5.2.e e (by decide)⟩, h6.e e (by decide), ?_, h8.e e (by decide) (by decide) k8 (fun k _ hk => ws k (by omega)), h9.e e (by decide) (by decide) k3.1 (fun hr => (k4 hr).2.1.1) (fun k hk => ws k (by omega)), fun hr => ⟨(h10 hr).1.e e (by decide), (e.fI (by decide)).trans (h10 hr).2.1, (h10 hr).2.2.e e (by decide)⟩⟩
      intro q hq
      simp only [q_pI_fI, q_pI_fL, q_pI_fR, q_pI_aI, q_pI_aL, q_pI_aR, q_pI_K, q_pI_ln, q_pI_n, q_pI_sl, q_pI_is, q_pI_ck, q_pL_fI, q_pL_fL, q_pL_fR, q_pL_aI, q_pL_aL, q_pL_aR, q_pL_K, q_pL_ln, q_pL_n, q_pL_sl, q_pL_is, q_pL_ck, q_pR_fI, q_pR_fL, q_pR_fR, q_pR_aI, q_pR_aL, q_pR_aR, q_pR_K, q_pR_ln, q_pR_n, q_pR_sl, q_pR_is, q_pR_ck, q_rI_fI, q_rI_fL, q_rI_fR, q_rI_aI, q_rI_aL, q_rI_aR, q_rI_K, q_rI_ln, q_rI_n, q_rI_sl, q_rI_is, q_rI_ck, q_rL_fI, q_rL_fL, q_rL_fR, q_rL_aI, q_rL_aL, q_rL_aR, q_rL_K, q_rL_ln, q_rL_n, q_rL_sl, q_rL_is, q_rL_ck, q_rR_fI, q_rR_fL, q_rR_fR, q_rR_aI, q_rR_aL, q_rR_aR, q_rR_K, q_rR_ln, q_rR_n, q_rR_sl, q_rR_is, q_rR_ck, g_row, Nat.reduceEqDiff, reduceIte]
      obtain ⟨g1, g2, g3⟩ := h7' q hq
      have hdq : (dr q).2.length ≤ 24 := hd q hq
      unfold drSet
      by_cases e : q = j
      · subst e
        rw [if_pos rfl, pk_us]
        refine ⟨g1, by rw [List.length_append], fun z hz => ?_⟩
        rw [List.length_append] at hz
        rw [← hr]
        dsimp only
        by_cases c : z < (dr q).2.length
        · rw [if_neg (by omega), g3 z c, List.getD_eq_getElem?_getD, List.getD_eq_getElem?_getD, List.getElem?_append_left c]
        · rw [if_pos (by omega), show 15552 + (24 * q + z - (24 * q + (dr q).2.length)) = 15552 + (z - (dr q).2.length) by omega, show gaI S1 240 (15552 + (z - (dr q).2.length)) = nI ((mB (mJoin a b)).getD (z - (dr q).2.length) 0) from t4 (z - (dr q).2.length) (show z - (dr q).2.length < (mB (mJoin a b)).length by omega)]
          rw [List.getD_eq_getElem?_getD, List.getD_eq_getElem?_getD, List.getElem?_append_right (by omega)]
      · rw [if_neg e, pk_un e]
        refine ⟨g1, g2, fun z hz => ?_⟩
        rw [← hr]
        dsimp only
        rw [if_neg (by omega)]
        exact g3 z hz
