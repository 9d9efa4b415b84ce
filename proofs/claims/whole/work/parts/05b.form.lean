/-! ===== Form: its words ===== -/
theorem mul4 (i : Nat) : nI i * (4 : Int32) = nI (4 * i) := by rw [show (4 : Int32) = nI 4 from rfl, pk_mul, Nat.mul_comm]
theorem add1 (i : Nat) : nI i + (1 : Int32) = nI (i + 1) := nI_1 i
theorem div8 {i : Nat} (h : i < 2 ^ 31) : nI i / (8 : Int32) = nI (i / 8) := by rw [show (8 : Int32) = nI 8 from rfl, pk_div h (by decide) (by decide)]
theorem rem8 {i : Nat} (h : i < 2 ^ 31) : (8 : Int32) * (nI i - nI i / (8 : Int32) * (8 : Int32)) = nI (8 * (i % 8)) := by
  rw [show (8 : Int32) = nI 8 from rfl, pk_rem h (by decide) (by decide), pk_mul]
def FormAt (S : gS) (f w : Nat) : Prop := g_is S 2 f ∧ gfR S 128 f = some w ∧ g_is S 11 w ∧ gln S w = 32
def OnlyCol (i : Nat) (w w1 : Nat → Int64) : Prop := ∀ j, (j < 4 * i ∨ 4 * i + 4 ≤ j) → w1 j = w j
/-- what changes one column of one form alone -/
def FOp (S : gS) (w i : Nat) (o : Option gS) (P : (Nat → Int64) → Prop) : Prop := ∃ w1, o = some (g_rL S w w1) ∧ OnlyCol i (gaL S w) w1 ∧ P w1
theorem FOp.bind {S : gS} {w i : Nat} {o : Option gS} {F : gS → Option gS} {P Q : (Nat → Int64) → Prop} (h : FOp S w i o P) (hF : ∀ w1, P w1 → OnlyCol i (gaL S w) w1 → FOp (g_rL S w w1) w i (F (g_rL S w w1)) Q) : FOp S w i (o.bind F) Q := by
  obtain ⟨w1, h1, h2, h3⟩ := h
  obtain ⟨w2, g1, g2, g3⟩ := hF w1 h3 h2
  refine ⟨w2, by rw [h1, Option.bind_some, g1, g_rL_rL], fun j hj => ?_, g3⟩
  rw [g2 j hj, q_rL_aL, g_row_s, h2 j hj]
theorem FOp.mono {S : gS} {w i : Nat} {o : Option gS} {P Q : (Nat → Int64) → Prop} (h : FOp S w i o P) (hF : ∀ w1, OnlyCol i (gaL S w) w1 → P w1 → Q w1) : FOp S w i o Q := by
  obtain ⟨w1, h1, h2, h3⟩ := h
  exact ⟨w1, h1, h2, hF w1 h2 h3⟩
theorem numberAt_eq {S : gS} {f w i : Nat} (h : FormAt S f w) (hi : i < 8) : f_X2_numberAt S f (nI i) = some (gaL S w (4 * i), S) := by
  obtain ⟨h1, h2, h3, h4⟩ := h
  unfold f_X2_numberAt
  simp only [g_getI, g_getL, g_getR, g_putI, g_putZ, g_putL, g_putR, g_ldI, g_ldL, g_ldR, g_stI, g_stZ, g_stL, g_stR, g_alen, g_ldX, g_cVI, g_cVL, g_cVR, g_cVV, g_cI, g_cL, g_cN, g_lt, g_jn, g_cpI, g_cpL, g_z, Nat.reduceMul, Nat.reduceAdd, Option.bind_some, or_true, true_or, if_true, g_ck_t h1, h2, g_ck_t h3, h4, mul4]
  simp (disch := omega) only [g_ix_t, nI_clamp]
/-- a column's number, its letters gone -/
def W_set (w : Nat → Int64) (i : Nat) (x : Int64) : Nat → Int64 := fun j => if j = 4 * i then x else if 4 * i < j ∧ j < 4 * i + 4 then 0 else w j
theorem W_set_only {w : Nat → Int64} {i : Nat} {x : Int64} : OnlyCol i w (W_set w i x) := by
  intro j hj
  unfold W_set
  rw [if_neg (by omega), if_neg (by omega)]
theorem W_set_0 {w : Nat → Int64} {i : Nat} {x : Int64} : W_set w i x (4 * i) = x := if_pos rfl
theorem W_set_k {w : Nat → Int64} {i k : Nat} {x : Int64} (h0 : 0 < k) (h : k < 4) : W_set w i x (4 * i + k) = 0 := by
  unfold W_set
  rw [if_neg (by omega), if_pos (by omega)]
theorem setNumber_loop {f w : Nat} {p : Int32} {x : Int64} {i : Nat} (hi : i < 8) : ∀ (d n k : Nat) (S : gS), k + d = 4 → d < n → FormAt S f w →
    l_X2_setNumber_16 f p x (nI (4 * i)) n S (nI k) = some (g_rL S w (fun j => if 4 * i + k ≤ j ∧ j < 4 * i + 4 then 0 else gaL S w j)) := by
  intro d
  induction d with
  | zero =>
    intro n k S hk hn h
    obtain ⟨n, rfl⟩ : ∃ m, n = m + 1 := ⟨n - 1, by omega⟩
    have : k = 4 := by omega
    subst this
    rw [l_X2_setNumber_16, if_pos (by decide)]
    congr 1
    rw [show (fun j => if 4 * i + 4 ≤ j ∧ j < 4 * i + 4 then (0 : Int64) else gaL S w j) = gaL S w from funext fun j => if_neg (by omega), g_rL_id]
  | succ d ih =>
    intro n k S hk hn h
    obtain ⟨n, rfl⟩ : ∃ m, n = m + 1 := ⟨n - 1, by omega⟩
    have hF := h
    obtain ⟨h1, h2, h3, h4⟩ := h
    rw [l_X2_setNumber_16, show (4 : Int32) = nI 4 from rfl, if_neg (by rw [nI_leI (by omega) (by omega)]; omega)]
    simp only [g_getI, g_getL, g_getR, g_putI, g_putZ, g_putL, g_putR, g_ldI, g_ldL, g_ldR, g_stI, g_stZ, g_stL, g_stR, g_alen, g_ldX, g_cVI, g_cVL, g_cVR, g_cVV, g_cI, g_cL, g_cN, g_lt, g_jn, g_cpI, g_cpL, g_z, Nat.reduceMul, Nat.reduceAdd, Option.bind_some, or_true, true_or, if_true, q_pI_fI, q_pI_fL, q_pI_fR, q_pI_aI, q_pI_aL, q_pI_aR, q_pI_K, q_pI_ln, q_pI_n, q_pI_sl, q_pI_is, q_pI_ck, q_pL_fI, q_pL_fL, q_pL_fR, q_pL_aI, q_pL_aL, q_pL_aR, q_pL_K, q_pL_ln, q_pL_n, q_pL_sl, q_pL_is, q_pL_ck, q_pR_fI, q_pR_fL, q_pR_fR, q_pR_aI, q_pR_aL, q_pR_aR, q_pR_K, q_pR_ln, q_pR_n, q_pR_sl, q_pR_is, q_pR_ck, q_rI_fI, q_rI_fL, q_rI_fR, q_rI_aI, q_rI_aL, q_rI_aR, q_rI_K, q_rI_ln, q_rI_n, q_rI_sl, q_rI_is, q_rI_ck, q_rL_fI, q_rL_fL, q_rL_fR, q_rL_aI, q_rL_aL, q_rL_aR, q_rL_K, q_rL_ln, q_rL_n, q_rL_sl, q_rL_is, q_rL_ck, q_rR_fI, q_rR_fL, q_rR_fR, q_rR_aI, q_rR_aL, q_rR_aR, q_rR_K, q_rR_ln, q_rR_n, q_rR_sl, q_rR_is, q_rR_ck, g_ck_t h1, h2, g_ck_t h3, h4, nI_add, add1]
    simp (disch := omega) only [g_ix_t, nI_clamp]
    rw [ih n (k + 1) (g_rL S w (vp_updL (gaL S w) (4 * i + k) 0)) (by omega) (by omega) hF, g_rL_rL, q_rL_aL, g_row_s]
    congr 2
    funext j
    unfold vp_updL
    by_cases a : j = 4 * i + k
    · rw [if_neg (by omega), if_pos a, if_pos (by omega)]
    · by_cases b : 4 * i + (k + 1) ≤ j ∧ j < 4 * i + 4
      · rw [if_pos b, if_pos (by omega)]
      · rw [if_neg b, if_neg a, if_neg (by omega)]
theorem setNumber_eq {S : gS} {f w i : Nat} {x : Int64} (h : FormAt S f w) (hi : i < 8) : f_X2_setNumber S f (nI i) x = some (g_rL S w (W_set (gaL S w) i x)) := by
  have hF := h
  obtain ⟨h1, h2, h3, h4⟩ := h
  unfold f_X2_setNumber
  simp only [g_getI, g_getL, g_getR, g_putI, g_putZ, g_putL, g_putR, g_ldI, g_ldL, g_ldR, g_stI, g_stZ, g_stL, g_stR, g_alen, g_ldX, g_cVI, g_cVL, g_cVR, g_cVV, g_cI, g_cL, g_cN, g_lt, g_jn, g_cpI, g_cpL, g_z, Nat.reduceMul, Nat.reduceAdd, Option.bind_some, or_true, true_or, if_true, q_pI_fI, q_pI_fL, q_pI_fR, q_pI_aI, q_pI_aL, q_pI_aR, q_pI_K, q_pI_ln, q_pI_n, q_pI_sl, q_pI_is, q_pI_ck, q_pL_fI, q_pL_fL, q_pL_fR, q_pL_aI, q_pL_aL, q_pL_aR, q_pL_K, q_pL_ln, q_pL_n, q_pL_sl, q_pL_is, q_pL_ck, q_pR_fI, q_pR_fL, q_pR_fR, q_pR_aI, q_pR_aL, q_pR_aR, q_pR_K, q_pR_ln, q_pR_n, q_pR_sl, q_pR_is, q_pR_ck, q_rI_fI, q_rI_fL, q_rI_fR, q_rI_aI, q_rI_aL, q_rI_aR, q_rI_K, q_rI_ln, q_rI_n, q_rI_sl, q_rI_is, q_rI_ck, q_rL_fI, q_rL_fL, q_rL_fR, q_rL_aI, q_rL_aL, q_rL_aR, q_rL_K, q_rL_ln, q_rL_n, q_rL_sl, q_rL_is, q_rL_ck, q_rR_fI, q_rR_fL, q_rR_fR, q_rR_aI, q_rR_aL, q_rR_aR, q_rR_K, q_rR_ln, q_rR_n, q_rR_sl, q_rR_is, q_rR_ck, g_ck_t h1, h2, g_ck_t h3, h4, mul4]
  simp (disch := omega) only [g_ix_t, nI_clamp]
  rw [show (1 : Int32) = nI 1 from rfl, setNumber_loop hi 3 100 1 (g_rL S w (vp_updL (gaL S w) (4 * i) x)) (by omega) (by omega) hF, g_rL_rL, q_rL_aL, g_row_s]
  congr 2
  funext j
  unfold vp_updL W_set
  by_cases a : j = 4 * i
  · rw [if_neg (by omega), if_pos a, if_pos a]
  · by_cases b : 4 * i < j ∧ j < 4 * i + 4
    · rw [if_pos (by omega), if_neg a, if_pos b]
    · rw [if_neg (by omega), if_neg a, if_neg a, if_neg b]
theorem letterAt_eq {S : gS} {f w i j : Nat} (h : FormAt S f w) (hi : i < 8) (hj : j < 24) : f_X2_letterAt S f (nI i) (nI j) = some (nI (lt8 (gaL S w (4 * i + 1 + j / 8)) (j % 8)), S) := by
  obtain ⟨h1, h2, h3, h4⟩ := h
  unfold f_X2_letterAt
  simp only [g_getI, g_getL, g_getR, g_putI, g_putZ, g_putL, g_putR, g_ldI, g_ldL, g_ldR, g_stI, g_stZ, g_stL, g_stR, g_alen, g_ldX, g_cVI, g_cVL, g_cVR, g_cVV, g_cI, g_cL, g_cN, g_lt, g_jn, g_cpI, g_cpL, g_z, Nat.reduceMul, Nat.reduceAdd, Option.bind_some, or_true, true_or, if_true, g_ck_t h1, h2, g_ck_t h3, h4, mul4, add1]
  rw [div8 (by omega), nI_add]
  simp (disch := omega) only [g_ix_t, nI_clamp]
  rw [← div8 (by omega), rem8 (by omega), lt8_read _ (Nat.mod_lt _ (by decide))]
theorem getD_ge {T : List Nat} {j : Nat} (h : T.length ≤ j) : T.getD j 0 = 0 := by
  rw [List.getD_eq_getElem?_getD, List.getElem?_eq_none h]
  rfl
theorem getD_app {T : List Nat} {c j : Nat} : (T ++ [c]).getD j 0 = if j < T.length then T.getD j 0 else if j = T.length then c else 0 := by
  rw [List.getD_eq_getElem?_getD, List.getD_eq_getElem?_getD]
  by_cases h : j < T.length
  · rw [if_pos h, List.getElem?_append_left h]
  · rw [if_neg h, List.getElem?_append_right (by omega)]
    by_cases e : j = T.length
    · rw [if_pos e, e, Nat.sub_self]
      rfl
    · rw [if_neg e, List.getElem?_eq_none (by simp; omega)]
      rfl
/-- a text in a column: the count, the letters eight to a word, nothing behind them -/
def TxW (w : Nat → Int64) (i : Nat) (T : List Nat) : Prop := w (4 * i) = lN T.length ∧ T.length ≤ 24 ∧ (∀ c ∈ T, 0 < c ∧ c < 256) ∧ ∀ j, j < 24 → lt8 (w (4 * i + 1 + j / 8)) (j % 8) = T.getD j 0
theorem TxW.nil {w : Nat → Int64} {i : Nat} : TxW (W_set w i 0) i [] := by
  refine ⟨by rw [W_set_0]; rfl, by decide, fun c h => (by cases h), fun j hj => ?_⟩
  rw [show 4 * i + 1 + j / 8 = 4 * i + (1 + j / 8) by omega, W_set_k (by omega) (by omega), lt8_0]
  simp
theorem appendLetter_eq {S : gS} {f w i c : Nat} {T : List Nat} (h : FormAt S f w) (hi : i < 8) (hT : TxW (gaL S w) i T) (hl : T.length < 24) (hc : 0 < c ∧ c < 256) : FOp S w i (f_X2_appendLetter S f (nI i) (nI c)) (fun w1 => TxW w1 i (T ++ [c])) := by
  obtain ⟨h1, h2, h3, h4⟩ := h
  obtain ⟨t1, t2, t3, t4⟩ := hT
  unfold f_X2_appendLetter
  simp only [g_getI, g_getL, g_getR, g_putI, g_putZ, g_putL, g_putR, g_ldI, g_ldL, g_ldR, g_stI, g_stZ, g_stL, g_stR, g_alen, g_ldX, g_cVI, g_cVL, g_cVR, g_cVV, g_cI, g_cL, g_cN, g_lt, g_jn, g_cpI, g_cpL, g_z, Nat.reduceMul, Nat.reduceAdd, Option.bind_some, or_true, true_or, if_true, q_pI_fI, q_pI_fL, q_pI_fR, q_pI_aI, q_pI_aL, q_pI_aR, q_pI_K, q_pI_ln, q_pI_n, q_pI_sl, q_pI_is, q_pI_ck, q_pL_fI, q_pL_fL, q_pL_fR, q_pL_aI, q_pL_aL, q_pL_aR, q_pL_K, q_pL_ln, q_pL_n, q_pL_sl, q_pL_is, q_pL_ck, q_pR_fI, q_pR_fL, q_pR_fR, q_pR_aI, q_pR_aL, q_pR_aR, q_pR_K, q_pR_ln, q_pR_n, q_pR_sl, q_pR_is, q_pR_ck, q_rI_fI, q_rI_fL, q_rI_fR, q_rI_aI, q_rI_aL, q_rI_aR, q_rI_K, q_rI_ln, q_rI_n, q_rI_sl, q_rI_is, q_rI_ck, q_rL_fI, q_rL_fL, q_rL_fR, q_rL_aI, q_rL_aL, q_rL_aR, q_rL_K, q_rL_ln, q_rL_n, q_rL_sl, q_rL_is, q_rL_ck, q_rR_fI, q_rR_fL, q_rR_fR, q_rR_aI, q_rR_aL, q_rR_aR, q_rR_K, q_rR_ln, q_rR_n, q_rR_sl, q_rR_is, q_rR_ck, g_ck_t h1, h2, g_ck_t h3, h4, mul4, add1]
  simp (disch := omega) only [g_ix_t, nI_clamp]
  rw [t1, lN_i, if_neg (nI_pos (by omega)), show (24 : Int32) = nI 24 from rfl, if_pos (by rw [nI_ltI (by omega) (by omega)]; exact hl)]
  rw [rem8 (by omega), div8 (by omega), nI_add]
  simp (disch := omega) only [g_ix_t, nI_clamp, add1, g_row_s, g_rL_rL]
  rw [nI_l (n := T.length + 1) (by omega)]
  refine ⟨_, rfl, ?_, ?_⟩
  · intro j hj
    unfold vp_updL
    rw [if_neg (by omega), if_neg (by omega)]
  · have hz : lt8 (gaL S w (4 * i + 1 + T.length / 8)) (T.length % 8) = 0 := by
      rw [t4 _ hl]
      simp
    refine ⟨?_, ?_, ?_, ?_⟩
    · unfold vp_updL
      rw [if_pos rfl, List.length_append]
      rfl
    · rw [List.length_append]; exact hl
    · intro x hx
      rcases List.mem_append.mp hx with hx | hx
      · exact t3 x hx
      · rw [List.mem_singleton.mp hx]; exact hc
    · intro j hj
      unfold vp_updL
      rw [if_neg (by omega)]
      by_cases hq : 4 * i + 1 + j / 8 = 4 * i + 1 + T.length / 8
      · rw [if_pos hq, lt8_or hc.2 (Nat.mod_lt _ (by decide)) hz, ← hq]
        rw [getD_app]
        by_cases hr : j % 8 = T.length % 8
        · have : j = T.length := by omega
          rw [if_pos hr, if_neg (by omega), if_pos this]
        · rw [if_neg hr, t4 j hj]
          by_cases hlt : j < T.length
          · rw [if_pos hlt]
          · rw [if_neg hlt, if_neg (fun e => hr (by rw [e])), getD_ge (by omega)]
      · rw [if_neg hq, t4 j hj, getD_app]
        by_cases hlt : j < T.length
        · rw [if_pos hlt]
        · rw [if_neg hlt, if_neg (fun e => hq (by rw [e])), getD_ge (by omega)]
