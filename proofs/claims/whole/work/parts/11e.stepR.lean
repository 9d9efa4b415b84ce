/-! ===== steps of the reference's scratch schema ===== -/
def StR (S : gS) (k : Nat) (st : mStep) : Prop := gaI S 251 k = st.1 ∧ gaI S 252 k = st.2.1 ∧ gaI S 253 k = st.2.2.1 ∧ mJoin (gaI S 254 k) (gaI S 255 k) = st.2.2.2
theorem StR.e {A F : List Nat} {S S1 : gS} {k : Nat} {st : mStep} (h : StR S k st) (e : RE A F S S1) (hA : ∀ a ∈ [251, 252, 253, 254, 255], a ∉ A) : StR S1 k st := by
  unfold StR
  rw [e.aI (hA 251 (by decide)), e.aI (hA 252 (by decide)), e.aI (hA 253 (by decide)), e.aI (hA 254 (by decide)), e.aI (hA 255 (by decide))]
  exact h
theorem ix3 {α : Type} {o : Option α} : g_ix 3 (2 : Int32) o = o := g_ix_t (k := 2) (by decide) (by decide)
theorem cl2 : (2 : Int32).toNatClampNeg = 2 := rfl
theorem plO_lt {l : List mCol} {nm : Int32} (hl : l.length ≤ 8) : plO l nm < 0 ↔ ¬ mPlace l nm < l.length := by
  by_cases q : mPlace l nm < l.length
  · rw [plO_has q, show (0 : Int32) = nI 0 from rfl, nI_ltI (by omega) (by omega)]
    omega
  · rw [plO_no q]
    exact ⟨fun _ => q, fun _ => by decide⟩
theorem plO_ge {l : List mCol} {nm : Int32} (hl : l.length ≤ 8) : 0 ≤ plO l nm ↔ mPlace l nm < l.length := by
  by_cases q : mPlace l nm < l.length
  · rw [plO_has q]
    exact ⟨fun _ => q, fun _ => nI_le (Nat.zero_le _) (by omega)⟩
  · rw [plO_no q]
    exact ⟨fun z => absurd z (by decide), fun z => absurd z q⟩
theorem place_loop {S : gS} {l : List mCol} {nm : Int32} (hI : Imm S) (h : SchR S 2 l) (hl : l.length ≤ 8) (hn : Ndp l) : ∀ (d fu i : Nat), i + d = l.length → d < fu → l_X9_place_4 237 nm fu S (if mPlace l nm < i then nI (mPlace l nm) else -1) (nI i) = some (plO l nm, S) := by
  have hR := hI.ref
  intro d
  induction d with
  | zero =>
    intro fu i hi hf
    obtain ⟨fu, rfl⟩ : ∃ m, fu = m + 1 := ⟨fu - 1, by omega⟩
    have : i = l.length := by omega
    subst this
    rw [l_X9_place_4]
    simp only [g_getI, g_getL, g_getR, g_putI, g_putZ, g_putL, g_putR, g_ldI, g_ldL, g_ldR, g_stI, g_stZ, g_stL, g_stR, g_alen, g_ldX, g_cVI, g_cVL, g_cVR, g_cVV, g_cI, g_cL, g_cN, g_lt, g_jn, g_cpI, g_cpL, g_z, Nat.reduceMul, Nat.reduceAdd, Option.bind_some, or_true, true_or, if_true, ck9 hR, rf_columns hR, g_ck_t (ri_columns hR), rl_columns hR, ix3, cl2, h.1]
    rw [if_pos (nI_le (Nat.le_refl _) (by omega))]
    rfl
  | succ d ih =>
    intro fu i hi hf
    obtain ⟨fu, rfl⟩ : ∃ m, fu = m + 1 := ⟨fu - 1, by omega⟩
    have hil : i < l.length := by omega
    have hc := List.getElem?_eq_getElem hil
    have hcc := (h.2 i _ hc).1
    have hh := ih fu (i + 1) (by omega) (by omega)
    rw [l_X9_place_4]
    simp only [g_getI, g_getL, g_getR, g_putI, g_putZ, g_putL, g_putR, g_ldI, g_ldL, g_ldR, g_stI, g_stZ, g_stL, g_stR, g_alen, g_ldX, g_cVI, g_cVL, g_cVR, g_cVV, g_cI, g_cL, g_cN, g_lt, g_jn, g_cpI, g_cpL, g_z, Nat.reduceMul, Nat.reduceAdd, Option.bind_some, or_true, true_or, if_true, ck9 hR, rf_columns hR, g_ck_t (ri_columns hR), rl_columns hR, ix3, cl2, h.1, rf_names hR, g_ck_t (ri_names hR), rl_names hR]
    rw [if_neg (nI_ge hil (by omega)), show (16 : Int32) = nI (8 * 2) from rfl, nI_add, g_ix_t (by omega) (by decide), nI_clamp (by omega), hcc, add1]
    by_cases e : l[i].1 = nm
    · rw [if_pos e]
      have hp := mPlace_uniq hn hc e
      rw [if_pos (show mPlace l nm < i + 1 by omega), hp] at hh
      exact hh
    · rw [if_neg e]
      have hp : mPlace l nm ≠ i := by
        intro z
        obtain ⟨c, c1, c2⟩ := mPlace_at (l := l) (nm := nm) (by omega)
        rw [z, hc] at c1
        cases c1
        exact e c2
      by_cases q : mPlace l nm < i
      · rw [if_pos q]
        rw [if_pos (show mPlace l nm < i + 1 by omega)] at hh
        exact hh
      · rw [if_neg q]
        rw [if_neg (show ¬ mPlace l nm < i + 1 by omega)] at hh
        exact hh
theorem place_R {S : gS} {l : List mCol} {nm : Int32} (hI : Imm S) (h : SchR S 2 l) (hl : l.length ≤ 8) (hn : Ndp l) : f_X9_place S 237 nm = some (plO l nm, S) := by
  have hh := place_loop (nm := nm) hI h hl hn l.length 100 0 (by omega) (by omega)
  rw [if_neg (Nat.not_lt_zero _)] at hh
  exact hh
theorem canBecome_R {S : gS} {f t : Int32} (hf : isTy f) (ht : isTy t) : f_X9_canBecome S f t = some (b32 (mCanB f t), S) := by
  unfold f_X9_canBecome
  simp only [g_jn]
  rcases hf with rfl | rfl | rfl | rfl | rfl <;> rcases ht with rfl | rfl | rfl | rfl | rfl <;> rfl
theorem SchR.tyAt {S : gS} {j : Nat} {l : List mCol} (h : SchR S j l) {i : Nat} (hi : i < l.length) : gaI S 249 (8 * j + i) = mTyAt l i := by
  rw [mTyAt_of (List.getElem?_eq_getElem hi)]
  exact (h.2 i _ (List.getElem?_eq_getElem hi)).2
theorem isWrong_R {S : gS} {l : List mCol} {st : mStep} {k : Nat} (hI : Imm S) (h : SchR S 2 l) (ho : scOk l) (hs : stOk st) (hk : k < 12) (hst : StR S k st) : f_X9_isWrong S 237 (nI k) = some (b32 (mWrB st l), S) := by
  have hR := hI.ref
  obtain ⟨s1, s2, s3, s4⟩ := hst
  have hl := ho.1
  have pl : ∀ nm, f_X9_place S 237 nm = some (plO l nm, S) := fun nm => place_R hI h ho.1 ho.2.2
  unfold f_X9_isWrong
  simp (disch := omega) only [g_getI, g_getL, g_getR, g_putI, g_putZ, g_putL, g_putR, g_ldI, g_ldL, g_ldR, g_stI, g_stZ, g_stL, g_stR, g_alen, g_ldX, g_cVI, g_cVL, g_cVR, g_cVV, g_cI, g_cL, g_cN, g_lt, g_jn, g_cpI, g_cpL, g_z, Nat.reduceMul, Nat.reduceAdd, Option.bind_some, or_true, true_or, if_true, ck9 hR, rf_columns hR, g_ck_t (ri_columns hR), rl_columns hR, ix3, cl2, h.1, rf_stepNames hR, g_ck_t (ri_stepNames hR), rl_stepNames hR, rf_whats hR, g_ck_t (ri_whats hR), rl_whats hR, rf_others hR, g_ck_t (ri_others hR), rl_others hR, rf_types hR, g_ck_t (ri_types hR), rl_types hR, g_ix_t, nI_clamp, s1, s2, s3, pl]
  unfold mWrB
  rcases hs.1 with e | e | e | e
  · rw [if_pos e, if_pos e]
    by_cases q : mPlace l st.2.1 < l.length
    · rw [if_pos ((plO_ge hl).mpr q), decide_eq_true (Or.inl q)]; rfl
    · rw [if_neg (fun z => q ((plO_ge hl).mp z))]
      by_cases q2 : l.length = 8
      · rw [if_pos (by rw [q2]; rfl), decide_eq_true (Or.inr (by omega))]; rfl
      · rw [if_neg (show ¬ nI l.length = 8 from fun z => q2 ((nI_eq (b := 8) (by omega) (by omega)).mp z)), decide_eq_false (by omega)]; rfl
  · rw [if_neg (show ¬ st.1 = 0 by rw [e]; decide), if_pos e, if_neg (show ¬ st.1 = 0 by rw [e]; decide)]
    by_cases q : mPlace l st.2.1 < l.length
    · rw [if_pos ((plO_ge hl).mpr q), decide_eq_false (fun z => by
        rcases z with z | z | z
        · exact z q
        · exact absurd (e.symm.trans z.1) (by decide)
        · exact absurd (e.symm.trans z.1) (by decide))]
      rfl
    · rw [if_neg (fun z => q ((plO_ge hl).mp z)), decide_eq_true (Or.inl q)]; rfl
  · rw [if_neg (show ¬ st.1 = 0 by rw [e]; decide), if_neg (show ¬ st.1 = 1 by rw [e]; decide), if_pos e, if_neg (show ¬ st.1 = 0 by rw [e]; decide)]
    by_cases q : mPlace l st.2.1 < l.length
    · rw [if_neg (fun z => (plO_lt hl).mp z q)]
      by_cases q2 : mPlace l st.2.2.1 < l.length
      · rw [if_neg (fun z => (plO_lt hl).mp z q2), decide_eq_true (Or.inr (Or.inl ⟨e, q2⟩))]; rfl
      · rw [if_pos ((plO_lt hl).mpr q2), decide_eq_false (fun z => by
          rcases z with z | z | z
          · exact z q
          · exact q2 z.2
          · exact absurd (e.symm.trans z.1) (by decide))]
        rfl
    · rw [if_pos ((plO_lt hl).mpr q), decide_eq_true (Or.inl q)]; rfl
  · rw [if_neg (show ¬ st.1 = 0 by rw [e]; decide), if_neg (show ¬ st.1 = 1 by rw [e]; decide), if_neg (show ¬ st.1 = 2 by rw [e]; decide), if_neg (show ¬ st.1 = 0 by rw [e]; decide)]
    by_cases q : mPlace l st.2.1 < l.length
    · rw [if_neg (fun z => (plO_lt hl).mp z q), plO_has q, show (16 : Int32) = nI (8 * 2) from rfl, nI_add, g_ix_t (by omega) (by decide), nI_clamp (by omega), h.tyAt q, canBecome_R (ho.ty q) (hs.2 (Or.inr e)), Option.bind_some]
      dsimp only
      cases hb : mCanB (mTyAt l (mPlace l st.2.1)) st.2.2.1 with
      | true =>
        rw [if_neg (by decide), decide_eq_false (fun z => by
          rcases z with z | z | z
          · exact z q
          · exact absurd (e.symm.trans z.1) (by decide)
          · exact absurd z.2 (by decide))]
        rfl
      | false =>
        rw [if_pos (by decide), decide_eq_true (Or.inr (Or.inr ⟨e, rfl⟩))]; rfl
    · rw [if_pos ((plO_lt hl).mpr q), decide_eq_true (Or.inl q)]; rfl
theorem stepDrop_loop {l : List mCol} {p : Nat} {u1 u2 : Int32} {K : gS → Int32 → Option gS} (hl : l.length ≤ 8) (hp : p < l.length) : ∀ (d fu i : Nat) (S : gS), i + 1 + d = l.length → d < fu → Imm S → p ≤ i → gaI S 250 2 = nI l.length → (∀ j c, j < i → (l.eraseIdx p)[j]? = some c → gaI S 248 (16 + j) = c.1 ∧ gaI S 249 (16 + j) = c.2) → (∀ j c, i ≤ j → l[j]? = some c → gaI S 248 (16 + j) = c.1 ∧ gaI S 249 (16 + j) = c.2) → ∃ S1, l_X9_step_99 237 u1 u2 fu S (nI i) K = K S1 (nI (l.length - 1)) ∧ RE [248, 249] [] S S1 ∧ (∀ x, x < 16 → gaI S1 248 x = gaI S 248 x ∧ gaI S1 249 x = gaI S 249 x) ∧ ∀ j c, (l.eraseIdx p)[j]? = some c → gaI S1 248 (16 + j) = c.1 ∧ gaI S1 249 (16 + j) = c.2 := by
  intro d
  induction d with
  | zero =>
    intro fu i S hi hf hI hpi hc hlo hhi
    have hR := hI.ref
    obtain ⟨fu, rfl⟩ : ∃ m, fu = m + 1 := ⟨fu - 1, by omega⟩
    have : i = l.length - 1 := by omega
    subst this
    refine ⟨S, ?_, RE.refl, fun _ _ => ⟨rfl, rfl⟩, fun j c hj => hlo j c ?_ hj⟩
    · rw [l_X9_step_99]
      simp only [g_getI, g_getL, g_getR, g_putI, g_putZ, g_putL, g_putR, g_ldI, g_ldL, g_ldR, g_stI, g_stZ, g_stL, g_stR, g_alen, g_ldX, g_cVI, g_cVL, g_cVR, g_cVV, g_cI, g_cL, g_cN, g_lt, g_jn, g_cpI, g_cpL, g_z, Nat.reduceMul, Nat.reduceAdd, Option.bind_some, or_true, true_or, if_true, ck9 hR, rf_columns hR, g_ck_t (ri_columns hR), rl_columns hR, ix3, cl2, hc, add1]
      rw [if_pos (nI_le (by omega) (by omega))]
    · have := lt_of_some hj
      rw [List.length_eraseIdx_of_lt hp] at this
      exact this
  | succ d ih =>
    intro fu i S hi hf hI hpi hc hlo hhi
    have hR := hI.ref
    obtain ⟨fu, rfl⟩ : ∃ m, fu = m + 1 := ⟨fu - 1, by omega⟩
    have hil : i + 1 < l.length := by omega
    have hx := hhi (i + 1) _ (by omega) (List.getElem?_eq_getElem hil)
    have e : RE [248, 249] [] S (g_rI (g_rI S 248 (upd (gaI S 248) (16 + i) l[i + 1].1)) 249 (upd (gaI S 249) (16 + i) l[i + 1].2)) := (RE.rI (by decide)).trans (RE.rI (by decide))
    obtain ⟨S1, a1, a2, a3, a4⟩ := ih fu (i + 1) (g_rI (g_rI S 248 (upd (gaI S 248) (16 + i) l[i + 1].1)) 249 (upd (gaI S 249) (16 + i) l[i + 1].2)) (by omega) (by omega) (e.imm hI) (by omega) (by rw [e.aI (by decide)]; exact hc) (fun j c hj hjc => by
        simp only [q_pI_fI, q_pI_fL, q_pI_fR, q_pI_aI, q_pI_aL, q_pI_aR, q_pI_K, q_pI_ln, q_pI_n, q_pI_sl, q_pI_is, q_pI_ck, q_pL_fI, q_pL_fL, q_pL_fR, q_pL_aI, q_pL_aL, q_pL_aR, q_pL_K, q_pL_ln, q_pL_n, q_pL_sl, q_pL_is, q_pL_ck, q_pR_fI, q_pR_fL, q_pR_fR, q_pR_aI, q_pR_aL, q_pR_aR, q_pR_K, q_pR_ln, q_pR_n, q_pR_sl, q_pR_is, q_pR_ck, q_rI_fI, q_rI_fL, q_rI_fR, q_rI_aI, q_rI_aL, q_rI_aR, q_rI_K, q_rI_ln, q_rI_n, q_rI_sl, q_rI_is, q_rI_ck, q_rL_fI, q_rL_fL, q_rL_fR, q_rL_aI, q_rL_aL, q_rL_aR, q_rL_K, q_rL_ln, q_rL_n, q_rL_sl, q_rL_is, q_rL_ck, q_rR_fI, q_rR_fL, q_rR_fR, q_rR_aI, q_rR_aL, q_rR_aR, q_rR_K, q_rR_ln, q_rR_n, q_rR_sl, q_rR_is, q_rR_ck, g_row, Nat.reduceEqDiff, reduceIte]
        by_cases z : j = i
        · subst z
          rw [List.getElem?_eraseIdx, if_neg (by omega), List.getElem?_eq_getElem hil] at hjc
          cases hjc
          rw [pk_us, pk_us]
          exact ⟨rfl, rfl⟩
        · rw [pk_un (by omega), pk_un (by omega)]
          exact hlo j c (by omega) hjc) (fun j c hj hjc => by
        simp only [q_pI_fI, q_pI_fL, q_pI_fR, q_pI_aI, q_pI_aL, q_pI_aR, q_pI_K, q_pI_ln, q_pI_n, q_pI_sl, q_pI_is, q_pI_ck, q_pL_fI, q_pL_fL, q_pL_fR, q_pL_aI, q_pL_aL, q_pL_aR, q_pL_K, q_pL_ln, q_pL_n, q_pL_sl, q_pL_is, q_pL_ck, q_pR_fI, q_pR_fL, q_pR_fR, q_pR_aI, q_pR_aL, q_pR_aR, q_pR_K, q_pR_ln, q_pR_n, q_pR_sl, q_pR_is, q_pR_ck, q_rI_fI, q_rI_fL, q_rI_fR, q_rI_aI, q_rI_aL, q_rI_aR, q_rI_K, q_rI_ln, q_rI_n, q_rI_sl, q_rI_is, q_rI_ck, q_rL_fI, q_rL_fL, q_rL_fR, q_rL_aI, q_rL_aL, q_rL_aR, q_rL_K, q_rL_ln, q_rL_n, q_rL_sl, q_rL_is, q_rL_ck, q_rR_fI, q_rR_fL, q_rR_fR, q_rR_aI, q_rR_aL, q_rR_aR, q_rR_K, q_rR_ln, q_rR_n, q_rR_sl, q_rR_is, q_rR_ck, g_row, Nat.reduceEqDiff, reduceIte]
        rw [pk_un (by omega), pk_un (by omega)]
        exact hhi j c (by omega) hjc)
    refine ⟨S1, ?_, e.trans a2, fun x hx => ?_, a4⟩
    · rw [← a1, l_X9_step_99]
      simp only [g_getI, g_getL, g_getR, g_putI, g_putZ, g_putL, g_putR, g_ldI, g_ldL, g_ldR, g_stI, g_stZ, g_stL, g_stR, g_alen, g_ldX, g_cVI, g_cVL, g_cVR, g_cVV, g_cI, g_cL, g_cN, g_lt, g_jn, g_cpI, g_cpL, g_z, Nat.reduceMul, Nat.reduceAdd, Option.bind_some, or_true, true_or, if_true, q_pI_fI, q_pI_fL, q_pI_fR, q_pI_aI, q_pI_aL, q_pI_aR, q_pI_K, q_pI_ln, q_pI_n, q_pI_sl, q_pI_is, q_pI_ck, q_pL_fI, q_pL_fL, q_pL_fR, q_pL_aI, q_pL_aL, q_pL_aR, q_pL_K, q_pL_ln, q_pL_n, q_pL_sl, q_pL_is, q_pL_ck, q_pR_fI, q_pR_fL, q_pR_fR, q_pR_aI, q_pR_aL, q_pR_aR, q_pR_K, q_pR_ln, q_pR_n, q_pR_sl, q_pR_is, q_pR_ck, q_rI_fI, q_rI_fL, q_rI_fR, q_rI_aI, q_rI_aL, q_rI_aR, q_rI_K, q_rI_ln, q_rI_n, q_rI_sl, q_rI_is, q_rI_ck, q_rL_fI, q_rL_fL, q_rL_fR, q_rL_aI, q_rL_aL, q_rL_aR, q_rL_K, q_rL_ln, q_rL_n, q_rL_sl, q_rL_is, q_rL_ck, q_rR_fI, q_rR_fL, q_rR_fR, q_rR_aI, q_rR_aL, q_rR_aR, q_rR_K, q_rR_ln, q_rR_n, q_rR_sl, q_rR_is, q_rR_ck, ck9 hR, rf_columns hR, g_ck_t (ri_columns hR), rl_columns hR, ix3, cl2, hc, add1, rf_names hR, g_ck_t (ri_names hR), rl_names hR, rf_types hR, g_ck_t (ri_types hR), rl_types hR, g_row, Nat.reduceEqDiff, reduceIte]
      rw [if_neg (nI_ge (by omega) (by omega)), show (17 : Int32) = nI 17 from rfl, show (16 : Int32) = nI 16 from rfl, nI_add, nI_add]
      simp (disch := omega) only [g_ix_t, nI_clamp]
      rw [show 17 + i = 16 + (i + 1) by omega, hx.1, hx.2]
    · have := a3 x hx
      simp only [q_pI_fI, q_pI_fL, q_pI_fR, q_pI_aI, q_pI_aL, q_pI_aR, q_pI_K, q_pI_ln, q_pI_n, q_pI_sl, q_pI_is, q_pI_ck, q_pL_fI, q_pL_fL, q_pL_fR, q_pL_aI, q_pL_aL, q_pL_aR, q_pL_K, q_pL_ln, q_pL_n, q_pL_sl, q_pL_is, q_pL_ck, q_pR_fI, q_pR_fL, q_pR_fR, q_pR_aI, q_pR_aL, q_pR_aR, q_pR_K, q_pR_ln, q_pR_n, q_pR_sl, q_pR_is, q_pR_ck, q_rI_fI, q_rI_fL, q_rI_fR, q_rI_aI, q_rI_aL, q_rI_aR, q_rI_K, q_rI_ln, q_rI_n, q_rI_sl, q_rI_is, q_rI_ck, q_rL_fI, q_rL_fL, q_rL_fR, q_rL_aI, q_rL_aL, q_rL_aR, q_rL_K, q_rL_ln, q_rL_n, q_rL_sl, q_rL_is, q_rL_ck, q_rR_fI, q_rR_fL, q_rR_fR, q_rR_aI, q_rR_aL, q_rR_aR, q_rR_K, q_rR_ln, q_rR_n, q_rR_sl, q_rR_is, q_rR_ck, g_row, Nat.reduceEqDiff, reduceIte] at this
      rw [pk_un (by omega), pk_un (by omega)] at this
      exact this
theorem step_R {S : gS} {l : List mCol} {st : mStep} {k : Nat} (hI : Imm S) (h : SchR S 2 l) (ho : scOk l) (hs : stOk st) (hw : ¬ mWrong st l) (hk : k < 12) (hst : StR S k st) : ∃ S1, f_X9_step S 237 (nI k) = some S1 ∧ RE [248, 249, 250] [] S S1 ∧ SchR S1 2 (mStepS st l) ∧ ∀ j l', j < 2 → l'.length ≤ 8 → SchR S j l' → SchR S1 j l' := by
  have hR := hI.ref
  obtain ⟨s1, s2, s3, s4⟩ := hst
  have hl := ho.1
  have pl : ∀ nm, f_X9_place S 237 nm = some (plO l nm, S) := fun nm => place_R hI h ho.1 ho.2.2
  unfold f_X9_step
  simp (disch := omega) only [g_getI, g_getL, g_getR, g_putI, g_putZ, g_putL, g_putR, g_ldI, g_ldL, g_ldR, g_stI, g_stZ, g_stL, g_stR, g_alen, g_ldX, g_cVI, g_cVL, g_cVR, g_cVV, g_cI, g_cL, g_cN, g_lt, g_jn, g_cpI, g_cpL, g_z, Nat.reduceMul, Nat.reduceAdd, Option.bind_some, or_true, true_or, if_true, q_pI_fI, q_pI_fL, q_pI_fR, q_pI_aI, q_pI_aL, q_pI_aR, q_pI_K, q_pI_ln, q_pI_n, q_pI_sl, q_pI_is, q_pI_ck, q_pL_fI, q_pL_fL, q_pL_fR, q_pL_aI, q_pL_aL, q_pL_aR, q_pL_K, q_pL_ln, q_pL_n, q_pL_sl, q_pL_is, q_pL_ck, q_pR_fI, q_pR_fL, q_pR_fR, q_pR_aI, q_pR_aL, q_pR_aR, q_pR_K, q_pR_ln, q_pR_n, q_pR_sl, q_pR_is, q_pR_ck, q_rI_fI, q_rI_fL, q_rI_fR, q_rI_aI, q_rI_aL, q_rI_aR, q_rI_K, q_rI_ln, q_rI_n, q_rI_sl, q_rI_is, q_rI_ck, q_rL_fI, q_rL_fL, q_rL_fR, q_rL_aI, q_rL_aL, q_rL_aR, q_rL_K, q_rL_ln, q_rL_n, q_rL_sl, q_rL_is, q_rL_ck, q_rR_fI, q_rR_fL, q_rR_fR, q_rR_aI, q_rR_aL, q_rR_aR, q_rR_K, q_rR_ln, q_rR_n, q_rR_sl, q_rR_is, q_rR_ck, ck9 hR, rf_columns hR, g_ck_t (ri_columns hR), rl_columns hR, ix3, cl2, h.1, rf_stepNames hR, g_ck_t (ri_stepNames hR), rl_stepNames hR, rf_whats hR, g_ck_t (ri_whats hR), rl_whats hR, rf_others hR, g_ck_t (ri_others hR), rl_others hR, rf_types hR, g_ck_t (ri_types hR), rl_types hR, rf_names hR, g_ck_t (ri_names hR), rl_names hR, g_ix_t, nI_clamp, s1, s2, s3, pl, g_row, Nat.reduceEqDiff, reduceIte]
  rcases hs.1 with e | e | e | e
  · obtain ⟨p1, p2⟩ := right_add hw e
    rw [if_pos e, show (16 : Int32) = nI 16 from rfl, nI_add]
    simp (disch := omega) only [g_ix_t, nI_clamp, add1]
    have er : RE [248, 249, 250] [] S (g_rI (g_rI (g_rI S 248 (upd (gaI S 248) (16 + l.length) st.2.1)) 249 (upd (gaI S 249) (16 + l.length) st.2.2.1)) 250 (upd (gaI S 250) 2 (nI (l.length + 1)))) := ((RE.rI (by decide)).trans (RE.rI (by decide))).trans (RE.rI (by decide))
    refine ⟨_, rfl, er, ⟨?_, fun i c hc => ?_⟩, fun j l' hj hl' h' => ⟨?_, fun i c hc => ?_⟩⟩
    · simp only [q_pI_fI, q_pI_fL, q_pI_fR, q_pI_aI, q_pI_aL, q_pI_aR, q_pI_K, q_pI_ln, q_pI_n, q_pI_sl, q_pI_is, q_pI_ck, q_pL_fI, q_pL_fL, q_pL_fR, q_pL_aI, q_pL_aL, q_pL_aR, q_pL_K, q_pL_ln, q_pL_n, q_pL_sl, q_pL_is, q_pL_ck, q_pR_fI, q_pR_fL, q_pR_fR, q_pR_aI, q_pR_aL, q_pR_aR, q_pR_K, q_pR_ln, q_pR_n, q_pR_sl, q_pR_is, q_pR_ck, q_rI_fI, q_rI_fL, q_rI_fR, q_rI_aI, q_rI_aL, q_rI_aR, q_rI_K, q_rI_ln, q_rI_n, q_rI_sl, q_rI_is, q_rI_ck, q_rL_fI, q_rL_fL, q_rL_fR, q_rL_aI, q_rL_aL, q_rL_aR, q_rL_K, q_rL_ln, q_rL_n, q_rL_sl, q_rL_is, q_rL_ck, q_rR_fI, q_rR_fL, q_rR_fR, q_rR_aI, q_rR_aL, q_rR_aR, q_rR_K, q_rR_ln, q_rR_n, q_rR_sl, q_rR_is, q_rR_ck, g_row, Nat.reduceEqDiff, reduceIte]
      rw [pk_us, stepS_add e, List.length_append]
      rfl
    · simp only [q_pI_fI, q_pI_fL, q_pI_fR, q_pI_aI, q_pI_aL, q_pI_aR, q_pI_K, q_pI_ln, q_pI_n, q_pI_sl, q_pI_is, q_pI_ck, q_pL_fI, q_pL_fL, q_pL_fR, q_pL_aI, q_pL_aL, q_pL_aR, q_pL_K, q_pL_ln, q_pL_n, q_pL_sl, q_pL_is, q_pL_ck, q_pR_fI, q_pR_fL, q_pR_fR, q_pR_aI, q_pR_aL, q_pR_aR, q_pR_K, q_pR_ln, q_pR_n, q_pR_sl, q_pR_is, q_pR_ck, q_rI_fI, q_rI_fL, q_rI_fR, q_rI_aI, q_rI_aL, q_rI_aR, q_rI_K, q_rI_ln, q_rI_n, q_rI_sl, q_rI_is, q_rI_ck, q_rL_fI, q_rL_fL, q_rL_fR, q_rL_aI, q_rL_aL, q_rL_aR, q_rL_K, q_rL_ln, q_rL_n, q_rL_sl, q_rL_is, q_rL_ck, q_rR_fI, q_rR_fL, q_rR_fR, q_rR_aI, q_rR_aL, q_rR_aR, q_rR_K, q_rR_ln, q_rR_n, q_rR_sl, q_rR_is, q_rR_ck, g_row, Nat.reduceEqDiff, reduceIte]
      rw [stepS_add e] at hc
      have hi := lt_of_some hc
      rw [List.length_append, List.length_singleton] at hi
      by_cases q : i < l.length
      · rw [List.getElem?_append_left q] at hc
        rw [pk_un (by omega), pk_un (by omega)]
        exact h.2 i c hc
      · have : i = l.length := by omega
        subst this
        rw [List.getElem?_append_right (by omega), Nat.sub_self] at hc
        cases hc
        rw [pk_us, pk_us]
        exact ⟨rfl, rfl⟩
    · simp only [q_pI_fI, q_pI_fL, q_pI_fR, q_pI_aI, q_pI_aL, q_pI_aR, q_pI_K, q_pI_ln, q_pI_n, q_pI_sl, q_pI_is, q_pI_ck, q_pL_fI, q_pL_fL, q_pL_fR, q_pL_aI, q_pL_aL, q_pL_aR, q_pL_K, q_pL_ln, q_pL_n, q_pL_sl, q_pL_is, q_pL_ck, q_pR_fI, q_pR_fL, q_pR_fR, q_pR_aI, q_pR_aL, q_pR_aR, q_pR_K, q_pR_ln, q_pR_n, q_pR_sl, q_pR_is, q_pR_ck, q_rI_fI, q_rI_fL, q_rI_fR, q_rI_aI, q_rI_aL, q_rI_aR, q_rI_K, q_rI_ln, q_rI_n, q_rI_sl, q_rI_is, q_rI_ck, q_rL_fI, q_rL_fL, q_rL_fR, q_rL_aI, q_rL_aL, q_rL_aR, q_rL_K, q_rL_ln, q_rL_n, q_rL_sl, q_rL_is, q_rL_ck, q_rR_fI, q_rR_fL, q_rR_fR, q_rR_aI, q_rR_aL, q_rR_aR, q_rR_K, q_rR_ln, q_rR_n, q_rR_sl, q_rR_is, q_rR_ck, g_row, Nat.reduceEqDiff, reduceIte]
      rw [pk_un (by omega)]
      exact h'.1
    · have hi := lt_of_some hc
      simp only [q_pI_fI, q_pI_fL, q_pI_fR, q_pI_aI, q_pI_aL, q_pI_aR, q_pI_K, q_pI_ln, q_pI_n, q_pI_sl, q_pI_is, q_pI_ck, q_pL_fI, q_pL_fL, q_pL_fR, q_pL_aI, q_pL_aL, q_pL_aR, q_pL_K, q_pL_ln, q_pL_n, q_pL_sl, q_pL_is, q_pL_ck, q_pR_fI, q_pR_fL, q_pR_fR, q_pR_aI, q_pR_aL, q_pR_aR, q_pR_K, q_pR_ln, q_pR_n, q_pR_sl, q_pR_is, q_pR_ck, q_rI_fI, q_rI_fL, q_rI_fR, q_rI_aI, q_rI_aL, q_rI_aR, q_rI_K, q_rI_ln, q_rI_n, q_rI_sl, q_rI_is, q_rI_ck, q_rL_fI, q_rL_fL, q_rL_fR, q_rL_aI, q_rL_aL, q_rL_aR, q_rL_K, q_rL_ln, q_rL_n, q_rL_sl, q_rL_is, q_rL_ck, q_rR_fI, q_rR_fL, q_rR_fR, q_rR_aI, q_rR_aL, q_rR_aR, q_rR_K, q_rR_ln, q_rR_n, q_rR_sl, q_rR_is, q_rR_ck, g_row, Nat.reduceEqDiff, reduceIte]
      rw [pk_un (by omega), pk_un (by omega)]
      exact h'.2 i c hc
  · have hp := right_has hw (by rw [e]; decide)
    rw [if_neg (show ¬ st.1 = 0 by rw [e]; decide), if_pos e, plO_has hp]
    obtain ⟨S1, a1, a2, a3, a4⟩ := stepDrop_loop (u1 := nI k) (u2 := nI (mPlace l st.2.1)) (K := fun S34 v35 => g_getR S34 9 13 237 fun a36 => g_ldI S34 10 a36 (2 : Int32) fun x37 => g_stI S34 a36 (2 : Int32) (x37 - (1 : Int32)) fun S38 => some S38) hl hp (l.length - 1 - mPlace l st.2.1) 100 (mPlace l st.2.1) S (by omega) (by omega) hI (by omega) h.1 (fun j c hj hjc => by
        rw [List.getElem?_eraseIdx, if_pos hj] at hjc
        exact h.2 j c hjc) (fun j c hj hjc => h.2 j c hjc)
    have hI1 := a2.imm hI
    have hR1 := hI1.ref
    have c1 : gaI S1 250 2 = nI l.length := by rw [a2.aI (by decide)]; exact h.1
    have er : RE [248, 249, 250] [] S (g_rI S1 250 (upd (gaI S1 250) 2 (nI (l.length - 1)))) := (a2.mono (by decide) (by decide)).trans (RE.rI (by decide))
    refine ⟨g_rI S1 250 (upd (gaI S1 250) 2 (nI (l.length - 1))), ?_, er, ⟨?_, fun i c hc => ?_⟩, fun j l' hj hl' h' => ⟨?_, fun i c hc => ?_⟩⟩
    · refine Eq.trans ?_ (a1.trans ?_)
      · simp only [g_getI, g_getL, g_getR, g_putI, g_putZ, g_putL, g_putR, g_ldI, g_ldL, g_ldR, g_stI, g_stZ, g_stL, g_stR, g_alen, g_ldX, g_cVI, g_cVL, g_cVR, g_cVV, g_cI, g_cL, g_cN, g_lt, g_jn, g_cpI, g_cpL, g_z, Nat.reduceMul, Nat.reduceAdd, Option.bind_some, or_true, true_or, if_true, cl2]
      · simp only [g_getI, g_getL, g_getR, g_putI, g_putZ, g_putL, g_putR, g_ldI, g_ldL, g_ldR, g_stI, g_stZ, g_stL, g_stR, g_alen, g_ldX, g_cVI, g_cVL, g_cVR, g_cVV, g_cI, g_cL, g_cN, g_lt, g_jn, g_cpI, g_cpL, g_z, Nat.reduceMul, Nat.reduceAdd, Option.bind_some, or_true, true_or, if_true, ck9 hR1, rf_columns hR1, g_ck_t (ri_columns hR1), rl_columns hR1, ix3, cl2, c1]
        rw [show nI l.length - (1 : Int32) = nI (l.length - 1) from sub_nI (b := 1) (by omega)]
    · simp only [q_pI_fI, q_pI_fL, q_pI_fR, q_pI_aI, q_pI_aL, q_pI_aR, q_pI_K, q_pI_ln, q_pI_n, q_pI_sl, q_pI_is, q_pI_ck, q_pL_fI, q_pL_fL, q_pL_fR, q_pL_aI, q_pL_aL, q_pL_aR, q_pL_K, q_pL_ln, q_pL_n, q_pL_sl, q_pL_is, q_pL_ck, q_pR_fI, q_pR_fL, q_pR_fR, q_pR_aI, q_pR_aL, q_pR_aR, q_pR_K, q_pR_ln, q_pR_n, q_pR_sl, q_pR_is, q_pR_ck, q_rI_fI, q_rI_fL, q_rI_fR, q_rI_aI, q_rI_aL, q_rI_aR, q_rI_K, q_rI_ln, q_rI_n, q_rI_sl, q_rI_is, q_rI_ck, q_rL_fI, q_rL_fL, q_rL_fR, q_rL_aI, q_rL_aL, q_rL_aR, q_rL_K, q_rL_ln, q_rL_n, q_rL_sl, q_rL_is, q_rL_ck, q_rR_fI, q_rR_fL, q_rR_fR, q_rR_aI, q_rR_aL, q_rR_aR, q_rR_K, q_rR_ln, q_rR_n, q_rR_sl, q_rR_is, q_rR_ck, g_row, Nat.reduceEqDiff, reduceIte]
      rw [pk_us, stepS_drop e, List.length_eraseIdx_of_lt hp]
    · simp only [q_pI_fI, q_pI_fL, q_pI_fR, q_pI_aI, q_pI_aL, q_pI_aR, q_pI_K, q_pI_ln, q_pI_n, q_pI_sl, q_pI_is, q_pI_ck, q_pL_fI, q_pL_fL, q_pL_fR, q_pL_aI, q_pL_aL, q_pL_aR, q_pL_K, q_pL_ln, q_pL_n, q_pL_sl, q_pL_is, q_pL_ck, q_pR_fI, q_pR_fL, q_pR_fR, q_pR_aI, q_pR_aL, q_pR_aR, q_pR_K, q_pR_ln, q_pR_n, q_pR_sl, q_pR_is, q_pR_ck, q_rI_fI, q_rI_fL, q_rI_fR, q_rI_aI, q_rI_aL, q_rI_aR, q_rI_K, q_rI_ln, q_rI_n, q_rI_sl, q_rI_is, q_rI_ck, q_rL_fI, q_rL_fL, q_rL_fR, q_rL_aI, q_rL_aL, q_rL_aR, q_rL_K, q_rL_ln, q_rL_n, q_rL_sl, q_rL_is, q_rL_ck, q_rR_fI, q_rR_fL, q_rR_fR, q_rR_aI, q_rR_aL, q_rR_aR, q_rR_K, q_rR_ln, q_rR_n, q_rR_sl, q_rR_is, q_rR_ck, g_row, Nat.reduceEqDiff, reduceIte]
      rw [stepS_drop e] at hc
      exact a4 i c hc
    · simp only [q_pI_fI, q_pI_fL, q_pI_fR, q_pI_aI, q_pI_aL, q_pI_aR, q_pI_K, q_pI_ln, q_pI_n, q_pI_sl, q_pI_is, q_pI_ck, q_pL_fI, q_pL_fL, q_pL_fR, q_pL_aI, q_pL_aL, q_pL_aR, q_pL_K, q_pL_ln, q_pL_n, q_pL_sl, q_pL_is, q_pL_ck, q_pR_fI, q_pR_fL, q_pR_fR, q_pR_aI, q_pR_aL, q_pR_aR, q_pR_K, q_pR_ln, q_pR_n, q_pR_sl, q_pR_is, q_pR_ck, q_rI_fI, q_rI_fL, q_rI_fR, q_rI_aI, q_rI_aL, q_rI_aR, q_rI_K, q_rI_ln, q_rI_n, q_rI_sl, q_rI_is, q_rI_ck, q_rL_fI, q_rL_fL, q_rL_fR, q_rL_aI, q_rL_aL, q_rL_aR, q_rL_K, q_rL_ln, q_rL_n, q_rL_sl, q_rL_is, q_rL_ck, q_rR_fI, q_rR_fL, q_rR_fR, q_rR_aI, q_rR_aL, q_rR_aR, q_rR_K, q_rR_ln, q_rR_n, q_rR_sl, q_rR_is, q_rR_ck, g_row, Nat.reduceEqDiff, reduceIte]
      rw [pk_un (by omega), a2.aI (by decide)]
      exact h'.1
    · have hi := lt_of_some hc
      simp only [q_pI_fI, q_pI_fL, q_pI_fR, q_pI_aI, q_pI_aL, q_pI_aR, q_pI_K, q_pI_ln, q_pI_n, q_pI_sl, q_pI_is, q_pI_ck, q_pL_fI, q_pL_fL, q_pL_fR, q_pL_aI, q_pL_aL, q_pL_aR, q_pL_K, q_pL_ln, q_pL_n, q_pL_sl, q_pL_is, q_pL_ck, q_pR_fI, q_pR_fL, q_pR_fR, q_pR_aI, q_pR_aL, q_pR_aR, q_pR_K, q_pR_ln, q_pR_n, q_pR_sl, q_pR_is, q_pR_ck, q_rI_fI, q_rI_fL, q_rI_fR, q_rI_aI, q_rI_aL, q_rI_aR, q_rI_K, q_rI_ln, q_rI_n, q_rI_sl, q_rI_is, q_rI_ck, q_rL_fI, q_rL_fL, q_rL_fR, q_rL_aI, q_rL_aL, q_rL_aR, q_rL_K, q_rL_ln, q_rL_n, q_rL_sl, q_rL_is, q_rL_ck, q_rR_fI, q_rR_fL, q_rR_fR, q_rR_aI, q_rR_aL, q_rR_aR, q_rR_K, q_rR_ln, q_rR_n, q_rR_sl, q_rR_is, q_rR_ck, g_row, Nat.reduceEqDiff, reduceIte]
      rw [(a3 (8 * j + i) (by omega)).1, (a3 (8 * j + i) (by omega)).2]
      exact h'.2 i c hc
  · have hp := right_has hw (by rw [e]; decide)
    rw [if_neg (show ¬ st.1 = 0 by rw [e]; decide), if_neg (show ¬ st.1 = 1 by rw [e]; decide), if_pos e, plO_has hp, show (16 : Int32) = nI 16 from rfl, nI_add, g_ix_t (by omega) (by decide), nI_clamp (by omega)]
    refine ⟨_, rfl, RE.rI (by decide), ⟨?_, fun i c hc => ?_⟩, fun j l' hj hl' h' => ⟨?_, fun i c hc => ?_⟩⟩
    · simp only [q_pI_fI, q_pI_fL, q_pI_fR, q_pI_aI, q_pI_aL, q_pI_aR, q_pI_K, q_pI_ln, q_pI_n, q_pI_sl, q_pI_is, q_pI_ck, q_pL_fI, q_pL_fL, q_pL_fR, q_pL_aI, q_pL_aL, q_pL_aR, q_pL_K, q_pL_ln, q_pL_n, q_pL_sl, q_pL_is, q_pL_ck, q_pR_fI, q_pR_fL, q_pR_fR, q_pR_aI, q_pR_aL, q_pR_aR, q_pR_K, q_pR_ln, q_pR_n, q_pR_sl, q_pR_is, q_pR_ck, q_rI_fI, q_rI_fL, q_rI_fR, q_rI_aI, q_rI_aL, q_rI_aR, q_rI_K, q_rI_ln, q_rI_n, q_rI_sl, q_rI_is, q_rI_ck, q_rL_fI, q_rL_fL, q_rL_fR, q_rL_aI, q_rL_aL, q_rL_aR, q_rL_K, q_rL_ln, q_rL_n, q_rL_sl, q_rL_is, q_rL_ck, q_rR_fI, q_rR_fL, q_rR_fR, q_rR_aI, q_rR_aL, q_rR_aR, q_rR_K, q_rR_ln, q_rR_n, q_rR_sl, q_rR_is, q_rR_ck, g_row, Nat.reduceEqDiff, reduceIte]
      rw [stepS_ren e, List.length_set]
      exact h.1
    · simp only [q_pI_fI, q_pI_fL, q_pI_fR, q_pI_aI, q_pI_aL, q_pI_aR, q_pI_K, q_pI_ln, q_pI_n, q_pI_sl, q_pI_is, q_pI_ck, q_pL_fI, q_pL_fL, q_pL_fR, q_pL_aI, q_pL_aL, q_pL_aR, q_pL_K, q_pL_ln, q_pL_n, q_pL_sl, q_pL_is, q_pL_ck, q_pR_fI, q_pR_fL, q_pR_fR, q_pR_aI, q_pR_aL, q_pR_aR, q_pR_K, q_pR_ln, q_pR_n, q_pR_sl, q_pR_is, q_pR_ck, q_rI_fI, q_rI_fL, q_rI_fR, q_rI_aI, q_rI_aL, q_rI_aR, q_rI_K, q_rI_ln, q_rI_n, q_rI_sl, q_rI_is, q_rI_ck, q_rL_fI, q_rL_fL, q_rL_fR, q_rL_aI, q_rL_aL, q_rL_aR, q_rL_K, q_rL_ln, q_rL_n, q_rL_sl, q_rL_is, q_rL_ck, q_rR_fI, q_rR_fL, q_rR_fR, q_rR_aI, q_rR_aL, q_rR_aR, q_rR_K, q_rR_ln, q_rR_n, q_rR_sl, q_rR_is, q_rR_ck, g_row, Nat.reduceEqDiff, reduceIte]
      rw [stepS_ren e, List.getElem?_set] at hc
      by_cases q : mPlace l st.2.1 = i
      · rw [if_pos q, if_pos hp] at hc
        cases hc
        subst q
        rw [pk_us]
        exact ⟨rfl, h.tyAt hp⟩
      · rw [if_neg q] at hc
        rw [pk_un (by omega)]
        exact h.2 i c hc
    · simp only [q_pI_fI, q_pI_fL, q_pI_fR, q_pI_aI, q_pI_aL, q_pI_aR, q_pI_K, q_pI_ln, q_pI_n, q_pI_sl, q_pI_is, q_pI_ck, q_pL_fI, q_pL_fL, q_pL_fR, q_pL_aI, q_pL_aL, q_pL_aR, q_pL_K, q_pL_ln, q_pL_n, q_pL_sl, q_pL_is, q_pL_ck, q_pR_fI, q_pR_fL, q_pR_fR, q_pR_aI, q_pR_aL, q_pR_aR, q_pR_K, q_pR_ln, q_pR_n, q_pR_sl, q_pR_is, q_pR_ck, q_rI_fI, q_rI_fL, q_rI_fR, q_rI_aI, q_rI_aL, q_rI_aR, q_rI_K, q_rI_ln, q_rI_n, q_rI_sl, q_rI_is, q_rI_ck, q_rL_fI, q_rL_fL, q_rL_fR, q_rL_aI, q_rL_aL, q_rL_aR, q_rL_K, q_rL_ln, q_rL_n, q_rL_sl, q_rL_is, q_rL_ck, q_rR_fI, q_rR_fL, q_rR_fR, q_rR_aI, q_rR_aL, q_rR_aR, q_rR_K, q_rR_ln, q_rR_n, q_rR_sl, q_rR_is, q_rR_ck, g_row, Nat.reduceEqDiff, reduceIte]
      exact h'.1
    · have hi := lt_of_some hc
      simp only [q_pI_fI, q_pI_fL, q_pI_fR, q_pI_aI, q_pI_aL, q_pI_aR, q_pI_K, q_pI_ln, q_pI_n, q_pI_sl, q_pI_is, q_pI_ck, q_pL_fI, q_pL_fL, q_pL_fR, q_pL_aI, q_pL_aL, q_pL_aR, q_pL_K, q_pL_ln, q_pL_n, q_pL_sl, q_pL_is, q_pL_ck, q_pR_fI, q_pR_fL, q_pR_fR, q_pR_aI, q_pR_aL, q_pR_aR, q_pR_K, q_pR_ln, q_pR_n, q_pR_sl, q_pR_is, q_pR_ck, q_rI_fI, q_rI_fL, q_rI_fR, q_rI_aI, q_rI_aL, q_rI_aR, q_rI_K, q_rI_ln, q_rI_n, q_rI_sl, q_rI_is, q_rI_ck, q_rL_fI, q_rL_fL, q_rL_fR, q_rL_aI, q_rL_aL, q_rL_aR, q_rL_K, q_rL_ln, q_rL_n, q_rL_sl, q_rL_is, q_rL_ck, q_rR_fI, q_rR_fL, q_rR_fR, q_rR_aI, q_rR_aL, q_rR_aR, q_rR_K, q_rR_ln, q_rR_n, q_rR_sl, q_rR_is, q_rR_ck, g_row, Nat.reduceEqDiff, reduceIte]
      rw [pk_un (by omega)]
      exact h'.2 i c hc
  · have hp := right_has hw (by rw [e]; decide)
    rw [if_neg (show ¬ st.1 = 0 by rw [e]; decide), if_neg (show ¬ st.1 = 1 by rw [e]; decide), if_neg (show ¬ st.1 = 2 by rw [e]; decide), plO_has hp, show (16 : Int32) = nI 16 from rfl, nI_add, g_ix_t (by omega) (by decide), nI_clamp (by omega)]
    refine ⟨_, rfl, RE.rI (by decide), ⟨?_, fun i c hc => ?_⟩, fun j l' hj hl' h' => ⟨?_, fun i c hc => ?_⟩⟩
    · simp only [q_pI_fI, q_pI_fL, q_pI_fR, q_pI_aI, q_pI_aL, q_pI_aR, q_pI_K, q_pI_ln, q_pI_n, q_pI_sl, q_pI_is, q_pI_ck, q_pL_fI, q_pL_fL, q_pL_fR, q_pL_aI, q_pL_aL, q_pL_aR, q_pL_K, q_pL_ln, q_pL_n, q_pL_sl, q_pL_is, q_pL_ck, q_pR_fI, q_pR_fL, q_pR_fR, q_pR_aI, q_pR_aL, q_pR_aR, q_pR_K, q_pR_ln, q_pR_n, q_pR_sl, q_pR_is, q_pR_ck, q_rI_fI, q_rI_fL, q_rI_fR, q_rI_aI, q_rI_aL, q_rI_aR, q_rI_K, q_rI_ln, q_rI_n, q_rI_sl, q_rI_is, q_rI_ck, q_rL_fI, q_rL_fL, q_rL_fR, q_rL_aI, q_rL_aL, q_rL_aR, q_rL_K, q_rL_ln, q_rL_n, q_rL_sl, q_rL_is, q_rL_ck, q_rR_fI, q_rR_fL, q_rR_fR, q_rR_aI, q_rR_aL, q_rR_aR, q_rR_K, q_rR_ln, q_rR_n, q_rR_sl, q_rR_is, q_rR_ck, g_row, Nat.reduceEqDiff, reduceIte]
      rw [stepS_ret e, List.length_set]
      exact h.1
    · simp only [q_pI_fI, q_pI_fL, q_pI_fR, q_pI_aI, q_pI_aL, q_pI_aR, q_pI_K, q_pI_ln, q_pI_n, q_pI_sl, q_pI_is, q_pI_ck, q_pL_fI, q_pL_fL, q_pL_fR, q_pL_aI, q_pL_aL, q_pL_aR, q_pL_K, q_pL_ln, q_pL_n, q_pL_sl, q_pL_is, q_pL_ck, q_pR_fI, q_pR_fL, q_pR_fR, q_pR_aI, q_pR_aL, q_pR_aR, q_pR_K, q_pR_ln, q_pR_n, q_pR_sl, q_pR_is, q_pR_ck, q_rI_fI, q_rI_fL, q_rI_fR, q_rI_aI, q_rI_aL, q_rI_aR, q_rI_K, q_rI_ln, q_rI_n, q_rI_sl, q_rI_is, q_rI_ck, q_rL_fI, q_rL_fL, q_rL_fR, q_rL_aI, q_rL_aL, q_rL_aR, q_rL_K, q_rL_ln, q_rL_n, q_rL_sl, q_rL_is, q_rL_ck, q_rR_fI, q_rR_fL, q_rR_fR, q_rR_aI, q_rR_aL, q_rR_aR, q_rR_K, q_rR_ln, q_rR_n, q_rR_sl, q_rR_is, q_rR_ck, g_row, Nat.reduceEqDiff, reduceIte]
      rw [stepS_ret e, List.getElem?_set] at hc
      by_cases q : mPlace l st.2.1 = i
      · rw [if_pos q, if_pos hp] at hc
        cases hc
        subst q
        rw [pk_us]
        obtain ⟨c, c1, c2⟩ := mPlace_at hp
        exact ⟨(h.2 _ c c1).1.trans c2, rfl⟩
      · rw [if_neg q] at hc
        rw [pk_un (by omega)]
        exact h.2 i c hc
    · simp only [q_pI_fI, q_pI_fL, q_pI_fR, q_pI_aI, q_pI_aL, q_pI_aR, q_pI_K, q_pI_ln, q_pI_n, q_pI_sl, q_pI_is, q_pI_ck, q_pL_fI, q_pL_fL, q_pL_fR, q_pL_aI, q_pL_aL, q_pL_aR, q_pL_K, q_pL_ln, q_pL_n, q_pL_sl, q_pL_is, q_pL_ck, q_pR_fI, q_pR_fL, q_pR_fR, q_pR_aI, q_pR_aL, q_pR_aR, q_pR_K, q_pR_ln, q_pR_n, q_pR_sl, q_pR_is, q_pR_ck, q_rI_fI, q_rI_fL, q_rI_fR, q_rI_aI, q_rI_aL, q_rI_aR, q_rI_K, q_rI_ln, q_rI_n, q_rI_sl, q_rI_is, q_rI_ck, q_rL_fI, q_rL_fL, q_rL_fR, q_rL_aI, q_rL_aL, q_rL_aR, q_rL_K, q_rL_ln, q_rL_n, q_rL_sl, q_rL_is, q_rL_ck, q_rR_fI, q_rR_fL, q_rR_fR, q_rR_aI, q_rR_aL, q_rR_aR, q_rR_K, q_rR_ln, q_rR_n, q_rR_sl, q_rR_is, q_rR_ck, g_row, Nat.reduceEqDiff, reduceIte]
      exact h'.1
    · have hi := lt_of_some hc
      simp only [q_pI_fI, q_pI_fL, q_pI_fR, q_pI_aI, q_pI_aL, q_pI_aR, q_pI_K, q_pI_ln, q_pI_n, q_pI_sl, q_pI_is, q_pI_ck, q_pL_fI, q_pL_fL, q_pL_fR, q_pL_aI, q_pL_aL, q_pL_aR, q_pL_K, q_pL_ln, q_pL_n, q_pL_sl, q_pL_is, q_pL_ck, q_pR_fI, q_pR_fL, q_pR_fR, q_pR_aI, q_pR_aL, q_pR_aR, q_pR_K, q_pR_ln, q_pR_n, q_pR_sl, q_pR_is, q_pR_ck, q_rI_fI, q_rI_fL, q_rI_fR, q_rI_aI, q_rI_aL, q_rI_aR, q_rI_K, q_rI_ln, q_rI_n, q_rI_sl, q_rI_is, q_rI_ck, q_rL_fI, q_rL_fL, q_rL_fR, q_rL_aI, q_rL_aL, q_rL_aR, q_rL_K, q_rL_ln, q_rL_n, q_rL_sl, q_rL_is, q_rL_ck, q_rR_fI, q_rR_fL, q_rR_fR, q_rR_aI, q_rR_aL, q_rR_aR, q_rR_K, q_rR_ln, q_rR_n, q_rR_sl, q_rR_is, q_rR_ck, g_row, Nat.reduceEqDiff, reduceIte]
      rw [pk_un (by omega)]
      exact h'.2 i c hc
