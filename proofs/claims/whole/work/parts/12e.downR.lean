/-! ===== a form made down, of the reference ===== -/
abbrev Trk : Type := Option (Nat × List Int32)
def tr1 (st : mStep) (l : List mCol) (x : Trk) : Trk := match x with
  | none => none
  | some z => match mBeh st l z.1 with
    | none => none
    | some z2 => some (z2, if st.1 = 3 ∧ mPlace l st.2.1 = z.1 then z.2 ++ [mTyAt l z.1] else z.2)
def trF : List mStep → List mCol → Trk → Trk
  | [], _, x => x
  | st :: ss, l, x => trF ss (mStepS st l) (tr1 st l x)
theorem trF_cons {st : mStep} {ss : List mStep} {l : List mCol} {x : Trk} : trF (st :: ss) l x = trF ss (mStepS st l) (tr1 st l x) := rfl
theorem trF_none : ∀ (ss : List mStep) (l : List mCol), trF ss l none = none := by
  intro ss
  induction ss with
  | nil => intro l; rfl
  | cons st ss ih => intro l; exact ih _
theorem tr1_some {st : mStep} {l : List mCol} {z : Nat} {h : List Int32} : tr1 st l (some (z, h)) = match mBeh st l z with | none => none | some z2 => some (z2, if st.1 = 3 ∧ mPlace l st.2.1 = z then h ++ [mTyAt l z] else h) := rfl
theorem tr1_same {st : mStep} {l : List mCol} {x : Trk} (h1 : ¬ st.1 = 1) (h3 : ∀ z h, x = some (z, h) → ¬ (st.1 = 3 ∧ mPlace l st.2.1 = z)) : tr1 st l x = x := by
  cases x with
  | none => rfl
  | some z =>
    obtain ⟨z, h⟩ := z
    rw [tr1_some]
    unfold mBeh
    rw [if_neg h1]
    dsimp only
    rw [if_neg (h3 z h rfl)]
def hdT (g : List Int32) (t : Int32) : Int32 := g.headD t
def mHist : List Int32 → Int32 → mV → mV
  | [], _, v => v
  | a :: g, t, v => mBec (hdT g t) a (mHist g t v)
theorem mHist_cons {a : Int32} {g : List Int32} {t : Int32} {v : mV} : mHist (a :: g) t v = mBec (hdT g t) a (mHist g t v) := rfl
theorem back_hist {vs : List mV} : ∀ (ss : List mStep) (l : List mCol) (q : Nat) (h : List Int32), (∀ st ∈ ss, stOk st) → mgOk ss l → q < l.length → (trF ss l (some (q, h)) = none → mBackV ss l q vs = none) ∧ ∀ z h', trF ss l (some (q, h)) = some (z, h') → ∃ g, h' = h ++ g ∧ mBackV ss l q vs = some (mHist g (mTyAt (mSchs l ss) z) (vs.getD z (0, []))) ∧ mTyAt l q = hdT g (mTyAt (mSchs l ss) z) := by
  intro ss
  induction ss with
  | nil =>
    intro l q h _ _ hq
    refine ⟨fun z => (by cases z), fun z h' e => ?_⟩
    cases e
    exact ⟨[], (List.append_nil _).symm, rfl, rfl⟩
  | cons st ss ih =>
    intro l q h hs hg hq
    have hst := hs st List.mem_cons_self
    have hs' : ∀ s ∈ ss, stOk s := fun s x => hs s (List.mem_cons_of_mem _ x)
    rw [trF_cons, tr1_some, mBackV_cons]
    cases hb : mBeh st l q with
    | none =>
      dsimp only
      exact ⟨fun _ => rfl, fun z h' e => (by rw [trF_none] at e; cases e)⟩
    | some q2 =>
      dsimp only
      obtain ⟨hq2, hty⟩ := beh_ty hst hg.1 hq hb
      obtain ⟨i1, i2⟩ := ih (mStepS st l) q2 (if st.1 = 3 ∧ mPlace l st.2.1 = q then h ++ [mTyAt l q] else h) hs' hg.2 hq2
      refine ⟨fun e => by rw [i1 e]; rfl, fun z h' e => ?_⟩
      obtain ⟨g, g1, g2, g3⟩ := i2 z h' e
      rw [g2, mSchs_cons, Option.map_some]
      by_cases c : st.1 = 3 ∧ mPlace l st.2.1 = q
      · rw [if_pos c] at g1 hty
        rw [if_pos c]
        refine ⟨mTyAt l q :: g, by rw [g1, List.append_assoc]; rfl, ?_, rfl⟩
        rw [mHist_cons, ← g3, hty]
      · rw [if_neg c] at g1 hty
        rw [if_neg c]
        exact ⟨g, g1, rfl, hty.symm.trans g3⟩
/-- what follow has found out -/
def Rep (S : gS) (n : Nat) (l : List mCol) (tr : Nat → Trk) (c : Nat) : Prop := (∀ o z h, o < n → tr o = some (z, h) → z < l.length ∧ gaI S 261 z = nI o ∧ gaI S 262 o = 0 ∧ gaI S 264 o = nI h.length ∧ h.length ≤ c ∧ (∀ t ∈ h, isTy t) ∧ ∀ k t, h[k]? = some t → gaI S 263 (6 * o + k) = t) ∧ (∀ o, o < n → tr o = none → gaI S 262 o = 1) ∧ ∀ z, z < l.length → gaI S 261 z = -1 ∨ ∃ o h, o < n ∧ gaI S 261 z = nI o ∧ tr o = some (z, h)
theorem Rep.e {A F : List Nat} {S S1 : gS} {n c : Nat} {l : List mCol} {tr : Nat → Trk} (h : Rep S n l tr c) (e : RE A F S S1) (hA : ∀ a ∈ [261, 262, 263, 264], a ∉ A) : Rep S1 n l tr c := by
  unfold Rep
  rw [e.aI (hA 261 (by decide)), e.aI (hA 262 (by decide)), e.aI (hA 263 (by decide)), e.aI (hA 264 (by decide))]
  exact h
theorem Rep.same {S : gS} {n c : Nat} {l l2 : List mCol} {tr tr2 : Nat → Trk} (h : Rep S n l tr c) (hl : l2.length = l.length) (ht : ∀ o, o < n → tr2 o = tr o) : Rep S n l2 tr2 (c + 1) := by
  obtain ⟨h1, h2, h3⟩ := h
  unfold Rep
  rw [hl]
  refine ⟨fun o z h ho hz => ?_, fun o ho hz => h2 o ho ((ht o ho).symm.trans hz), fun z hz => ?_⟩
  · obtain ⟨a1, a2, a3, a4, a5, a6, a7⟩ := h1 o z h ho ((ht o ho).symm.trans hz)
    exact ⟨a1, a2, a3, a4, by omega, a6, a7⟩
  · rcases h3 z hz with q | ⟨o, h, q1, q2, q3⟩
    · exact Or.inl q
    · exact Or.inr ⟨o, h, q1, q2, (ht o q1).trans q3⟩
theorem oshift_loop {len : Nat} {u1 u2 : Int32} {K : gS → Int32 → Option gS} (hl : len ≤ 8) : ∀ (d fu k : Nat) (S : gS), k + 1 + d = len → d < fu → Imm S → gaI S 250 2 = nI len → l_X9_follow_181 237 u1 u2 fu S (nI k) K = K (g_rI S 261 (fun j => if k ≤ j ∧ j + 1 < len then gaI S 261 (j + 1) else gaI S 261 j)) (nI (len - 1)) := by
  intro d
  induction d with
  | zero =>
    intro fu k S hk hf hI hc
    have hR := hI.ref
    obtain ⟨fu, rfl⟩ : ∃ m, fu = m + 1 := ⟨fu - 1, by omega⟩
    rw [show (fun j => if k ≤ j ∧ j + 1 < len then gaI S 261 (j + 1) else gaI S 261 j) = gaI S 261 from funext fun q => if_neg (by omega), g_rI_id, l_X9_follow_181]
    simp only [g_getI, g_getL, g_getR, g_putI, g_putZ, g_putL, g_putR, g_ldI, g_ldL, g_ldR, g_stI, g_stZ, g_stL, g_stR, g_alen, g_ldX, g_cVI, g_cVL, g_cVR, g_cVV, g_cI, g_cL, g_cN, g_lt, g_jn, g_cpI, g_cpL, g_z, Nat.reduceMul, Nat.reduceAdd, Option.bind_some, or_true, true_or, if_true, ck9 hR, rf_columns hR, g_ck_t (ri_columns hR), rl_columns hR, ix3, cl2, hc, add1]
    rw [if_pos (nI_le (by omega) (by omega)), show len - 1 = k by omega]
  | succ d ih =>
    intro fu k S hk hf hI hc
    have hR := hI.ref
    obtain ⟨fu, rfl⟩ : ∃ m, fu = m + 1 := ⟨fu - 1, by omega⟩
    rw [l_X9_follow_181]
    simp only [g_getI, g_getL, g_getR, g_putI, g_putZ, g_putL, g_putR, g_ldI, g_ldL, g_ldR, g_stI, g_stZ, g_stL, g_stR, g_alen, g_ldX, g_cVI, g_cVL, g_cVR, g_cVV, g_cI, g_cL, g_cN, g_lt, g_jn, g_cpI, g_cpL, g_z, Nat.reduceMul, Nat.reduceAdd, Option.bind_some, or_true, true_or, if_true, ck9 hR, rf_columns hR, g_ck_t (ri_columns hR), rl_columns hR, ix3, cl2, hc, add1, rf_origins hR, g_ck_t (ri_origins hR), rl_origins hR]
    rw [if_neg (nI_ge (by omega) (by omega)), g_ix_t (by omega) (by decide), nI_clamp (by omega), g_ix_t (by omega) (by decide), nI_clamp (by omega)]
    have e : RE [261] [] S (g_rI S 261 (upd (gaI S 261) k (gaI S 261 (k + 1)))) := RE.rI (by decide)
    rw [ih fu (k + 1) (g_rI S 261 (upd (gaI S 261) k (gaI S 261 (k + 1)))) (by omega) (by omega) (e.imm hI) (by rw [e.aI (by decide)]; exact hc), g_rI_rI]
    congr 2
    funext j
    rw [q_rI_aI, g_row_s]
    by_cases c : k + 1 ≤ j ∧ j + 1 < len
    · rw [if_pos c, if_pos (by omega), pk_un (by omega)]
    · rw [if_neg c]
      by_cases d : j = k
      · subst d
        rw [pk_us, if_pos (by omega)]
      · rw [pk_un d, if_neg (by omega)]
theorem follow_step {S : gS} {n c k m : Nat} {l : List mCol} {tr : Nat → Trk} {st : mStep} (hI : Imm S) (hRep : Rep S n l tr c) (hn : n ≤ 8) (hc6 : c < 6) (hS : SchR S 2 l) (ho : scOk l) (hs : stOk st) (hw : ¬ mWrong st l) (hk : k < m) (hm : m ≤ 6) (hc : gfI S 598 237 = nI m) (hst : StR S (6 + k) st) : ∃ S1, (∀ fu, l_X9_follow_44 237 (fu + 1) S (nI (6 + k)) = g_cVV S1 9 237 (f_X9_step S1 237 (nI (6 + k))) fun S27 => l_X9_follow_44 237 fu S27 (nI (6 + k) + 1)) ∧ RE [261, 262, 263, 264] [] S S1 ∧ Rep S1 n (mStepS st l) (fun o => tr1 st l (tr o)) (c + 1) := by
  have hR := hI.ref
  have hl := ho.1
  obtain ⟨s1, s2, s3, s4⟩ := hst
  have pl : ∀ nm, f_X9_place S 237 nm = some (plO l nm, S) := fun nm => place_R hI hS ho.1 ho.2.2
  have cond : ¬ (6 : Int32) + nI m ≤ nI (6 + k) := by
    rw [show (6 : Int32) = nI 6 from rfl, nI_add]
    exact nI_ge (by omega) (by omega)
  obtain ⟨h1, h2, h3⟩ := hRep
  rcases hs.1 with e | e | e | e
  · obtain ⟨p1, p2⟩ := right_add hw e
    have id : ∀ o, tr1 st l (tr o) = tr o := fun o => tr1_same (by rw [e]; decide) (fun z h _ q => absurd (e.symm.trans q.1) (by decide))
    refine ⟨g_rI S 261 (upd (gaI S 261) l.length (-1)), fun fu => ?_, RE.rI (by decide), ?_⟩
    · rw [l_X9_follow_44]
      simp (disch := omega) only [g_getI, g_getR, g_ldI, g_stI, g_cVI, Nat.reduceMul, Nat.reduceAdd, q_pI_fI, q_pI_fL, q_pI_fR, q_pI_aI, q_pI_aL, q_pI_aR, q_pI_K, q_pI_ln, q_pI_n, q_pI_sl, q_pI_is, q_pI_ck, q_pL_fI, q_pL_fL, q_pL_fR, q_pL_aI, q_pL_aL, q_pL_aR, q_pL_K, q_pL_ln, q_pL_n, q_pL_sl, q_pL_is, q_pL_ck, q_pR_fI, q_pR_fL, q_pR_fR, q_pR_aI, q_pR_aL, q_pR_aR, q_pR_K, q_pR_ln, q_pR_n, q_pR_sl, q_pR_is, q_pR_ck, q_rI_fI, q_rI_fL, q_rI_fR, q_rI_aI, q_rI_aL, q_rI_aR, q_rI_K, q_rI_ln, q_rI_n, q_rI_sl, q_rI_is, q_rI_ck, q_rL_fI, q_rL_fL, q_rL_fR, q_rL_aI, q_rL_aL, q_rL_aR, q_rL_K, q_rL_ln, q_rL_n, q_rL_sl, q_rL_is, q_rL_ck, q_rR_fI, q_rR_fL, q_rR_fR, q_rR_aI, q_rR_aL, q_rR_aR, q_rR_K, q_rR_ln, q_rR_n, q_rR_sl, q_rR_is, q_rR_ck, Option.bind_some, ck9 hR, hc, rf_columns hR, g_ck_t (ri_columns hR), rl_columns hR, rf_stepNames hR, g_ck_t (ri_stepNames hR), rl_stepNames hR, rf_whats hR, g_ck_t (ri_whats hR), rl_whats hR, rf_origins hR, g_ck_t (ri_origins hR), rl_origins hR, rf_types hR, g_ck_t (ri_types hR), rl_types hR, rf_pastTypes hR, g_ck_t (ri_pastTypes hR), rl_pastTypes hR, rf_pasts hR, g_ck_t (ri_pasts hR), rl_pasts hR, rf_dropped hR, ix3, cl2, hS.1, g_ix_t, nI_clamp, s1, s2, pl, add1, g_row, Nat.reduceEqDiff, reduceIte]
      rw [if_neg cond, g_jn]
      try dsimp only
      rw [if_pos e]
      try simp (disch := omega) only [g_getI, g_getR, g_ldI, g_stI, g_cVI, Nat.reduceMul, Nat.reduceAdd, q_pI_fI, q_pI_fL, q_pI_fR, q_pI_aI, q_pI_aL, q_pI_aR, q_pI_K, q_pI_ln, q_pI_n, q_pI_sl, q_pI_is, q_pI_ck, q_pL_fI, q_pL_fL, q_pL_fR, q_pL_aI, q_pL_aL, q_pL_aR, q_pL_K, q_pL_ln, q_pL_n, q_pL_sl, q_pL_is, q_pL_ck, q_pR_fI, q_pR_fL, q_pR_fR, q_pR_aI, q_pR_aL, q_pR_aR, q_pR_K, q_pR_ln, q_pR_n, q_pR_sl, q_pR_is, q_pR_ck, q_rI_fI, q_rI_fL, q_rI_fR, q_rI_aI, q_rI_aL, q_rI_aR, q_rI_K, q_rI_ln, q_rI_n, q_rI_sl, q_rI_is, q_rI_ck, q_rL_fI, q_rL_fL, q_rL_fR, q_rL_aI, q_rL_aL, q_rL_aR, q_rL_K, q_rL_ln, q_rL_n, q_rL_sl, q_rL_is, q_rL_ck, q_rR_fI, q_rR_fL, q_rR_fR, q_rR_aI, q_rR_aL, q_rR_aR, q_rR_K, q_rR_ln, q_rR_n, q_rR_sl, q_rR_is, q_rR_ck, Option.bind_some, ck9 hR, hc, rf_columns hR, g_ck_t (ri_columns hR), rl_columns hR, rf_stepNames hR, g_ck_t (ri_stepNames hR), rl_stepNames hR, rf_whats hR, g_ck_t (ri_whats hR), rl_whats hR, rf_origins hR, g_ck_t (ri_origins hR), rl_origins hR, rf_types hR, g_ck_t (ri_types hR), rl_types hR, rf_pastTypes hR, g_ck_t (ri_pastTypes hR), rl_pastTypes hR, rf_pasts hR, g_ck_t (ri_pasts hR), rl_pasts hR, rf_dropped hR, ix3, cl2, hS.1, g_ix_t, nI_clamp, s1, s2, pl, add1, g_row, Nat.reduceEqDiff, reduceIte]
      rw [g_jn]
      try dsimp only
      rw [if_neg (show ¬ st.1 = 3 by rw [e]; decide)]
      try simp (disch := omega) only [g_getI, g_getR, g_ldI, g_stI, g_cVI, Nat.reduceMul, Nat.reduceAdd, q_pI_fI, q_pI_fL, q_pI_fR, q_pI_aI, q_pI_aL, q_pI_aR, q_pI_K, q_pI_ln, q_pI_n, q_pI_sl, q_pI_is, q_pI_ck, q_pL_fI, q_pL_fL, q_pL_fR, q_pL_aI, q_pL_aL, q_pL_aR, q_pL_K, q_pL_ln, q_pL_n, q_pL_sl, q_pL_is, q_pL_ck, q_pR_fI, q_pR_fL, q_pR_fR, q_pR_aI, q_pR_aL, q_pR_aR, q_pR_K, q_pR_ln, q_pR_n, q_pR_sl, q_pR_is, q_pR_ck, q_rI_fI, q_rI_fL, q_rI_fR, q_rI_aI, q_rI_aL, q_rI_aR, q_rI_K, q_rI_ln, q_rI_n, q_rI_sl, q_rI_is, q_rI_ck, q_rL_fI, q_rL_fL, q_rL_fR, q_rL_aI, q_rL_aL, q_rL_aR, q_rL_K, q_rL_ln, q_rL_n, q_rL_sl, q_rL_is, q_rL_ck, q_rR_fI, q_rR_fL, q_rR_fR, q_rR_aI, q_rR_aL, q_rR_aR, q_rR_K, q_rR_ln, q_rR_n, q_rR_sl, q_rR_is, q_rR_ck, Option.bind_some, ck9 hR, hc, rf_columns hR, g_ck_t (ri_columns hR), rl_columns hR, rf_stepNames hR, g_ck_t (ri_stepNames hR), rl_stepNames hR, rf_whats hR, g_ck_t (ri_whats hR), rl_whats hR, rf_origins hR, g_ck_t (ri_origins hR), rl_origins hR, rf_types hR, g_ck_t (ri_types hR), rl_types hR, rf_pastTypes hR, g_ck_t (ri_pastTypes hR), rl_pastTypes hR, rf_pasts hR, g_ck_t (ri_pasts hR), rl_pasts hR, rf_dropped hR, ix3, cl2, hS.1, g_ix_t, nI_clamp, s1, s2, pl, add1, g_row, Nat.reduceEqDiff, reduceIte]
      rw [g_jn]
      try dsimp only
      rw [if_neg (show ¬ st.1 = 1 by rw [e]; decide)]
      try simp (disch := omega) only [g_getI, g_getR, g_ldI, g_stI, g_cVI, Nat.reduceMul, Nat.reduceAdd, q_pI_fI, q_pI_fL, q_pI_fR, q_pI_aI, q_pI_aL, q_pI_aR, q_pI_K, q_pI_ln, q_pI_n, q_pI_sl, q_pI_is, q_pI_ck, q_pL_fI, q_pL_fL, q_pL_fR, q_pL_aI, q_pL_aL, q_pL_aR, q_pL_K, q_pL_ln, q_pL_n, q_pL_sl, q_pL_is, q_pL_ck, q_pR_fI, q_pR_fL, q_pR_fR, q_pR_aI, q_pR_aL, q_pR_aR, q_pR_K, q_pR_ln, q_pR_n, q_pR_sl, q_pR_is, q_pR_ck, q_rI_fI, q_rI_fL, q_rI_fR, q_rI_aI, q_rI_aL, q_rI_aR, q_rI_K, q_rI_ln, q_rI_n, q_rI_sl, q_rI_is, q_rI_ck, q_rL_fI, q_rL_fL, q_rL_fR, q_rL_aI, q_rL_aL, q_rL_aR, q_rL_K, q_rL_ln, q_rL_n, q_rL_sl, q_rL_is, q_rL_ck, q_rR_fI, q_rR_fL, q_rR_fR, q_rR_aI, q_rR_aL, q_rR_aR, q_rR_K, q_rR_ln, q_rR_n, q_rR_sl, q_rR_is, q_rR_ck, Option.bind_some, ck9 hR, hc, rf_columns hR, g_ck_t (ri_columns hR), rl_columns hR, rf_stepNames hR, g_ck_t (ri_stepNames hR), rl_stepNames hR, rf_whats hR, g_ck_t (ri_whats hR), rl_whats hR, rf_origins hR, g_ck_t (ri_origins hR), rl_origins hR, rf_types hR, g_ck_t (ri_types hR), rl_types hR, rf_pastTypes hR, g_ck_t (ri_pastTypes hR), rl_pastTypes hR, rf_pasts hR, g_ck_t (ri_pasts hR), rl_pasts hR, rf_dropped hR, ix3, cl2, hS.1, g_ix_t, nI_clamp, s1, s2, pl, add1, g_row, Nat.reduceEqDiff, reduceIte]
    · have hll : (mStepS st l).length = l.length + 1 := by rw [stepS_add e, List.length_append]; rfl
      refine ⟨fun o z h ho2 hz => ?_, fun o ho2 hz => ?_, fun z hz => ?_⟩
      · obtain ⟨a1, a2, a3, a4, a5, a6, a7⟩ := h1 o z h ho2 ((id o).symm.trans hz)
        simp only [q_pI_fI, q_pI_fL, q_pI_fR, q_pI_aI, q_pI_aL, q_pI_aR, q_pI_K, q_pI_ln, q_pI_n, q_pI_sl, q_pI_is, q_pI_ck, q_pL_fI, q_pL_fL, q_pL_fR, q_pL_aI, q_pL_aL, q_pL_aR, q_pL_K, q_pL_ln, q_pL_n, q_pL_sl, q_pL_is, q_pL_ck, q_pR_fI, q_pR_fL, q_pR_fR, q_pR_aI, q_pR_aL, q_pR_aR, q_pR_K, q_pR_ln, q_pR_n, q_pR_sl, q_pR_is, q_pR_ck, q_rI_fI, q_rI_fL, q_rI_fR, q_rI_aI, q_rI_aL, q_rI_aR, q_rI_K, q_rI_ln, q_rI_n, q_rI_sl, q_rI_is, q_rI_ck, q_rL_fI, q_rL_fL, q_rL_fR, q_rL_aI, q_rL_aL, q_rL_aR, q_rL_K, q_rL_ln, q_rL_n, q_rL_sl, q_rL_is, q_rL_ck, q_rR_fI, q_rR_fL, q_rR_fR, q_rR_aI, q_rR_aL, q_rR_aR, q_rR_K, q_rR_ln, q_rR_n, q_rR_sl, q_rR_is, q_rR_ck, g_row, Nat.reduceEqDiff, reduceIte]
        rw [pk_un (by omega), hll]
        exact ⟨by omega, a2, a3, a4, by omega, a6, a7⟩
      · simp only [q_pI_fI, q_pI_fL, q_pI_fR, q_pI_aI, q_pI_aL, q_pI_aR, q_pI_K, q_pI_ln, q_pI_n, q_pI_sl, q_pI_is, q_pI_ck, q_pL_fI, q_pL_fL, q_pL_fR, q_pL_aI, q_pL_aL, q_pL_aR, q_pL_K, q_pL_ln, q_pL_n, q_pL_sl, q_pL_is, q_pL_ck, q_pR_fI, q_pR_fL, q_pR_fR, q_pR_aI, q_pR_aL, q_pR_aR, q_pR_K, q_pR_ln, q_pR_n, q_pR_sl, q_pR_is, q_pR_ck, q_rI_fI, q_rI_fL, q_rI_fR, q_rI_aI, q_rI_aL, q_rI_aR, q_rI_K, q_rI_ln, q_rI_n, q_rI_sl, q_rI_is, q_rI_ck, q_rL_fI, q_rL_fL, q_rL_fR, q_rL_aI, q_rL_aL, q_rL_aR, q_rL_K, q_rL_ln, q_rL_n, q_rL_sl, q_rL_is, q_rL_ck, q_rR_fI, q_rR_fL, q_rR_fR, q_rR_aI, q_rR_aL, q_rR_aR, q_rR_K, q_rR_ln, q_rR_n, q_rR_sl, q_rR_is, q_rR_ck, g_row, Nat.reduceEqDiff, reduceIte]
        exact h2 o ho2 ((id o).symm.trans hz)
      · rw [hll] at hz
        simp only [q_pI_fI, q_pI_fL, q_pI_fR, q_pI_aI, q_pI_aL, q_pI_aR, q_pI_K, q_pI_ln, q_pI_n, q_pI_sl, q_pI_is, q_pI_ck, q_pL_fI, q_pL_fL, q_pL_fR, q_pL_aI, q_pL_aL, q_pL_aR, q_pL_K, q_pL_ln, q_pL_n, q_pL_sl, q_pL_is, q_pL_ck, q_pR_fI, q_pR_fL, q_pR_fR, q_pR_aI, q_pR_aL, q_pR_aR, q_pR_K, q_pR_ln, q_pR_n, q_pR_sl, q_pR_is, q_pR_ck, q_rI_fI, q_rI_fL, q_rI_fR, q_rI_aI, q_rI_aL, q_rI_aR, q_rI_K, q_rI_ln, q_rI_n, q_rI_sl, q_rI_is, q_rI_ck, q_rL_fI, q_rL_fL, q_rL_fR, q_rL_aI, q_rL_aL, q_rL_aR, q_rL_K, q_rL_ln, q_rL_n, q_rL_sl, q_rL_is, q_rL_ck, q_rR_fI, q_rR_fL, q_rR_fR, q_rR_aI, q_rR_aL, q_rR_aR, q_rR_K, q_rR_ln, q_rR_n, q_rR_sl, q_rR_is, q_rR_ck, g_row, Nat.reduceEqDiff, reduceIte]
        by_cases q : z = l.length
        · rw [q, pk_us]; exact Or.inl rfl
        · rw [pk_un q]
          rcases h3 z (by omega) with y | ⟨o, h, y1, y2, y3⟩
          · exact Or.inl y
          · exact Or.inr ⟨o, h, y1, y2, (id o).trans y3⟩
  · have hp := right_has hw (by rw [e]; decide)
    have hll : (mStepS st l).length = l.length - 1 := by rw [stepS_drop e, List.length_eraseIdx_of_lt hp]
    -- the shift, behind what was done to 'dropped'
    have rest : ∀ S2, RE [262] [] S S2 → (∀ o, o < n → (∀ h, tr o ≠ some (mPlace l st.2.1, h)) → gaI S2 262 o = gaI S 262 o) → (∀ o h, o < n → tr o = some (mPlace l st.2.1, h) → gaI S2 262 o = 1) → ∃ S1, (∀ fu, l_X9_follow_181 237 (nI (6 + k)) (nI (mPlace l st.2.1)) 100 S2 (nI (mPlace l st.2.1)) (fun S38 _ => g_cVV S38 9 237 (f_X9_step S38 237 (nI (6 + k))) fun S27 => l_X9_follow_44 237 fu S27 (nI (6 + k) + 1)) = g_cVV S1 9 237 (f_X9_step S1 237 (nI (6 + k))) fun S27 => l_X9_follow_44 237 fu S27 (nI (6 + k) + 1)) ∧ RE [261, 262, 263, 264] [] S S1 ∧ Rep S1 n (mStepS st l) (fun o => tr1 st l (tr o)) (c + 1) := by
      intro S2 e2 d1 d2
      have hI2 := e2.imm hI
      have c2 : gaI S2 250 2 = nI l.length := by rw [e2.aI (by decide)]; exact hS.1
      have e3 : RE [261] [] S2 (g_rI S2 261 (fun j => if mPlace l st.2.1 ≤ j ∧ j + 1 < l.length then gaI S2 261 (j + 1) else gaI S2 261 j)) := RE.rI (by decide)
      have x1 : gaI S2 261 = gaI S 261 := e2.aI (by decide)
      have x3 : gaI S2 263 = gaI S 263 := e2.aI (by decide)
      have x4 : gaI S2 264 = gaI S 264 := e2.aI (by decide)
      refine ⟨_, fun fu => oshift_loop hl (l.length - 1 - mPlace l st.2.1) 100 (mPlace l st.2.1) S2 (by omega) (by omega) hI2 c2, (e2.mono (by decide) (by decide)).trans (e3.mono (by decide) (by decide)), fun o z h ho2 hz => ?_, fun o ho2 hz => ?_, fun z hz => ?_⟩
      · simp only [q_pI_fI, q_pI_fL, q_pI_fR, q_pI_aI, q_pI_aL, q_pI_aR, q_pI_K, q_pI_ln, q_pI_n, q_pI_sl, q_pI_is, q_pI_ck, q_pL_fI, q_pL_fL, q_pL_fR, q_pL_aI, q_pL_aL, q_pL_aR, q_pL_K, q_pL_ln, q_pL_n, q_pL_sl, q_pL_is, q_pL_ck, q_pR_fI, q_pR_fL, q_pR_fR, q_pR_aI, q_pR_aL, q_pR_aR, q_pR_K, q_pR_ln, q_pR_n, q_pR_sl, q_pR_is, q_pR_ck, q_rI_fI, q_rI_fL, q_rI_fR, q_rI_aI, q_rI_aL, q_rI_aR, q_rI_K, q_rI_ln, q_rI_n, q_rI_sl, q_rI_is, q_rI_ck, q_rL_fI, q_rL_fL, q_rL_fR, q_rL_aI, q_rL_aL, q_rL_aR, q_rL_K, q_rL_ln, q_rL_n, q_rL_sl, q_rL_is, q_rL_ck, q_rR_fI, q_rR_fL, q_rR_fR, q_rR_aI, q_rR_aL, q_rR_aR, q_rR_K, q_rR_ln, q_rR_n, q_rR_sl, q_rR_is, q_rR_ck, g_row, Nat.reduceEqDiff, reduceIte, x1, x3, x4]
        replace hz : tr1 st l (tr o) = some (z, h) := hz
        cases ht : tr o with
        | none => rw [ht] at hz; cases hz
        | some y =>
          obtain ⟨y, hy⟩ := y
          obtain ⟨a1, a2, a3, a4, a5, a6, a7⟩ := h1 o y hy ho2 ht
          rw [ht, tr1_some] at hz
          unfold mBeh at hz
          rw [if_pos e] at hz
          have nr : ¬ (st.1 = 3 ∧ mPlace l st.2.1 = y) := fun q => absurd (e.symm.trans q.1) (by decide)
          by_cases b1 : y < mPlace l st.2.1
          · rw [if_pos b1] at hz
            dsimp only at hz
            rw [if_neg nr] at hz
            cases hz
            rw [hll, if_neg (by omega), d1 o ho2 (fun h q => by rw [ht] at q; cases q; omega)]
            exact ⟨by omega, a2, a3, a4, by omega, a6, a7⟩
          · rw [if_neg b1] at hz
            by_cases b2 : y = mPlace l st.2.1
            · rw [if_pos b2] at hz; cases hz
            · rw [if_neg b2] at hz
              dsimp only at hz
              rw [if_neg nr] at hz
              cases hz
              rw [hll, if_pos (by omega), show y - 1 + 1 = y by omega, d1 o ho2 (fun h q => by rw [ht] at q; cases q; omega)]
              exact ⟨by omega, a2, a3, a4, by omega, a6, a7⟩
      · simp only [q_pI_fI, q_pI_fL, q_pI_fR, q_pI_aI, q_pI_aL, q_pI_aR, q_pI_K, q_pI_ln, q_pI_n, q_pI_sl, q_pI_is, q_pI_ck, q_pL_fI, q_pL_fL, q_pL_fR, q_pL_aI, q_pL_aL, q_pL_aR, q_pL_K, q_pL_ln, q_pL_n, q_pL_sl, q_pL_is, q_pL_ck, q_pR_fI, q_pR_fL, q_pR_fR, q_pR_aI, q_pR_aL, q_pR_aR, q_pR_K, q_pR_ln, q_pR_n, q_pR_sl, q_pR_is, q_pR_ck, q_rI_fI, q_rI_fL, q_rI_fR, q_rI_aI, q_rI_aL, q_rI_aR, q_rI_K, q_rI_ln, q_rI_n, q_rI_sl, q_rI_is, q_rI_ck, q_rL_fI, q_rL_fL, q_rL_fR, q_rL_aI, q_rL_aL, q_rL_aR, q_rL_K, q_rL_ln, q_rL_n, q_rL_sl, q_rL_is, q_rL_ck, q_rR_fI, q_rR_fL, q_rR_fR, q_rR_aI, q_rR_aL, q_rR_aR, q_rR_K, q_rR_ln, q_rR_n, q_rR_sl, q_rR_is, q_rR_ck, g_row, Nat.reduceEqDiff, reduceIte]
        replace hz : tr1 st l (tr o) = none := hz
        cases ht : tr o with
        | none =>
          rw [d1 o ho2 (fun h q => by rw [ht] at q; cases q)]
          exact h2 o ho2 ht
        | some y =>
          obtain ⟨y, hy⟩ := y
          rw [ht, tr1_some] at hz
          unfold mBeh at hz
          rw [if_pos e] at hz
          by_cases b1 : y < mPlace l st.2.1
          · rw [if_pos b1] at hz; cases hz
          · rw [if_neg b1] at hz
            by_cases b2 : y = mPlace l st.2.1
            · exact d2 o hy ho2 (by rw [ht, b2])
            · rw [if_neg b2] at hz; cases hz
      · rw [hll] at hz
        simp only [q_pI_fI, q_pI_fL, q_pI_fR, q_pI_aI, q_pI_aL, q_pI_aR, q_pI_K, q_pI_ln, q_pI_n, q_pI_sl, q_pI_is, q_pI_ck, q_pL_fI, q_pL_fL, q_pL_fR, q_pL_aI, q_pL_aL, q_pL_aR, q_pL_K, q_pL_ln, q_pL_n, q_pL_sl, q_pL_is, q_pL_ck, q_pR_fI, q_pR_fL, q_pR_fR, q_pR_aI, q_pR_aL, q_pR_aR, q_pR_K, q_pR_ln, q_pR_n, q_pR_sl, q_pR_is, q_pR_ck, q_rI_fI, q_rI_fL, q_rI_fR, q_rI_aI, q_rI_aL, q_rI_aR, q_rI_K, q_rI_ln, q_rI_n, q_rI_sl, q_rI_is, q_rI_ck, q_rL_fI, q_rL_fL, q_rL_fR, q_rL_aI, q_rL_aL, q_rL_aR, q_rL_K, q_rL_ln, q_rL_n, q_rL_sl, q_rL_is, q_rL_ck, q_rR_fI, q_rR_fL, q_rR_fR, q_rR_aI, q_rR_aL, q_rR_aR, q_rR_K, q_rR_ln, q_rR_n, q_rR_sl, q_rR_is, q_rR_ck, g_row, Nat.reduceEqDiff, reduceIte, x1]
        have nr : ∀ y, ¬ (st.1 = 3 ∧ mPlace l st.2.1 = y) := fun y q => absurd (e.symm.trans q.1) (by decide)
        by_cases b1 : z < mPlace l st.2.1
        · rw [if_neg (by omega)]
          rcases h3 z (by omega) with y | ⟨o, h, y1, y2, y3⟩
          · exact Or.inl y
          · refine Or.inr ⟨o, h, y1, y2, ?_⟩
            rw [y3, tr1_some]
            unfold mBeh
            rw [if_pos e, if_pos b1]
            dsimp only
            rw [if_neg (nr _)]
        · rw [if_pos (by omega)]
          rcases h3 (z + 1) (by omega) with y | ⟨o, h, y1, y2, y3⟩
          · exact Or.inl y
          · refine Or.inr ⟨o, h, y1, y2, ?_⟩
            rw [y3, tr1_some]
            unfold mBeh
            rw [if_pos e, if_neg (by omega), if_neg (by omega)]
            dsimp only
            rw [if_neg (nr _)]
            rfl
    have head : ∀ fu, l_X9_follow_44 237 (fu + 1) S (nI (6 + k)) = if gaI S 261 (mPlace l st.2.1) < 0 then l_X9_follow_181 237 (nI (6 + k)) (nI (mPlace l st.2.1)) 100 S (nI (mPlace l st.2.1)) (fun S38 _ => g_cVV S38 9 237 (f_X9_step S38 237 (nI (6 + k))) fun S27 => l_X9_follow_44 237 fu S27 (nI (6 + k) + 1)) else (g_stZ S 262 (gaI S 261 (mPlace l st.2.1)) (1 : Int32) fun S43 => l_X9_follow_181 237 (nI (6 + k)) (nI (mPlace l st.2.1)) 100 S43 (nI (mPlace l st.2.1)) (fun S38 _ => g_cVV S38 9 237 (f_X9_step S38 237 (nI (6 + k))) fun S27 => l_X9_follow_44 237 fu S27 (nI (6 + k) + 1))) := by
      intro fu
      rw [l_X9_follow_44]
      simp (disch := omega) only [g_getI, g_getR, g_ldI, g_stI, g_cVI, Nat.reduceMul, Nat.reduceAdd, q_pI_fI, q_pI_fL, q_pI_fR, q_pI_aI, q_pI_aL, q_pI_aR, q_pI_K, q_pI_ln, q_pI_n, q_pI_sl, q_pI_is, q_pI_ck, q_pL_fI, q_pL_fL, q_pL_fR, q_pL_aI, q_pL_aL, q_pL_aR, q_pL_K, q_pL_ln, q_pL_n, q_pL_sl, q_pL_is, q_pL_ck, q_pR_fI, q_pR_fL, q_pR_fR, q_pR_aI, q_pR_aL, q_pR_aR, q_pR_K, q_pR_ln, q_pR_n, q_pR_sl, q_pR_is, q_pR_ck, q_rI_fI, q_rI_fL, q_rI_fR, q_rI_aI, q_rI_aL, q_rI_aR, q_rI_K, q_rI_ln, q_rI_n, q_rI_sl, q_rI_is, q_rI_ck, q_rL_fI, q_rL_fL, q_rL_fR, q_rL_aI, q_rL_aL, q_rL_aR, q_rL_K, q_rL_ln, q_rL_n, q_rL_sl, q_rL_is, q_rL_ck, q_rR_fI, q_rR_fL, q_rR_fR, q_rR_aI, q_rR_aL, q_rR_aR, q_rR_K, q_rR_ln, q_rR_n, q_rR_sl, q_rR_is, q_rR_ck, Option.bind_some, ck9 hR, hc, rf_columns hR, g_ck_t (ri_columns hR), rl_columns hR, rf_stepNames hR, g_ck_t (ri_stepNames hR), rl_stepNames hR, rf_whats hR, g_ck_t (ri_whats hR), rl_whats hR, rf_origins hR, g_ck_t (ri_origins hR), rl_origins hR, rf_types hR, g_ck_t (ri_types hR), rl_types hR, rf_pastTypes hR, g_ck_t (ri_pastTypes hR), rl_pastTypes hR, rf_pasts hR, g_ck_t (ri_pasts hR), rl_pasts hR, rf_dropped hR, ix3, cl2, hS.1, g_ix_t, nI_clamp, s1, s2, pl, add1, g_row, Nat.reduceEqDiff, reduceIte, plO_has hp]
      rw [if_neg cond, g_jn]
      try dsimp only
      rw [if_neg (show ¬ st.1 = 0 by rw [e]; decide)]
      try simp (disch := omega) only [g_getI, g_getR, g_ldI, g_stI, g_cVI, Nat.reduceMul, Nat.reduceAdd, q_pI_fI, q_pI_fL, q_pI_fR, q_pI_aI, q_pI_aL, q_pI_aR, q_pI_K, q_pI_ln, q_pI_n, q_pI_sl, q_pI_is, q_pI_ck, q_pL_fI, q_pL_fL, q_pL_fR, q_pL_aI, q_pL_aL, q_pL_aR, q_pL_K, q_pL_ln, q_pL_n, q_pL_sl, q_pL_is, q_pL_ck, q_pR_fI, q_pR_fL, q_pR_fR, q_pR_aI, q_pR_aL, q_pR_aR, q_pR_K, q_pR_ln, q_pR_n, q_pR_sl, q_pR_is, q_pR_ck, q_rI_fI, q_rI_fL, q_rI_fR, q_rI_aI, q_rI_aL, q_rI_aR, q_rI_K, q_rI_ln, q_rI_n, q_rI_sl, q_rI_is, q_rI_ck, q_rL_fI, q_rL_fL, q_rL_fR, q_rL_aI, q_rL_aL, q_rL_aR, q_rL_K, q_rL_ln, q_rL_n, q_rL_sl, q_rL_is, q_rL_ck, q_rR_fI, q_rR_fL, q_rR_fR, q_rR_aI, q_rR_aL, q_rR_aR, q_rR_K, q_rR_ln, q_rR_n, q_rR_sl, q_rR_is, q_rR_ck, Option.bind_some, ck9 hR, hc, rf_columns hR, g_ck_t (ri_columns hR), rl_columns hR, rf_stepNames hR, g_ck_t (ri_stepNames hR), rl_stepNames hR, rf_whats hR, g_ck_t (ri_whats hR), rl_whats hR, rf_origins hR, g_ck_t (ri_origins hR), rl_origins hR, rf_types hR, g_ck_t (ri_types hR), rl_types hR, rf_pastTypes hR, g_ck_t (ri_pastTypes hR), rl_pastTypes hR, rf_pasts hR, g_ck_t (ri_pasts hR), rl_pasts hR, rf_dropped hR, ix3, cl2, hS.1, g_ix_t, nI_clamp, s1, s2, pl, add1, g_row, Nat.reduceEqDiff, reduceIte, plO_has hp]
      rw [g_jn]
      try dsimp only
      rw [if_neg (show ¬ st.1 = 3 by rw [e]; decide)]
      try simp (disch := omega) only [g_getI, g_getR, g_ldI, g_stI, g_cVI, Nat.reduceMul, Nat.reduceAdd, q_pI_fI, q_pI_fL, q_pI_fR, q_pI_aI, q_pI_aL, q_pI_aR, q_pI_K, q_pI_ln, q_pI_n, q_pI_sl, q_pI_is, q_pI_ck, q_pL_fI, q_pL_fL, q_pL_fR, q_pL_aI, q_pL_aL, q_pL_aR, q_pL_K, q_pL_ln, q_pL_n, q_pL_sl, q_pL_is, q_pL_ck, q_pR_fI, q_pR_fL, q_pR_fR, q_pR_aI, q_pR_aL, q_pR_aR, q_pR_K, q_pR_ln, q_pR_n, q_pR_sl, q_pR_is, q_pR_ck, q_rI_fI, q_rI_fL, q_rI_fR, q_rI_aI, q_rI_aL, q_rI_aR, q_rI_K, q_rI_ln, q_rI_n, q_rI_sl, q_rI_is, q_rI_ck, q_rL_fI, q_rL_fL, q_rL_fR, q_rL_aI, q_rL_aL, q_rL_aR, q_rL_K, q_rL_ln, q_rL_n, q_rL_sl, q_rL_is, q_rL_ck, q_rR_fI, q_rR_fL, q_rR_fR, q_rR_aI, q_rR_aL, q_rR_aR, q_rR_K, q_rR_ln, q_rR_n, q_rR_sl, q_rR_is, q_rR_ck, Option.bind_some, ck9 hR, hc, rf_columns hR, g_ck_t (ri_columns hR), rl_columns hR, rf_stepNames hR, g_ck_t (ri_stepNames hR), rl_stepNames hR, rf_whats hR, g_ck_t (ri_whats hR), rl_whats hR, rf_origins hR, g_ck_t (ri_origins hR), rl_origins hR, rf_types hR, g_ck_t (ri_types hR), rl_types hR, rf_pastTypes hR, g_ck_t (ri_pastTypes hR), rl_pastTypes hR, rf_pasts hR, g_ck_t (ri_pasts hR), rl_pasts hR, rf_dropped hR, ix3, cl2, hS.1, g_ix_t, nI_clamp, s1, s2, pl, add1, g_row, Nat.reduceEqDiff, reduceIte, plO_has hp]
      rw [g_jn]
      try dsimp only
      rw [if_pos e]
      try simp (disch := omega) only [g_getI, g_getR, g_ldI, g_stI, g_cVI, Nat.reduceMul, Nat.reduceAdd, q_pI_fI, q_pI_fL, q_pI_fR, q_pI_aI, q_pI_aL, q_pI_aR, q_pI_K, q_pI_ln, q_pI_n, q_pI_sl, q_pI_is, q_pI_ck, q_pL_fI, q_pL_fL, q_pL_fR, q_pL_aI, q_pL_aL, q_pL_aR, q_pL_K, q_pL_ln, q_pL_n, q_pL_sl, q_pL_is, q_pL_ck, q_pR_fI, q_pR_fL, q_pR_fR, q_pR_aI, q_pR_aL, q_pR_aR, q_pR_K, q_pR_ln, q_pR_n, q_pR_sl, q_pR_is, q_pR_ck, q_rI_fI, q_rI_fL, q_rI_fR, q_rI_aI, q_rI_aL, q_rI_aR, q_rI_K, q_rI_ln, q_rI_n, q_rI_sl, q_rI_is, q_rI_ck, q_rL_fI, q_rL_fL, q_rL_fR, q_rL_aI, q_rL_aL, q_rL_aR, q_rL_K, q_rL_ln, q_rL_n, q_rL_sl, q_rL_is, q_rL_ck, q_rR_fI, q_rR_fL, q_rR_fR, q_rR_aI, q_rR_aL, q_rR_aR, q_rR_K, q_rR_ln, q_rR_n, q_rR_sl, q_rR_is, q_rR_ck, Option.bind_some, ck9 hR, hc, rf_columns hR, g_ck_t (ri_columns hR), rl_columns hR, rf_stepNames hR, g_ck_t (ri_stepNames hR), rl_stepNames hR, rf_whats hR, g_ck_t (ri_whats hR), rl_whats hR, rf_origins hR, g_ck_t (ri_origins hR), rl_origins hR, rf_types hR, g_ck_t (ri_types hR), rl_types hR, rf_pastTypes hR, g_ck_t (ri_pastTypes hR), rl_pastTypes hR, rf_pasts hR, g_ck_t (ri_pasts hR), rl_pasts hR, rf_dropped hR, ix3, cl2, hS.1, g_ix_t, nI_clamp, s1, s2, pl, add1, g_row, Nat.reduceEqDiff, reduceIte, plO_has hp]
      rw [g_jn]
    rcases h3 (mPlace l st.2.1) hp with y | ⟨o, h, y1, y2, y3⟩
    · obtain ⟨S1, z1, z2, z3⟩ := rest S RE.refl (fun _ _ _ => rfl) (fun o h q1 q2 => by
        have := (h1 o _ h q1 q2).2.1
        rw [y] at this
        exact absurd this.symm (nI_m1 (by omega)))
      refine ⟨S1, fun fu => ?_, z2, z3⟩
      rw [head, if_pos (by rw [y]; decide)]
      exact z1 fu
    · obtain ⟨S1, z1, z2, z3⟩ := rest (g_rI S 262 (upd (gaI S 262) o 1)) (RE.rI (by decide)) (fun o2 q1 q2 => by
          rw [q_rI_aI, g_row_s, pk_un]
          intro q
          subst q
          exact q2 h y3) (fun o2 h2 q1 q2 => by
          have := (h1 o2 _ h2 q1 q2).2.1
          rw [y2] at this
          have := (nI_eq (by omega) (by omega)).mp this
          subst this
          rw [q_rI_aI, g_row_s, pk_us])
      refine ⟨S1, fun fu => ?_, z2, z3⟩
      rw [head, y2, if_neg (show ¬ nI o < 0 from fun z => by
        rw [show (0 : Int32) = nI 0 from rfl, nI_ltI (by omega) (by omega)] at z
        omega)]
      simp only [g_stZ, g_ck_t (ri_dropped hR), rl_dropped hR, or_true, true_or, if_true]
      rw [g_ix_t (by omega) (by decide), nI_clamp (by omega)]
      exact z1 fu
  · have hp := right_has hw (by rw [e]; decide)
    refine ⟨S, fun fu => ?_, RE.refl, Rep.same ⟨h1, h2, h3⟩ (by rw [stepS_ren e, List.length_set]) (fun o _ => tr1_same (by rw [e]; decide) (fun z h _ q => absurd (e.symm.trans q.1) (by decide)))⟩
    rw [l_X9_follow_44]
    simp (disch := omega) only [g_getI, g_getR, g_ldI, g_stI, g_cVI, Nat.reduceMul, Nat.reduceAdd, q_pI_fI, q_pI_fL, q_pI_fR, q_pI_aI, q_pI_aL, q_pI_aR, q_pI_K, q_pI_ln, q_pI_n, q_pI_sl, q_pI_is, q_pI_ck, q_pL_fI, q_pL_fL, q_pL_fR, q_pL_aI, q_pL_aL, q_pL_aR, q_pL_K, q_pL_ln, q_pL_n, q_pL_sl, q_pL_is, q_pL_ck, q_pR_fI, q_pR_fL, q_pR_fR, q_pR_aI, q_pR_aL, q_pR_aR, q_pR_K, q_pR_ln, q_pR_n, q_pR_sl, q_pR_is, q_pR_ck, q_rI_fI, q_rI_fL, q_rI_fR, q_rI_aI, q_rI_aL, q_rI_aR, q_rI_K, q_rI_ln, q_rI_n, q_rI_sl, q_rI_is, q_rI_ck, q_rL_fI, q_rL_fL, q_rL_fR, q_rL_aI, q_rL_aL, q_rL_aR, q_rL_K, q_rL_ln, q_rL_n, q_rL_sl, q_rL_is, q_rL_ck, q_rR_fI, q_rR_fL, q_rR_fR, q_rR_aI, q_rR_aL, q_rR_aR, q_rR_K, q_rR_ln, q_rR_n, q_rR_sl, q_rR_is, q_rR_ck, Option.bind_some, ck9 hR, hc, rf_columns hR, g_ck_t (ri_columns hR), rl_columns hR, rf_stepNames hR, g_ck_t (ri_stepNames hR), rl_stepNames hR, rf_whats hR, g_ck_t (ri_whats hR), rl_whats hR, rf_origins hR, g_ck_t (ri_origins hR), rl_origins hR, rf_types hR, g_ck_t (ri_types hR), rl_types hR, rf_pastTypes hR, g_ck_t (ri_pastTypes hR), rl_pastTypes hR, rf_pasts hR, g_ck_t (ri_pasts hR), rl_pasts hR, rf_dropped hR, ix3, cl2, hS.1, g_ix_t, nI_clamp, s1, s2, pl, add1, g_row, Nat.reduceEqDiff, reduceIte]
    rw [if_neg cond, g_jn]
    try dsimp only
    rw [if_neg (show ¬ st.1 = 0 by rw [e]; decide)]
    try simp (disch := omega) only [g_getI, g_getR, g_ldI, g_stI, g_cVI, Nat.reduceMul, Nat.reduceAdd, q_pI_fI, q_pI_fL, q_pI_fR, q_pI_aI, q_pI_aL, q_pI_aR, q_pI_K, q_pI_ln, q_pI_n, q_pI_sl, q_pI_is, q_pI_ck, q_pL_fI, q_pL_fL, q_pL_fR, q_pL_aI, q_pL_aL, q_pL_aR, q_pL_K, q_pL_ln, q_pL_n, q_pL_sl, q_pL_is, q_pL_ck, q_pR_fI, q_pR_fL, q_pR_fR, q_pR_aI, q_pR_aL, q_pR_aR, q_pR_K, q_pR_ln, q_pR_n, q_pR_sl, q_pR_is, q_pR_ck, q_rI_fI, q_rI_fL, q_rI_fR, q_rI_aI, q_rI_aL, q_rI_aR, q_rI_K, q_rI_ln, q_rI_n, q_rI_sl, q_rI_is, q_rI_ck, q_rL_fI, q_rL_fL, q_rL_fR, q_rL_aI, q_rL_aL, q_rL_aR, q_rL_K, q_rL_ln, q_rL_n, q_rL_sl, q_rL_is, q_rL_ck, q_rR_fI, q_rR_fL, q_rR_fR, q_rR_aI, q_rR_aL, q_rR_aR, q_rR_K, q_rR_ln, q_rR_n, q_rR_sl, q_rR_is, q_rR_ck, Option.bind_some, ck9 hR, hc, rf_columns hR, g_ck_t (ri_columns hR), rl_columns hR, rf_stepNames hR, g_ck_t (ri_stepNames hR), rl_stepNames hR, rf_whats hR, g_ck_t (ri_whats hR), rl_whats hR, rf_origins hR, g_ck_t (ri_origins hR), rl_origins hR, rf_types hR, g_ck_t (ri_types hR), rl_types hR, rf_pastTypes hR, g_ck_t (ri_pastTypes hR), rl_pastTypes hR, rf_pasts hR, g_ck_t (ri_pasts hR), rl_pasts hR, rf_dropped hR, ix3, cl2, hS.1, g_ix_t, nI_clamp, s1, s2, pl, add1, g_row, Nat.reduceEqDiff, reduceIte]
    rw [g_jn]
    try dsimp only
    rw [if_neg (show ¬ st.1 = 3 by rw [e]; decide)]
    try simp (disch := omega) only [g_getI, g_getR, g_ldI, g_stI, g_cVI, Nat.reduceMul, Nat.reduceAdd, q_pI_fI, q_pI_fL, q_pI_fR, q_pI_aI, q_pI_aL, q_pI_aR, q_pI_K, q_pI_ln, q_pI_n, q_pI_sl, q_pI_is, q_pI_ck, q_pL_fI, q_pL_fL, q_pL_fR, q_pL_aI, q_pL_aL, q_pL_aR, q_pL_K, q_pL_ln, q_pL_n, q_pL_sl, q_pL_is, q_pL_ck, q_pR_fI, q_pR_fL, q_pR_fR, q_pR_aI, q_pR_aL, q_pR_aR, q_pR_K, q_pR_ln, q_pR_n, q_pR_sl, q_pR_is, q_pR_ck, q_rI_fI, q_rI_fL, q_rI_fR, q_rI_aI, q_rI_aL, q_rI_aR, q_rI_K, q_rI_ln, q_rI_n, q_rI_sl, q_rI_is, q_rI_ck, q_rL_fI, q_rL_fL, q_rL_fR, q_rL_aI, q_rL_aL, q_rL_aR, q_rL_K, q_rL_ln, q_rL_n, q_rL_sl, q_rL_is, q_rL_ck, q_rR_fI, q_rR_fL, q_rR_fR, q_rR_aI, q_rR_aL, q_rR_aR, q_rR_K, q_rR_ln, q_rR_n, q_rR_sl, q_rR_is, q_rR_ck, Option.bind_some, ck9 hR, hc, rf_columns hR, g_ck_t (ri_columns hR), rl_columns hR, rf_stepNames hR, g_ck_t (ri_stepNames hR), rl_stepNames hR, rf_whats hR, g_ck_t (ri_whats hR), rl_whats hR, rf_origins hR, g_ck_t (ri_origins hR), rl_origins hR, rf_types hR, g_ck_t (ri_types hR), rl_types hR, rf_pastTypes hR, g_ck_t (ri_pastTypes hR), rl_pastTypes hR, rf_pasts hR, g_ck_t (ri_pasts hR), rl_pasts hR, rf_dropped hR, ix3, cl2, hS.1, g_ix_t, nI_clamp, s1, s2, pl, add1, g_row, Nat.reduceEqDiff, reduceIte]
    rw [g_jn]
    try dsimp only
    rw [if_neg (show ¬ st.1 = 1 by rw [e]; decide)]
    try simp (disch := omega) only [g_getI, g_getR, g_ldI, g_stI, g_cVI, Nat.reduceMul, Nat.reduceAdd, q_pI_fI, q_pI_fL, q_pI_fR, q_pI_aI, q_pI_aL, q_pI_aR, q_pI_K, q_pI_ln, q_pI_n, q_pI_sl, q_pI_is, q_pI_ck, q_pL_fI, q_pL_fL, q_pL_fR, q_pL_aI, q_pL_aL, q_pL_aR, q_pL_K, q_pL_ln, q_pL_n, q_pL_sl, q_pL_is, q_pL_ck, q_pR_fI, q_pR_fL, q_pR_fR, q_pR_aI, q_pR_aL, q_pR_aR, q_pR_K, q_pR_ln, q_pR_n, q_pR_sl, q_pR_is, q_pR_ck, q_rI_fI, q_rI_fL, q_rI_fR, q_rI_aI, q_rI_aL, q_rI_aR, q_rI_K, q_rI_ln, q_rI_n, q_rI_sl, q_rI_is, q_rI_ck, q_rL_fI, q_rL_fL, q_rL_fR, q_rL_aI, q_rL_aL, q_rL_aR, q_rL_K, q_rL_ln, q_rL_n, q_rL_sl, q_rL_is, q_rL_ck, q_rR_fI, q_rR_fL, q_rR_fR, q_rR_aI, q_rR_aL, q_rR_aR, q_rR_K, q_rR_ln, q_rR_n, q_rR_sl, q_rR_is, q_rR_ck, Option.bind_some, ck9 hR, hc, rf_columns hR, g_ck_t (ri_columns hR), rl_columns hR, rf_stepNames hR, g_ck_t (ri_stepNames hR), rl_stepNames hR, rf_whats hR, g_ck_t (ri_whats hR), rl_whats hR, rf_origins hR, g_ck_t (ri_origins hR), rl_origins hR, rf_types hR, g_ck_t (ri_types hR), rl_types hR, rf_pastTypes hR, g_ck_t (ri_pastTypes hR), rl_pastTypes hR, rf_pasts hR, g_ck_t (ri_pasts hR), rl_pasts hR, rf_dropped hR, ix3, cl2, hS.1, g_ix_t, nI_clamp, s1, s2, pl, add1, g_row, Nat.reduceEqDiff, reduceIte]
  · have hp := right_has hw (by rw [e]; decide)
    have hll : (mStepS st l).length = l.length := by rw [stepS_ret e, List.length_set]
    rcases h3 (mPlace l st.2.1) hp with y | ⟨o, h, y1, y2, y3⟩
    · refine ⟨S, fun fu => ?_, RE.refl, Rep.same ⟨h1, h2, h3⟩ hll (fun o ho2 => tr1_same (by rw [e]; decide) (fun z h q1 q2 => by
        rw [← q2.2] at q1
        have := (h1 o _ h ho2 q1).2.1
        rw [y] at this
        exact absurd this.symm (nI_m1 (by omega))))⟩
      rw [l_X9_follow_44]
      simp (disch := omega) only [g_getI, g_getR, g_ldI, g_stI, g_cVI, Nat.reduceMul, Nat.reduceAdd, q_pI_fI, q_pI_fL, q_pI_fR, q_pI_aI, q_pI_aL, q_pI_aR, q_pI_K, q_pI_ln, q_pI_n, q_pI_sl, q_pI_is, q_pI_ck, q_pL_fI, q_pL_fL, q_pL_fR, q_pL_aI, q_pL_aL, q_pL_aR, q_pL_K, q_pL_ln, q_pL_n, q_pL_sl, q_pL_is, q_pL_ck, q_pR_fI, q_pR_fL, q_pR_fR, q_pR_aI, q_pR_aL, q_pR_aR, q_pR_K, q_pR_ln, q_pR_n, q_pR_sl, q_pR_is, q_pR_ck, q_rI_fI, q_rI_fL, q_rI_fR, q_rI_aI, q_rI_aL, q_rI_aR, q_rI_K, q_rI_ln, q_rI_n, q_rI_sl, q_rI_is, q_rI_ck, q_rL_fI, q_rL_fL, q_rL_fR, q_rL_aI, q_rL_aL, q_rL_aR, q_rL_K, q_rL_ln, q_rL_n, q_rL_sl, q_rL_is, q_rL_ck, q_rR_fI, q_rR_fL, q_rR_fR, q_rR_aI, q_rR_aL, q_rR_aR, q_rR_K, q_rR_ln, q_rR_n, q_rR_sl, q_rR_is, q_rR_ck, Option.bind_some, ck9 hR, hc, rf_columns hR, g_ck_t (ri_columns hR), rl_columns hR, rf_stepNames hR, g_ck_t (ri_stepNames hR), rl_stepNames hR, rf_whats hR, g_ck_t (ri_whats hR), rl_whats hR, rf_origins hR, g_ck_t (ri_origins hR), rl_origins hR, rf_types hR, g_ck_t (ri_types hR), rl_types hR, rf_pastTypes hR, g_ck_t (ri_pastTypes hR), rl_pastTypes hR, rf_pasts hR, g_ck_t (ri_pasts hR), rl_pasts hR, rf_dropped hR, ix3, cl2, hS.1, g_ix_t, nI_clamp, s1, s2, pl, add1, g_row, Nat.reduceEqDiff, reduceIte, plO_has hp, y]
      rw [if_neg cond, g_jn]
      try dsimp only
      rw [if_neg (show ¬ st.1 = 0 by rw [e]; decide)]
      try simp (disch := omega) only [g_getI, g_getR, g_ldI, g_stI, g_cVI, Nat.reduceMul, Nat.reduceAdd, q_pI_fI, q_pI_fL, q_pI_fR, q_pI_aI, q_pI_aL, q_pI_aR, q_pI_K, q_pI_ln, q_pI_n, q_pI_sl, q_pI_is, q_pI_ck, q_pL_fI, q_pL_fL, q_pL_fR, q_pL_aI, q_pL_aL, q_pL_aR, q_pL_K, q_pL_ln, q_pL_n, q_pL_sl, q_pL_is, q_pL_ck, q_pR_fI, q_pR_fL, q_pR_fR, q_pR_aI, q_pR_aL, q_pR_aR, q_pR_K, q_pR_ln, q_pR_n, q_pR_sl, q_pR_is, q_pR_ck, q_rI_fI, q_rI_fL, q_rI_fR, q_rI_aI, q_rI_aL, q_rI_aR, q_rI_K, q_rI_ln, q_rI_n, q_rI_sl, q_rI_is, q_rI_ck, q_rL_fI, q_rL_fL, q_rL_fR, q_rL_aI, q_rL_aL, q_rL_aR, q_rL_K, q_rL_ln, q_rL_n, q_rL_sl, q_rL_is, q_rL_ck, q_rR_fI, q_rR_fL, q_rR_fR, q_rR_aI, q_rR_aL, q_rR_aR, q_rR_K, q_rR_ln, q_rR_n, q_rR_sl, q_rR_is, q_rR_ck, Option.bind_some, ck9 hR, hc, rf_columns hR, g_ck_t (ri_columns hR), rl_columns hR, rf_stepNames hR, g_ck_t (ri_stepNames hR), rl_stepNames hR, rf_whats hR, g_ck_t (ri_whats hR), rl_whats hR, rf_origins hR, g_ck_t (ri_origins hR), rl_origins hR, rf_types hR, g_ck_t (ri_types hR), rl_types hR, rf_pastTypes hR, g_ck_t (ri_pastTypes hR), rl_pastTypes hR, rf_pasts hR, g_ck_t (ri_pasts hR), rl_pasts hR, rf_dropped hR, ix3, cl2, hS.1, g_ix_t, nI_clamp, s1, s2, pl, add1, g_row, Nat.reduceEqDiff, reduceIte, plO_has hp, y]
      rw [g_jn]
      try dsimp only
      rw [if_pos e, if_pos (show (-1 : Int32) < 0 by decide)]
      try simp (disch := omega) only [g_getI, g_getR, g_ldI, g_stI, g_cVI, Nat.reduceMul, Nat.reduceAdd, q_pI_fI, q_pI_fL, q_pI_fR, q_pI_aI, q_pI_aL, q_pI_aR, q_pI_K, q_pI_ln, q_pI_n, q_pI_sl, q_pI_is, q_pI_ck, q_pL_fI, q_pL_fL, q_pL_fR, q_pL_aI, q_pL_aL, q_pL_aR, q_pL_K, q_pL_ln, q_pL_n, q_pL_sl, q_pL_is, q_pL_ck, q_pR_fI, q_pR_fL, q_pR_fR, q_pR_aI, q_pR_aL, q_pR_aR, q_pR_K, q_pR_ln, q_pR_n, q_pR_sl, q_pR_is, q_pR_ck, q_rI_fI, q_rI_fL, q_rI_fR, q_rI_aI, q_rI_aL, q_rI_aR, q_rI_K, q_rI_ln, q_rI_n, q_rI_sl, q_rI_is, q_rI_ck, q_rL_fI, q_rL_fL, q_rL_fR, q_rL_aI, q_rL_aL, q_rL_aR, q_rL_K, q_rL_ln, q_rL_n, q_rL_sl, q_rL_is, q_rL_ck, q_rR_fI, q_rR_fL, q_rR_fR, q_rR_aI, q_rR_aL, q_rR_aR, q_rR_K, q_rR_ln, q_rR_n, q_rR_sl, q_rR_is, q_rR_ck, Option.bind_some, ck9 hR, hc, rf_columns hR, g_ck_t (ri_columns hR), rl_columns hR, rf_stepNames hR, g_ck_t (ri_stepNames hR), rl_stepNames hR, rf_whats hR, g_ck_t (ri_whats hR), rl_whats hR, rf_origins hR, g_ck_t (ri_origins hR), rl_origins hR, rf_types hR, g_ck_t (ri_types hR), rl_types hR, rf_pastTypes hR, g_ck_t (ri_pastTypes hR), rl_pastTypes hR, rf_pasts hR, g_ck_t (ri_pasts hR), rl_pasts hR, rf_dropped hR, ix3, cl2, hS.1, g_ix_t, nI_clamp, s1, s2, pl, add1, g_row, Nat.reduceEqDiff, reduceIte, plO_has hp, y]
      rw [g_jn]
      try dsimp only
      rw [if_neg (show ¬ st.1 = 1 by rw [e]; decide)]
      try simp (disch := omega) only [g_getI, g_getR, g_ldI, g_stI, g_cVI, Nat.reduceMul, Nat.reduceAdd, q_pI_fI, q_pI_fL, q_pI_fR, q_pI_aI, q_pI_aL, q_pI_aR, q_pI_K, q_pI_ln, q_pI_n, q_pI_sl, q_pI_is, q_pI_ck, q_pL_fI, q_pL_fL, q_pL_fR, q_pL_aI, q_pL_aL, q_pL_aR, q_pL_K, q_pL_ln, q_pL_n, q_pL_sl, q_pL_is, q_pL_ck, q_pR_fI, q_pR_fL, q_pR_fR, q_pR_aI, q_pR_aL, q_pR_aR, q_pR_K, q_pR_ln, q_pR_n, q_pR_sl, q_pR_is, q_pR_ck, q_rI_fI, q_rI_fL, q_rI_fR, q_rI_aI, q_rI_aL, q_rI_aR, q_rI_K, q_rI_ln, q_rI_n, q_rI_sl, q_rI_is, q_rI_ck, q_rL_fI, q_rL_fL, q_rL_fR, q_rL_aI, q_rL_aL, q_rL_aR, q_rL_K, q_rL_ln, q_rL_n, q_rL_sl, q_rL_is, q_rL_ck, q_rR_fI, q_rR_fL, q_rR_fR, q_rR_aI, q_rR_aL, q_rR_aR, q_rR_K, q_rR_ln, q_rR_n, q_rR_sl, q_rR_is, q_rR_ck, Option.bind_some, ck9 hR, hc, rf_columns hR, g_ck_t (ri_columns hR), rl_columns hR, rf_stepNames hR, g_ck_t (ri_stepNames hR), rl_stepNames hR, rf_whats hR, g_ck_t (ri_whats hR), rl_whats hR, rf_origins hR, g_ck_t (ri_origins hR), rl_origins hR, rf_types hR, g_ck_t (ri_types hR), rl_types hR, rf_pastTypes hR, g_ck_t (ri_pastTypes hR), rl_pastTypes hR, rf_pasts hR, g_ck_t (ri_pasts hR), rl_pasts hR, rf_dropped hR, ix3, cl2, hS.1, g_ix_t, nI_clamp, s1, s2, pl, add1, g_row, Nat.reduceEqDiff, reduceIte, plO_has hp, y]
    · obtain ⟨a1, a2, a3, a4, a5, a6, a7⟩ := h1 o _ h y1 y3
      have e2 : RE [263, 264] [] S (g_rI (g_rI S 263 (upd (gaI S 263) (6 * o + h.length) (mTyAt l (mPlace l st.2.1)))) 264 (upd (gaI S 264) o (nI (h.length + 1)))) := (RE.rI (by decide)).trans (RE.rI (by decide))
      refine ⟨g_rI (g_rI S 263 (upd (gaI S 263) (6 * o + h.length) (mTyAt l (mPlace l st.2.1)))) 264 (upd (gaI S 264) o (nI (h.length + 1))), fun fu => ?_, e2.mono (by decide) (by decide), ?_⟩
      · rw [l_X9_follow_44]
        simp (disch := omega) only [g_getI, g_getR, g_ldI, g_stI, g_cVI, Nat.reduceMul, Nat.reduceAdd, q_pI_fI, q_pI_fL, q_pI_fR, q_pI_aI, q_pI_aL, q_pI_aR, q_pI_K, q_pI_ln, q_pI_n, q_pI_sl, q_pI_is, q_pI_ck, q_pL_fI, q_pL_fL, q_pL_fR, q_pL_aI, q_pL_aL, q_pL_aR, q_pL_K, q_pL_ln, q_pL_n, q_pL_sl, q_pL_is, q_pL_ck, q_pR_fI, q_pR_fL, q_pR_fR, q_pR_aI, q_pR_aL, q_pR_aR, q_pR_K, q_pR_ln, q_pR_n, q_pR_sl, q_pR_is, q_pR_ck, q_rI_fI, q_rI_fL, q_rI_fR, q_rI_aI, q_rI_aL, q_rI_aR, q_rI_K, q_rI_ln, q_rI_n, q_rI_sl, q_rI_is, q_rI_ck, q_rL_fI, q_rL_fL, q_rL_fR, q_rL_aI, q_rL_aL, q_rL_aR, q_rL_K, q_rL_ln, q_rL_n, q_rL_sl, q_rL_is, q_rL_ck, q_rR_fI, q_rR_fL, q_rR_fR, q_rR_aI, q_rR_aL, q_rR_aR, q_rR_K, q_rR_ln, q_rR_n, q_rR_sl, q_rR_is, q_rR_ck, Option.bind_some, ck9 hR, hc, rf_columns hR, g_ck_t (ri_columns hR), rl_columns hR, rf_stepNames hR, g_ck_t (ri_stepNames hR), rl_stepNames hR, rf_whats hR, g_ck_t (ri_whats hR), rl_whats hR, rf_origins hR, g_ck_t (ri_origins hR), rl_origins hR, rf_types hR, g_ck_t (ri_types hR), rl_types hR, rf_pastTypes hR, g_ck_t (ri_pastTypes hR), rl_pastTypes hR, rf_pasts hR, g_ck_t (ri_pasts hR), rl_pasts hR, rf_dropped hR, ix3, cl2, hS.1, g_ix_t, nI_clamp, s1, s2, pl, add1, g_row, Nat.reduceEqDiff, reduceIte, plO_has hp, y2, a4]
        rw [if_neg cond, g_jn]
        try dsimp only
        rw [if_neg (show ¬ st.1 = 0 by rw [e]; decide)]
        try simp (disch := omega) only [g_getI, g_getR, g_ldI, g_stI, g_cVI, Nat.reduceMul, Nat.reduceAdd, q_pI_fI, q_pI_fL, q_pI_fR, q_pI_aI, q_pI_aL, q_pI_aR, q_pI_K, q_pI_ln, q_pI_n, q_pI_sl, q_pI_is, q_pI_ck, q_pL_fI, q_pL_fL, q_pL_fR, q_pL_aI, q_pL_aL, q_pL_aR, q_pL_K, q_pL_ln, q_pL_n, q_pL_sl, q_pL_is, q_pL_ck, q_pR_fI, q_pR_fL, q_pR_fR, q_pR_aI, q_pR_aL, q_pR_aR, q_pR_K, q_pR_ln, q_pR_n, q_pR_sl, q_pR_is, q_pR_ck, q_rI_fI, q_rI_fL, q_rI_fR, q_rI_aI, q_rI_aL, q_rI_aR, q_rI_K, q_rI_ln, q_rI_n, q_rI_sl, q_rI_is, q_rI_ck, q_rL_fI, q_rL_fL, q_rL_fR, q_rL_aI, q_rL_aL, q_rL_aR, q_rL_K, q_rL_ln, q_rL_n, q_rL_sl, q_rL_is, q_rL_ck, q_rR_fI, q_rR_fL, q_rR_fR, q_rR_aI, q_rR_aL, q_rR_aR, q_rR_K, q_rR_ln, q_rR_n, q_rR_sl, q_rR_is, q_rR_ck, Option.bind_some, ck9 hR, hc, rf_columns hR, g_ck_t (ri_columns hR), rl_columns hR, rf_stepNames hR, g_ck_t (ri_stepNames hR), rl_stepNames hR, rf_whats hR, g_ck_t (ri_whats hR), rl_whats hR, rf_origins hR, g_ck_t (ri_origins hR), rl_origins hR, rf_types hR, g_ck_t (ri_types hR), rl_types hR, rf_pastTypes hR, g_ck_t (ri_pastTypes hR), rl_pastTypes hR, rf_pasts hR, g_ck_t (ri_pasts hR), rl_pasts hR, rf_dropped hR, ix3, cl2, hS.1, g_ix_t, nI_clamp, s1, s2, pl, add1, g_row, Nat.reduceEqDiff, reduceIte, plO_has hp, y2, a4]
        rw [g_jn]
        try dsimp only
        rw [if_pos e, if_neg (show ¬ nI o < 0 from fun z => by
          rw [show (0 : Int32) = nI 0 from rfl, nI_ltI (by omega) (by omega)] at z
          omega), show (16 : Int32) = nI (8 * 2) from rfl, nI_add, g_ix_t (by omega) (by decide), nI_clamp (by omega), hS.tyAt hp, show (6 : Int32) * nI o + nI h.length = nI (6 * o + h.length) by rw [show (6 : Int32) = nI 6 from rfl, pk_mul, nI_add], g_ix_t (by omega) (by decide), nI_clamp (by omega)]
        try simp (disch := omega) only [g_getI, g_getR, g_ldI, g_stI, g_cVI, Nat.reduceMul, Nat.reduceAdd, q_pI_fI, q_pI_fL, q_pI_fR, q_pI_aI, q_pI_aL, q_pI_aR, q_pI_K, q_pI_ln, q_pI_n, q_pI_sl, q_pI_is, q_pI_ck, q_pL_fI, q_pL_fL, q_pL_fR, q_pL_aI, q_pL_aL, q_pL_aR, q_pL_K, q_pL_ln, q_pL_n, q_pL_sl, q_pL_is, q_pL_ck, q_pR_fI, q_pR_fL, q_pR_fR, q_pR_aI, q_pR_aL, q_pR_aR, q_pR_K, q_pR_ln, q_pR_n, q_pR_sl, q_pR_is, q_pR_ck, q_rI_fI, q_rI_fL, q_rI_fR, q_rI_aI, q_rI_aL, q_rI_aR, q_rI_K, q_rI_ln, q_rI_n, q_rI_sl, q_rI_is, q_rI_ck, q_rL_fI, q_rL_fL, q_rL_fR, q_rL_aI, q_rL_aL, q_rL_aR, q_rL_K, q_rL_ln, q_rL_n, q_rL_sl, q_rL_is, q_rL_ck, q_rR_fI, q_rR_fL, q_rR_fR, q_rR_aI, q_rR_aL, q_rR_aR, q_rR_K, q_rR_ln, q_rR_n, q_rR_sl, q_rR_is, q_rR_ck, Option.bind_some, ck9 hR, hc, rf_columns hR, g_ck_t (ri_columns hR), rl_columns hR, rf_stepNames hR, g_ck_t (ri_stepNames hR), rl_stepNames hR, rf_whats hR, g_ck_t (ri_whats hR), rl_whats hR, rf_origins hR, g_ck_t (ri_origins hR), rl_origins hR, rf_types hR, g_ck_t (ri_types hR), rl_types hR, rf_pastTypes hR, g_ck_t (ri_pastTypes hR), rl_pastTypes hR, rf_pasts hR, g_ck_t (ri_pasts hR), rl_pasts hR, rf_dropped hR, ix3, cl2, hS.1, g_ix_t, nI_clamp, s1, s2, pl, add1, g_row, Nat.reduceEqDiff, reduceIte, plO_has hp, y2, a4]
        rw [g_jn]
        try dsimp only
        rw [if_neg (show ¬ st.1 = 1 by rw [e]; decide)]
        try simp (disch := omega) only [g_getI, g_getR, g_ldI, g_stI, g_cVI, Nat.reduceMul, Nat.reduceAdd, q_pI_fI, q_pI_fL, q_pI_fR, q_pI_aI, q_pI_aL, q_pI_aR, q_pI_K, q_pI_ln, q_pI_n, q_pI_sl, q_pI_is, q_pI_ck, q_pL_fI, q_pL_fL, q_pL_fR, q_pL_aI, q_pL_aL, q_pL_aR, q_pL_K, q_pL_ln, q_pL_n, q_pL_sl, q_pL_is, q_pL_ck, q_pR_fI, q_pR_fL, q_pR_fR, q_pR_aI, q_pR_aL, q_pR_aR, q_pR_K, q_pR_ln, q_pR_n, q_pR_sl, q_pR_is, q_pR_ck, q_rI_fI, q_rI_fL, q_rI_fR, q_rI_aI, q_rI_aL, q_rI_aR, q_rI_K, q_rI_ln, q_rI_n, q_rI_sl, q_rI_is, q_rI_ck, q_rL_fI, q_rL_fL, q_rL_fR, q_rL_aI, q_rL_aL, q_rL_aR, q_rL_K, q_rL_ln, q_rL_n, q_rL_sl, q_rL_is, q_rL_ck, q_rR_fI, q_rR_fL, q_rR_fR, q_rR_aI, q_rR_aL, q_rR_aR, q_rR_K, q_rR_ln, q_rR_n, q_rR_sl, q_rR_is, q_rR_ck, Option.bind_some, ck9 hR, hc, rf_columns hR, g_ck_t (ri_columns hR), rl_columns hR, rf_stepNames hR, g_ck_t (ri_stepNames hR), rl_stepNames hR, rf_whats hR, g_ck_t (ri_whats hR), rl_whats hR, rf_origins hR, g_ck_t (ri_origins hR), rl_origins hR, rf_types hR, g_ck_t (ri_types hR), rl_types hR, rf_pastTypes hR, g_ck_t (ri_pastTypes hR), rl_pastTypes hR, rf_pasts hR, g_ck_t (ri_pasts hR), rl_pasts hR, rf_dropped hR, ix3, cl2, hS.1, g_ix_t, nI_clamp, s1, s2, pl, add1, g_row, Nat.reduceEqDiff, reduceIte, plO_has hp, y2, a4]
      · have oth : ∀ o2 z2 g2, o2 < n → o2 ≠ o → tr o2 = some (z2, g2) → tr1 st l (tr o2) = some (z2, g2) := by
          intro o2 z2 g2 q1 q2 q3
          rw [tr1_same (by rw [e]; decide) (fun z h q4 q5 => by
            rw [q3] at q4
            cases q4
            have := (h1 o2 _ _ q1 q3).2.1
            rw [← q5.2, y2] at this
            exact q2 ((nI_eq (by omega) (by omega)).mp this).symm), q3]
        have me : tr1 st l (tr o) = some (mPlace l st.2.1, h ++ [mTyAt l (mPlace l st.2.1)]) := by
          rw [y3, tr1_some]
          unfold mBeh
          rw [if_neg (show ¬ st.1 = 1 by rw [e]; decide)]
          dsimp only
          rw [if_pos ⟨e, rfl⟩]
        refine ⟨fun o2 z2 g2 q1 q2 => ?_, fun o2 q1 q2 => ?_, fun z hz => ?_⟩
        · simp only [q_pI_fI, q_pI_fL, q_pI_fR, q_pI_aI, q_pI_aL, q_pI_aR, q_pI_K, q_pI_ln, q_pI_n, q_pI_sl, q_pI_is, q_pI_ck, q_pL_fI, q_pL_fL, q_pL_fR, q_pL_aI, q_pL_aL, q_pL_aR, q_pL_K, q_pL_ln, q_pL_n, q_pL_sl, q_pL_is, q_pL_ck, q_pR_fI, q_pR_fL, q_pR_fR, q_pR_aI, q_pR_aL, q_pR_aR, q_pR_K, q_pR_ln, q_pR_n, q_pR_sl, q_pR_is, q_pR_ck, q_rI_fI, q_rI_fL, q_rI_fR, q_rI_aI, q_rI_aL, q_rI_aR, q_rI_K, q_rI_ln, q_rI_n, q_rI_sl, q_rI_is, q_rI_ck, q_rL_fI, q_rL_fL, q_rL_fR, q_rL_aI, q_rL_aL, q_rL_aR, q_rL_K, q_rL_ln, q_rL_n, q_rL_sl, q_rL_is, q_rL_ck, q_rR_fI, q_rR_fL, q_rR_fR, q_rR_aI, q_rR_aL, q_rR_aR, q_rR_K, q_rR_ln, q_rR_n, q_rR_sl, q_rR_is, q_rR_ck, g_row, Nat.reduceEqDiff, reduceIte]
          rw [hll]
          replace q2 : tr1 st l (tr o2) = some (z2, g2) := q2
          by_cases c : o2 = o
          · subst c
            rw [me] at q2
            cases q2
            rw [pk_us, List.length_append, List.length_singleton]
            refine ⟨hp, a2, a3, rfl, by omega, fun t ht => ?_, fun j t hj => ?_⟩
            · rcases List.mem_append.mp ht with q | q
              · exact a6 t q
              · rw [List.mem_singleton.mp q]; exact ho.ty hp
            · have hj2 := lt_of_some hj
              rw [List.length_append, List.length_singleton] at hj2
              by_cases d : j < h.length
              · rw [List.getElem?_append_left d] at hj
                rw [pk_un (by omega)]
                exact a7 j t hj
              · have : j = h.length := by omega
                subst this
                rw [List.getElem?_append_right (by omega), Nat.sub_self] at hj
                cases hj
                rw [pk_us]
          · cases ht : tr o2 with
            | none => rw [ht] at q2; cases q2
            | some y =>
              obtain ⟨y, hy⟩ := y
              have q3 := oth o2 y hy q1 c ht
              rw [q2] at q3
              cases q3
              obtain ⟨b1, b2, b3, b4, b5, b6, b7⟩ := h1 o2 _ _ q1 ht
              rw [pk_un c]
              refine ⟨b1, b2, b3, b4, by omega, b6, fun j t hj => ?_⟩
              have := lt_of_some hj
              rw [pk_un (by omega)]
              exact b7 j t hj
        · simp only [q_pI_fI, q_pI_fL, q_pI_fR, q_pI_aI, q_pI_aL, q_pI_aR, q_pI_K, q_pI_ln, q_pI_n, q_pI_sl, q_pI_is, q_pI_ck, q_pL_fI, q_pL_fL, q_pL_fR, q_pL_aI, q_pL_aL, q_pL_aR, q_pL_K, q_pL_ln, q_pL_n, q_pL_sl, q_pL_is, q_pL_ck, q_pR_fI, q_pR_fL, q_pR_fR, q_pR_aI, q_pR_aL, q_pR_aR, q_pR_K, q_pR_ln, q_pR_n, q_pR_sl, q_pR_is, q_pR_ck, q_rI_fI, q_rI_fL, q_rI_fR, q_rI_aI, q_rI_aL, q_rI_aR, q_rI_K, q_rI_ln, q_rI_n, q_rI_sl, q_rI_is, q_rI_ck, q_rL_fI, q_rL_fL, q_rL_fR, q_rL_aI, q_rL_aL, q_rL_aR, q_rL_K, q_rL_ln, q_rL_n, q_rL_sl, q_rL_is, q_rL_ck, q_rR_fI, q_rR_fL, q_rR_fR, q_rR_aI, q_rR_aL, q_rR_aR, q_rR_K, q_rR_ln, q_rR_n, q_rR_sl, q_rR_is, q_rR_ck, g_row, Nat.reduceEqDiff, reduceIte]
          replace q2 : tr1 st l (tr o2) = none := q2
          by_cases c : o2 = o
          · subst c; rw [me] at q2; cases q2
          · cases ht : tr o2 with
            | none => exact h2 o2 q1 ht
            | some y =>
              obtain ⟨y, hy⟩ := y
              rw [oth o2 y hy q1 c ht] at q2
              cases q2
        · simp only [q_pI_fI, q_pI_fL, q_pI_fR, q_pI_aI, q_pI_aL, q_pI_aR, q_pI_K, q_pI_ln, q_pI_n, q_pI_sl, q_pI_is, q_pI_ck, q_pL_fI, q_pL_fL, q_pL_fR, q_pL_aI, q_pL_aL, q_pL_aR, q_pL_K, q_pL_ln, q_pL_n, q_pL_sl, q_pL_is, q_pL_ck, q_pR_fI, q_pR_fL, q_pR_fR, q_pR_aI, q_pR_aL, q_pR_aR, q_pR_K, q_pR_ln, q_pR_n, q_pR_sl, q_pR_is, q_pR_ck, q_rI_fI, q_rI_fL, q_rI_fR, q_rI_aI, q_rI_aL, q_rI_aR, q_rI_K, q_rI_ln, q_rI_n, q_rI_sl, q_rI_is, q_rI_ck, q_rL_fI, q_rL_fL, q_rL_fR, q_rL_aI, q_rL_aL, q_rL_aR, q_rL_K, q_rL_ln, q_rL_n, q_rL_sl, q_rL_is, q_rL_ck, q_rR_fI, q_rR_fL, q_rR_fR, q_rR_aI, q_rR_aL, q_rR_aR, q_rR_K, q_rR_ln, q_rR_n, q_rR_sl, q_rR_is, q_rR_ck, g_row, Nat.reduceEqDiff, reduceIte]
          rw [hll] at hz
          rcases h3 z hz with q | ⟨o2, g, q1, q2, q3⟩
          · exact Or.inl q
          · by_cases c : o2 = o
            · subst c
              have : z = mPlace l st.2.1 := by
                rw [y3] at q3
                cases q3
                rfl
              subst this
              exact Or.inr ⟨o2, _, q1, q2, me⟩
            · exact Or.inr ⟨o2, g, q1, q2, oth o2 z g q1 c q3⟩
theorem follow_loop {n : Nat} (hn : n ≤ 8) : ∀ (ss : List mStep) (k fu : Nat) (S : gS) (l : List mCol) (tr : Nat → Trk), (∀ i st, ss[i]? = some st → StR S (6 + k + i) st) → gfI S 598 237 = nI (k + ss.length) → k + ss.length ≤ 6 → ss.length < fu → Imm S → SchR S 2 l → scOk l → (∀ st ∈ ss, stOk st) → mgOk ss l → Rep S n l tr k → ∃ S1, l_X9_follow_44 237 fu S (nI (6 + k)) = some S1 ∧ RE [248, 249, 250, 261, 262, 263, 264] [] S S1 ∧ (∀ j l', j < 2 → l'.length ≤ 8 → SchR S j l' → SchR S1 j l') ∧ Rep S1 n (mSchs l ss) (fun o => trF ss l (tr o)) (k + ss.length) := by
  intro ss
  induction ss with
  | nil =>
    intro k fu S l tr hss hc hk hf hI hS ho hok hg hRep
    have hR := hI.ref
    obtain ⟨fu, rfl⟩ : ∃ m, fu = m + 1 := ⟨fu - 1, by omega⟩
    refine ⟨S, ?_, RE.refl, fun _ _ _ _ h => h, hRep⟩
    rw [l_X9_follow_44]
    simp only [g_getI, Nat.reduceMul, Nat.reduceAdd, ck9 hR, hc]
    rw [show (6 : Int32) = nI 6 from rfl, nI_add, if_pos (nI_le (by simp) (by omega))]
  | cons st ss ih =>
    intro k fu S l tr hss hc hk hf hI hS ho hok hg hRep
    rw [List.length_cons] at hc hk hf
    obtain ⟨fu, rfl⟩ : ∃ m, fu = m + 1 := ⟨fu - 1, by omega⟩
    have hst := hss 0 st rfl
    rw [Nat.add_zero] at hst
    have hs := hok st List.mem_cons_self
    obtain ⟨S2, a1, a2, a3⟩ := follow_step (m := k + (ss.length + 1)) hI hRep hn (by omega) hS ho hs hg.1 (by omega) hk hc hst
    have hI2 := a2.imm hI
    obtain ⟨S3, c1, c2, c3, c4⟩ := step_R (k := 6 + k) hI2 (hS.e a2 (by decide)) ho hs hg.1 (by omega) (hst.e a2 (by decide))
    have hI3 := c2.imm hI2
    have e3 : RE [248, 249, 250, 261, 262, 263, 264] [] S S3 := (a2.mono (by decide) (by decide)).trans (c2.mono (by decide) (by decide))
    obtain ⟨S1, d1, d2, d3, d4⟩ := ih (k + 1) fu S3 (mStepS st l) (fun o => tr1 st l (tr o)) (fun i st' hi => by
        have := hss (i + 1) st' hi
        rw [show 6 + k + (i + 1) = 6 + (k + 1) + i by omega] at this
        exact this.e e3 (by decide)) (by rw [e3.fI (by decide), hc]; congr 1; omega) (by omega) (by omega) hI3 c3 (ho.step hs hg.1) (fun s q => hok s (List.mem_cons_of_mem _ q)) hg.2 (a3.e c2 (by decide))
    refine ⟨S1, ?_, e3.trans d2, fun j l' hj hl' h' => d3 j l' hj hl' (c4 j l' hj hl' (h'.e a2 (by decide))), ?_⟩
    · rw [a1]
      unfold g_cVV
      rw [ck9 hI2.ref, c1, Option.bind_some, add1]
      exact d1
    · rw [List.length_cons, show k + (ss.length + 1) = k + 1 + ss.length by omega]
      exact d4
theorem finit_loop {K : gS → Int32 → Option gS} : ∀ (d fu k : Nat) (S : gS), k + d = 8 → d < fu → Imm S → (∀ i, i < k → gaI S 261 i = nI i ∧ gaI S 262 i = 0 ∧ gaI S 264 i = 0) → ∃ S1, l_X9_follow_8 237 fu S (nI k) K = K S1 (nI 8) ∧ RE [261, 262, 264] [] S S1 ∧ ∀ i, i < 8 → gaI S1 261 i = nI i ∧ gaI S1 262 i = 0 ∧ gaI S1 264 i = 0 := by
  intro d
  induction d with
  | zero =>
    intro fu k S hk hf hI h
    obtain ⟨fu, rfl⟩ : ∃ m, fu = m + 1 := ⟨fu - 1, by omega⟩
    have : k = 8 := by omega
    subst this
    exact ⟨S, by rw [l_X9_follow_8, if_pos (by decide)], RE.refl, h⟩
  | succ d ih =>
    intro fu k S hk hf hI h
    have hR := hI.ref
    obtain ⟨fu, rfl⟩ : ∃ m, fu = m + 1 := ⟨fu - 1, by omega⟩
    have e : RE [261, 262, 264] [] S (g_rI (g_rI (g_rI S 261 (upd (gaI S 261) k (nI k))) 262 (upd (gaI S 262) k 0)) 264 (upd (gaI S 264) k 0)) := ((RE.rI (by decide)).trans (RE.rI (by decide))).trans (RE.rI (by decide))
    obtain ⟨S1, a1, a2, a3⟩ := ih fu (k + 1) (g_rI (g_rI (g_rI S 261 (upd (gaI S 261) k (nI k))) 262 (upd (gaI S 262) k 0)) 264 (upd (gaI S 264) k 0)) (by omega) (by omega) (e.imm hI) (fun i hi => by
      simp only [q_pI_fI, q_pI_fL, q_pI_fR, q_pI_aI, q_pI_aL, q_pI_aR, q_pI_K, q_pI_ln, q_pI_n, q_pI_sl, q_pI_is, q_pI_ck, q_pL_fI, q_pL_fL, q_pL_fR, q_pL_aI, q_pL_aL, q_pL_aR, q_pL_K, q_pL_ln, q_pL_n, q_pL_sl, q_pL_is, q_pL_ck, q_pR_fI, q_pR_fL, q_pR_fR, q_pR_aI, q_pR_aL, q_pR_aR, q_pR_K, q_pR_ln, q_pR_n, q_pR_sl, q_pR_is, q_pR_ck, q_rI_fI, q_rI_fL, q_rI_fR, q_rI_aI, q_rI_aL, q_rI_aR, q_rI_K, q_rI_ln, q_rI_n, q_rI_sl, q_rI_is, q_rI_ck, q_rL_fI, q_rL_fL, q_rL_fR, q_rL_aI, q_rL_aL, q_rL_aR, q_rL_K, q_rL_ln, q_rL_n, q_rL_sl, q_rL_is, q_rL_ck, q_rR_fI, q_rR_fL, q_rR_fR, q_rR_aI, q_rR_aL, q_rR_aR, q_rR_K, q_rR_ln, q_rR_n, q_rR_sl, q_rR_is, q_rR_ck, g_row, Nat.reduceEqDiff, reduceIte]
      by_cases c : i = k
      · subst c; rw [pk_us, pk_us, pk_us]; exact ⟨rfl, rfl, rfl⟩
      · rw [pk_un c, pk_un c, pk_un c]; exact h i (by omega))
    refine ⟨S1, ?_, e.trans a2, a3⟩
    rw [← a1, l_X9_follow_8, if_neg (show ¬ (8 : Int32) ≤ nI k from nI_ge (b := 8) (by omega) (by omega))]
    simp only [g_getI, g_getL, g_getR, g_putI, g_putZ, g_putL, g_putR, g_ldI, g_ldL, g_ldR, g_stI, g_stZ, g_stL, g_stR, g_alen, g_ldX, g_cVI, g_cVL, g_cVR, g_cVV, g_cI, g_cL, g_cN, g_lt, g_jn, g_cpI, g_cpL, g_z, Nat.reduceMul, Nat.reduceAdd, Option.bind_some, or_true, true_or, if_true, q_pI_fI, q_pI_fL, q_pI_fR, q_pI_aI, q_pI_aL, q_pI_aR, q_pI_K, q_pI_ln, q_pI_n, q_pI_sl, q_pI_is, q_pI_ck, q_pL_fI, q_pL_fL, q_pL_fR, q_pL_aI, q_pL_aL, q_pL_aR, q_pL_K, q_pL_ln, q_pL_n, q_pL_sl, q_pL_is, q_pL_ck, q_pR_fI, q_pR_fL, q_pR_fR, q_pR_aI, q_pR_aL, q_pR_aR, q_pR_K, q_pR_ln, q_pR_n, q_pR_sl, q_pR_is, q_pR_ck, q_rI_fI, q_rI_fL, q_rI_fR, q_rI_aI, q_rI_aL, q_rI_aR, q_rI_K, q_rI_ln, q_rI_n, q_rI_sl, q_rI_is, q_rI_ck, q_rL_fI, q_rL_fL, q_rL_fR, q_rL_aI, q_rL_aL, q_rL_aR, q_rL_K, q_rL_ln, q_rL_n, q_rL_sl, q_rL_is, q_rL_ck, q_rR_fI, q_rR_fL, q_rR_fR, q_rR_aI, q_rR_aL, q_rR_aR, q_rR_K, q_rR_ln, q_rR_n, q_rR_sl, q_rR_is, q_rR_ck, ck9 hR, rf_origins hR, g_ck_t (ri_origins hR), rl_origins hR, rf_dropped hR, g_ck_t (ri_dropped hR), rl_dropped hR, rf_pasts hR, g_ck_t (ri_pasts hR), rl_pasts hR, add1, g_row, Nat.reduceEqDiff, reduceIte]
    simp (disch := omega) only [g_ix_t, nI_clamp]
theorem follow_R {S : gS} {mg : List mStep} {sc : List mCol} (hI : Imm S) (hP : PlanR S 6 mg) (hc : gfI S 598 237 = nI mg.length) (hm : plOk mg) (h0 : SchR S 0 sc) (ho : scOk sc) (hg : mgOk mg sc) : ∃ S1, f_X9_follow S 237 = some S1 ∧ RE [248, 249, 250, 261, 262, 263, 264] [] S S1 ∧ (∀ j l', j < 2 → l'.length ≤ 8 → SchR S j l' → SchR S1 j l') ∧ Rep S1 sc.length (mSchs sc mg) (fun o => trF mg sc (some (o, []))) mg.length := by
  have hml := hm.1
  have hol := ho.1
  obtain ⟨S1, b1, b2, b3, b4⟩ := copySchema_R (S := S) (a := 0) (b := 2) hI (by decide) (by decide) (by decide)
  have hI1 := b2.imm hI
  obtain ⟨S2, c1, c2, c3⟩ := finit_loop (K := fun S8 _ => l_X9_follow_44 237 100 S8 (6 : Int32)) 8 100 0 S1 (by omega) (by omega) hI1 (fun i hi => by omega)
  have hI2 := c2.imm hI1
  have e2 : RE [248, 249, 250, 261, 262, 263, 264] [] S S2 := (b2.mono (by decide) (by decide)).trans (c2.mono (by decide) (by decide))
  have rep0 : Rep S2 sc.length sc (fun o => some (o, [])) 0 := by
    refine ⟨fun o z h ho2 hz => ?_, fun o _ hz => (by cases hz), fun z hz => Or.inr ⟨z, [], hz, (c3 z (by omega)).1, rfl⟩⟩
    cases hz
    obtain ⟨x1, x2, x3⟩ := c3 o (by omega)
    exact ⟨ho2, x1, x2, x3, by simp, fun t ht => (by cases ht), fun k t hk => (by cases hk)⟩
  obtain ⟨S3, d1, d2, d3, d4⟩ := follow_loop hol mg 0 100 S2 sc (fun o => some (o, [])) (fun i st hi => (show StR S (6 + i) st from hP i st hi).e e2 (by decide)) (by rw [e2.fI (by decide), hc, Nat.zero_add]) (by omega) (by omega) hI2 ((b3 sc hol h0).e c2 (by decide)) ho hm.2 hg rep0
  rw [Nat.zero_add] at d4
  refine ⟨S3, ?_, e2.trans d2, fun j l' hj hl' h' => d3 j l' hj hl' ((b4 j l' (by omega) (by omega) hl' h').e c2 (by decide)), d4⟩
  unfold f_X9_follow g_cVV
  rw [ck9 hI.ref, show (0 : Int32) = nI 0 from rfl, show (2 : Int32) = nI 2 from rfl, b1, Option.bind_some]
  exact c1.trans d1
