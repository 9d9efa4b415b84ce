/-! ===== the draft into a form; a form made down: of the class ===== -/
theorem copyValue_C {S : gS} {f w g u i j : Nat} (h : FormAt S f w) (h2 : FormAt S g u) (hi : i < 8) (hj : j < 8) : f_X2_copyValue S f (nI i) g (nI j) = some (g_rL S w (va_cpy (gaL S u) (gaL S w) (4 * j) (4 * i) 4)) := by
  obtain ⟨a1, a2, a3, a4⟩ := h
  obtain ⟨b1, b2, b3, b4⟩ := h2
  unfold f_X2_copyValue
  simp only [g_getI, g_getL, g_getR, g_putI, g_putZ, g_putL, g_putR, g_ldI, g_ldL, g_ldR, g_stI, g_stZ, g_stL, g_stR, g_alen, g_ldX, g_cVI, g_cVL, g_cVR, g_cVV, g_cI, g_cL, g_cN, g_lt, g_jn, g_cpI, g_cpL, g_z, Nat.reduceMul, Nat.reduceAdd, Option.bind_some, or_true, true_or, if_true, g_ck_t a1, a2, g_ck_t a3, a4, g_ck_t b1, b2, g_ck_t b3, b4, mul4]
  rw [show (4 : Int32) = nI 4 from rfl, g_rg_t (by omega) (by omega) (by omega) (by omega), nI_clamp (by omega), nI_clamp (by omega), nI_clamp (by omega)]
theorem OnlyCol.cp {w u : Nat → Int64} {i k : Nat} : OnlyCol i w (va_cpy u w k (4 * i) 4) := fun j hj => pk_cpy_out (by omega)
theorem CVw.cp {t : Int32} {w u : Nat → Int64} {i z : Nat} {x : mV} (h : CVw t u z x) : CVw t (va_cpy u w (4 * z) (4 * i) 4) i x := h.at fun j hj => by
  rw [pk_cpy_in (by omega) (by omega)]
  congr 1
  omega
theorem CVw.only {t : Int32} {w w1 : Nat → Int64} {i k : Nat} {x : mV} (h : CVw t w k x) (e : OnlyCol i w w1) (hk : k ≠ i) : CVw t w1 k x := h.eq fun j q1 q2 => e j (by omega)
theorem CVw.zero {t : Int32} {w : Nat → Int64} {i : Nat} (h : ∀ j, j < 4 → w (4 * i + j) = 0) : CVw t w i (0, []) := by
  unfold CVw
  by_cases e : t = 4
  · rw [if_pos e]
    refine ⟨h 0 (by omega), by simp, fun c hc => (by cases hc), fun j hj => ?_⟩
    rw [show 4 * i + 1 + j / 8 = 4 * i + (1 + j / 8) by omega, h _ (by omega), lt8_0]
    rfl
  · rw [if_neg e]
    exact h 0 (by omega)
theorem putInto_loop {f w s : Nat} {l : List mCol} {dr : mDr} (hl : l.length ≤ 8) (hty : ∀ c ∈ l, isTy c.2) (hw : w ≠ 205) (hw2 : w ≠ 207) (hs : isSch s) : ∀ (d fu i : Nat) (S : gS), i + d = l.length → d < fu → Imm S → FormAt S f w → SchC S s l → DraftC S dr → (∀ j c, j < i → l[j]? = some c → CVw c.2 (gaL S w) j (mDf dr j c.2)) → ∃ w1, l_X1_putInto_2 204 f s fu S (nI i) = some (g_rL S w w1) ∧ ∀ j c, l[j]? = some c → CVw c.2 w1 j (mDf dr j c.2) := by
  intro d
  induction d with
  | zero =>
    intro fu i S hi hf hI hF hS hD hlo
    obtain ⟨fu, rfl⟩ : ∃ m, fu = m + 1 := ⟨fu - 1, by omega⟩
    obtain ⟨m1, m2, m3, m4, m5, m6, m7⟩ := hI.sch hs
    refine ⟨gaL S w, ?_, fun j c hj => hlo j c (by have := lt_of_some hj; omega) hj⟩
    rw [l_X1_putInto_2]
    simp only [g_getI, Nat.reduceMul, Nat.reduceAdd, g_ck_t m1, hS.1]
    rw [if_pos (nI_le (by omega) (by omega)), g_rL_id]
  | succ d ih =>
    intro fu i S hi hf hI hF hS hD hlo
    obtain ⟨fu, rfl⟩ : ∃ m, fu = m + 1 := ⟨fu - 1, by omega⟩
    obtain ⟨m1, m2, m3, m4, m5, m6, m7⟩ := hI.sch hs
    have hil : i < l.length := by omega
    have hc := List.getElem?_eq_getElem hil
    have hti := (hS.2 i _ hc).2
    have hit := hty _ (List.mem_of_getElem? hc)
    obtain ⟨dd1, dd2⟩ := hD i (by omega)
    have i1 : g_is S 1 204 := hI.is (by decide) (by decide)
    have i2 : g_is S 11 205 := hI.is (by decide) (by decide)
    have d0 : gfR S 64 204 = some 205 := hI.r (64, 204, 205) (by decide)
    have d1 : gfR S 65 204 = some 206 := hI.r (65, 204, 206) (by decide)
    have l205 : gln S 205 = 8 := hI.ln (by decide)
    have fin : ∀ w1, OnlyCol i (gaL S w) w1 → CVw (l[i]).2 w1 i (mDf dr i (l[i]).2) → ∃ w2, l_X1_putInto_2 204 f s fu (g_rL S w w1) (nI i + 1) = some (g_rL S w w2) ∧ ∀ j c, l[j]? = some c → CVw c.2 w2 j (mDf dr j c.2) := by
      intro w1 e1 e2
      obtain ⟨w2, a1, a2⟩ := ih fu (i + 1) (g_rL S w w1) (by omega) (by omega) (hI.of rfl rfl rfl rfl rfl) hF hS (fun j hj => by
        rw [q_rL_aL, g_row_n (Ne.symm hw), g_row_n (Ne.symm hw2)]
        exact hD j hj) (fun j c hj hjc => by
        rw [q_rL_aL, g_row_s]
        by_cases q : j = i
        · subst q
          rw [hc] at hjc
          cases hjc
          exact e2
        · exact (hlo j c (by omega) hjc).only e1 q)
      refine ⟨w2, ?_, a2⟩
      rw [g_rL_rL] at a1
      rw [add1]
      exact a1
    have told : ¬ ((l[i]).2 = 4 ∧ 0 < (dr i).2.length) → ∃ w2, (g_cVV S 2 f (f_X2_setTold S f (nI i) (l[i]).2 (dr i).1) fun S12 => l_X1_putInto_2 204 f s fu S12 (nI i + 1)) = some (g_rL S w w2) ∧ ∀ j c, l[j]? = some c → CVw c.2 w2 j (mDf dr j c.2) := by
      intro hno
      obtain ⟨w1, b1, b2, b3⟩ := setTold_eq (v := (dr i).1) hF (show i < 8 by omega) hit
      unfold g_cVV
      rw [g_ck_t hF.1, b1, Option.bind_some]
      refine fin w1 b2 ?_
      unfold mDf
      rw [if_neg hno]
      exact b3
    rw [l_X1_putInto_2]
    simp only [g_getI, g_getR, g_ldI, g_ldL, g_jn, g_cVI, Nat.reduceMul, Nat.reduceAdd, Option.bind_some, g_ck_t m1, hS.1, m3, g_ck_t m6, m7, g_ck_t i1, d0, d1, g_ck_t i2, l205]
    rw [if_neg (nI_ge hil (by omega)), g_ix_t (by omega) (by decide), nI_clamp (by omega), hti]
    simp (disch := omega) only [g_ix_t, nI_clamp, dd1]
    by_cases e4 : (l[i]).2 = 4
    · rw [if_pos e4, letterCount_eq hI (by omega) dd2, Option.bind_some]
      dsimp only
      have hlen := dd2.2.1
      by_cases e5 : 0 < (dr i).2.length
      · rw [if_neg (show ¬ nI (dr i).2.length ≤ 0 from nI_nle (by omega) (by omega)), g_ck_t i1]
        unfold g_cVV
        rw [d1, Option.bind_some, g_ck_t hF.1, copyValue_C hF hI.letters (by omega) (by omega), Option.bind_some]
        refine fin _ OnlyCol.cp ?_
        unfold mDf
        rw [if_pos ⟨e4, e5⟩]
        refine CVw.cp ?_
        unfold CVw
        rw [if_pos e4]
        exact dd2
      · rw [if_pos (show nI (dr i).2.length ≤ 0 by rw [show (dr i).2.length = 0 by omega]; decide)]
        simp (disch := omega) only [g_ck_t m1, m3, Option.bind_some, g_ck_t m6, m7, g_ix_t, nI_clamp, hti, g_ck_t i1, d0, g_ck_t i2, l205, dd1]
        exact told (fun q => e5 q.2)
    · rw [if_neg e4]
      exact told (fun q => e4 q.1)
theorem putInto_C {S : gS} {f w s : Nat} {l : List mCol} {dr : mDr} (hI : Imm S) (hl : scOk l) (hw : w ≠ 205) (hw2 : w ≠ 207) (hs : isSch s) (hF : FormAt S f w) (hS : SchC S s l) (hD : DraftC S dr) : ∃ w1, f_X1_putInto S 204 f s = some (g_rL S w w1) ∧ FormC w1 (tys l) (mDfs dr (tys l)) := by
  obtain ⟨w1, a1, a2⟩ := putInto_loop hl.1 hl.2.1 hw hw2 hs l.length 100 0 S (by omega) (by have := hl.1; omega) hI hF hS hD (fun j c hj => by omega)
  refine ⟨w1, a1, by rw [mDfs_len], fun i t x ht hx => ?_⟩
  rw [mDfs_get ht hx]
  obtain ⟨c, c1, c2⟩ := tys_get ht
  subst c2
  exact a2 i c c1
/-! where a column stands behind the steps -/
def mEndP : List mStep → List mCol → Nat → Option Nat
  | [], _, q => some q
  | st :: ss, l, q => match mBeh st l q with
    | none => none
    | some q2 => mEndP ss (mStepS st l) q2
theorem mEndP_cons {st : mStep} {ss : List mStep} {l : List mCol} {q : Nat} : mEndP (st :: ss) l q = match mBeh st l q with | none => none | some q2 => mEndP ss (mStepS st l) q2 := rfl
theorem mBackV_cons {st : mStep} {ss : List mStep} {l : List mCol} {p : Nat} {vs : List mV} : mBackV (st :: ss) l p vs = match mBeh st l p with | none => none | some p2 => (mBackV ss (mStepS st l) p2 vs).map (fun v => if st.1 = 3 ∧ mPlace l st.2.1 = p then mBec st.2.2.1 (mTyAt l p) v else v) := rfl
theorem mBackV_none : ∀ (ss : List mStep) (l : List mCol) (q : Nat) (vs : List mV), mEndP ss l q = none → mBackV ss l q vs = none := by
  intro ss
  induction ss with
  | nil => intro l q vs h; cases h
  | cons st ss ih =>
    intro l q vs h
    rw [mEndP_cons] at h
    rw [mBackV_cons]
    cases hb : mBeh st l q with
    | none => rfl
    | some q2 =>
      rw [hb] at h
      dsimp only at h ⊢
      rw [ih _ _ _ h]
      rfl
theorem beh_ty {st : mStep} {l : List mCol} {q q2 : Nat} (hs : stOk st) (hw : ¬ mWrong st l) (hq : q < l.length) (h : mBeh st l q = some q2) : q2 < (mStepS st l).length ∧ mTyAt (mStepS st l) q2 = if st.1 = 3 ∧ mPlace l st.2.1 = q then st.2.2.1 else mTyAt l q := by
  have hc := List.getElem?_eq_getElem hq
  unfold mBeh at h
  rcases hs.1 with e | e | e | e
  · rw [if_neg (show ¬ st.1 = 1 by rw [e]; decide)] at h
    cases h
    rw [if_neg (show ¬ (st.1 = 3 ∧ mPlace l st.2.1 = q) from fun z => absurd (e.symm.trans z.1) (by decide)), stepS_add e]
    refine ⟨by rw [List.length_append]; omega, ?_⟩
    rw [mTyAt_of hc, mTyAt_of (c := l[q]) (by rw [List.getElem?_append_left hq]; exact hc)]
  · have hp := right_has hw (by rw [e]; decide)
    rw [if_pos e] at h
    rw [if_neg (show ¬ (st.1 = 3 ∧ mPlace l st.2.1 = q) from fun z => absurd (e.symm.trans z.1) (by decide)), stepS_drop e, List.length_eraseIdx_of_lt hp, mTyAt_of hc]
    by_cases a : q < mPlace l st.2.1
    · rw [if_pos a] at h
      cases h
      exact ⟨by omega, mTyAt_of (by rw [List.getElem?_eraseIdx, if_pos a]; exact hc)⟩
    · rw [if_neg a] at h
      by_cases b : q = mPlace l st.2.1
      · rw [if_pos b] at h; cases h
      · rw [if_neg b] at h
        cases h
        exact ⟨by omega, mTyAt_of (by rw [List.getElem?_eraseIdx, if_neg (by omega), show q - 1 + 1 = q by omega]; exact hc)⟩
  · have hp := right_has hw (by rw [e]; decide)
    rw [if_neg (show ¬ st.1 = 1 by rw [e]; decide)] at h
    cases h
    rw [if_neg (show ¬ (st.1 = 3 ∧ mPlace l st.2.1 = q) from fun z => absurd (e.symm.trans z.1) (by decide)), stepS_ren e, List.length_set]
    refine ⟨hq, ?_⟩
    by_cases a : mPlace l st.2.1 = q
    · rw [mTyAt_of (c := (st.2.2.1, mTyAt l (mPlace l st.2.1))) (by rw [List.getElem?_set, if_pos a, if_pos hp]), a]
    · rw [mTyAt_of hc, mTyAt_of (c := l[q]) (by rw [List.getElem?_set, if_neg a]; exact hc)]
  · have hp := right_has hw (by rw [e]; decide)
    rw [if_neg (show ¬ st.1 = 1 by rw [e]; decide)] at h
    cases h
    rw [stepS_ret e, List.length_set]
    refine ⟨hq, ?_⟩
    by_cases a : mPlace l st.2.1 = q
    · rw [if_pos ⟨e, a⟩, mTyAt_of (c := (st.2.1, st.2.2.1)) (by rw [List.getElem?_set, if_pos a, if_pos hp])]
    · rw [if_neg (fun z => a z.2), mTyAt_of hc, mTyAt_of (c := l[q]) (by rw [List.getElem?_set, if_neg a]; exact hc)]
theorem mEndP_lt : ∀ (ss : List mStep) (l : List mCol) (q z : Nat), (∀ st ∈ ss, stOk st) → mgOk ss l → q < l.length → mEndP ss l q = some z → z < (mSchs l ss).length := by
  intro ss
  induction ss with
  | nil => intro l q z _ _ hq h; cases h; exact hq
  | cons st ss ih =>
    intro l q z hs hg hq h
    rw [mEndP_cons] at h
    cases hb : mBeh st l q with
    | none => rw [hb] at h; cases h
    | some q2 =>
      rw [hb] at h
      exact ih _ _ _ (fun s x => hs s (List.mem_cons_of_mem _ x)) hg.2 (beh_ty (hs st List.mem_cons_self) hg.1 hq hb).1 h
/-- the steps with what the class keeps beside them -/
def StsC (fI : Nat → Nat → Int32) (fL : Nat → Nat → Int64) (p : Nat) : Nat → List mStep → List mCol → Prop
  | _, [], _ => True
  | k, st :: ss, l => ((fI 384 (p + 3 + k) = st.1 ∧ fI 385 (p + 3 + k) = st.2.1 ∧ fI 386 (p + 3 + k) = st.2.2.1 ∧ fL 387 (p + 3 + k) = st.2.2.2) ∧ fI 388 (p + 3 + k) = nI (mPlace l st.2.1) ∧ (st.1 ≠ 0 → fI 389 (p + 3 + k) = mTyAt l (mPlace l st.2.1))) ∧ StsC fI fL p (k + 1) ss (mStepS st l)
theorem MigC.sts {S : gS} {p : Nat} {mg : List mStep} {sc : List mCol} (h : MigC S p mg sc) : ∀ (ss pre : List mStep), mg = pre ++ ss → StsC (gfI S) (gfL S) p pre.length ss (mSchs sc pre) := by
  intro ss
  induction ss with
  | nil => intro pre _; trivial
  | cons st ss ih =>
    intro pre hpre
    have hget : mg[pre.length]? = some st := by rw [hpre]; exact get_mid
    have htk : mg.take pre.length = pre := by rw [hpre]; exact take_mid
    have h2 := h.2 _ st hget
    rw [htk] at h2
    refine ⟨⟨h.1.2 _ st hget, h2⟩, ?_⟩
    have := ih (pre ++ [st]) (by rw [hpre, mid_snoc])
    rw [mSchs_snoc, List.length_append, List.length_singleton] at this
    exact this
/-- the places that lastPlace keeps -/
def PlA (r : Nat → Int32) : Nat → List mStep → List mCol → Nat → Prop
  | _, [], _, _ => True
  | k, st :: ss, l, q => r k = nI q ∧ ∀ q2, mBeh st l q = some q2 → PlA r (k + 1) ss (mStepS st l) q2
theorem nI_m1 {k : Nat} (h : k < 2 ^ 31) : ¬ nI k = (-1 : Int32) := fun z => absurd (show (0 : Int32) ≤ -1 by rw [← z]; exact nI_le (a := 0) (by omega) h) (by decide)
theorem placeBehind_C {S : gS} {a q : Nat} {st : mStep} {l : List mCol} (ha : g_is S 6 a) (h0 : gfI S 384 a = st.1) (h8 : gfI S 388 a = nI (mPlace l st.2.1)) (hq : q < 8) (hp : mPlace l st.2.1 ≤ 8) : f_X6_placeBehind S a (nI q) = some (ixO (mBeh st l q), S) := by
  unfold f_X6_placeBehind mBeh
  simp only [g_getI, Nat.reduceMul, Nat.reduceAdd, g_ck_t ha, h0, h8]
  by_cases e : st.1 = 1
  · rw [if_pos e, if_pos e]
    by_cases c : q < mPlace l st.2.1
    · rw [if_neg (nI_ge c (by omega)), if_pos c]; rfl
    · rw [if_pos (nI_le (by omega) (by omega)), if_neg c]
      by_cases d : q = mPlace l st.2.1
      · rw [if_pos (by rw [d]), if_pos d]; rfl
      · rw [if_neg (fun z => d ((nI_eq (by omega) (by omega)).mp z)), if_neg d, show nI q - (1 : Int32) = nI (q - 1) from sub_nI (b := 1) (by omega)]; rfl
  · rw [if_neg e, if_neg e]; rfl
theorem last_loop {S : gS} {p n : Nat} {u1 : Int32} (hI : Imm S) (hp : isMig p) (hn : n ≤ 6) (hc : gfI S 193 p = nI n) : ∀ (ss : List mStep) (k fu q : Nat) (l : List mCol) (r : Nat → Int32), k + ss.length = n → ss.length + 1 < fu → StsC (gfI S) (gfL S) p k ss l → (∀ st ∈ ss, stOk st) → mgOk ss l → scOk l → q < l.length → ∃ r1, l_X3_lastPlace_4 p u1 fu (g_rI S (p + 2) r) (nI q) (nI k) = some (ixO (mEndP ss l q), g_rI S (p + 2) r1) ∧ (∀ j, j < k → r1 j = r j) ∧ (mEndP ss l q ≠ none → PlA r1 k ss l q) := by
  obtain ⟨m1, m2, m3, m4, m5, m6, m7, m8, m9⟩ := hI.mig hp
  intro ss
  induction ss with
  | nil =>
    intro k fu q l r hk hf hS hs hg ho hq
    obtain ⟨fu, rfl⟩ : ∃ m, fu = m + 1 := ⟨fu - 1, by omega⟩
    refine ⟨r, ?_, fun _ _ => rfl, fun _ => trivial⟩
    rw [l_X3_lastPlace_4]
    simp only [g_getI, Nat.reduceMul, Nat.reduceAdd, q_pI_fI, q_pI_fL, q_pI_fR, q_pI_aI, q_pI_aL, q_pI_aR, q_pI_K, q_pI_ln, q_pI_n, q_pI_sl, q_pI_is, q_pI_ck, q_pL_fI, q_pL_fL, q_pL_fR, q_pL_aI, q_pL_aL, q_pL_aR, q_pL_K, q_pL_ln, q_pL_n, q_pL_sl, q_pL_is, q_pL_ck, q_pR_fI, q_pR_fL, q_pR_fR, q_pR_aI, q_pR_aL, q_pR_aR, q_pR_K, q_pR_ln, q_pR_n, q_pR_sl, q_pR_is, q_pR_ck, q_rI_fI, q_rI_fL, q_rI_fR, q_rI_aI, q_rI_aL, q_rI_aR, q_rI_K, q_rI_ln, q_rI_n, q_rI_sl, q_rI_is, q_rI_ck, q_rL_fI, q_rL_fL, q_rL_fR, q_rL_aI, q_rL_aL, q_rL_aR, q_rL_K, q_rL_ln, q_rL_n, q_rL_sl, q_rL_is, q_rL_ck, q_rR_fI, q_rR_fL, q_rR_fR, q_rR_aI, q_rR_aL, q_rR_aR, q_rR_K, q_rR_ln, q_rR_n, q_rR_sl, q_rR_is, q_rR_ck, g_ck_t m1, hc]
    rw [List.length_nil] at hk
    rw [if_pos (nI_le (by omega) (by omega))]
    rfl
  | cons st ss ih =>
    intro k fu q l r hk hf hS hs hg ho hq
    rw [List.length_cons] at hk hf
    obtain ⟨fu, rfl⟩ : ∃ m, fu = m + 1 := ⟨fu - 1, by omega⟩
    obtain ⟨⟨⟨s0, s1, s2, s3⟩, s8, s9⟩, sN⟩ := hS
    have ho8 := ho.1
    have hpl := mPlace_le l st.2.1
    have hst := hs st List.mem_cons_self
    have pb := placeBehind_C (S := g_rI S (p + 2) (upd r k (nI q))) (q := q) (l := l) (m9 k (by omega)) s0 s8 (by omega) (by omega)
    rw [l_X3_lastPlace_4]
    simp only [g_getI, g_getR, g_stI, g_ldR, g_cVI, Nat.reduceMul, Nat.reduceAdd, q_pI_fI, q_pI_fL, q_pI_fR, q_pI_aI, q_pI_aL, q_pI_aR, q_pI_K, q_pI_ln, q_pI_n, q_pI_sl, q_pI_is, q_pI_ck, q_pL_fI, q_pL_fL, q_pL_fR, q_pL_aI, q_pL_aL, q_pL_aR, q_pL_K, q_pL_ln, q_pL_n, q_pL_sl, q_pL_is, q_pL_ck, q_pR_fI, q_pR_fL, q_pR_fR, q_pR_aI, q_pR_aL, q_pR_aR, q_pR_K, q_pR_ln, q_pR_n, q_pR_sl, q_pR_is, q_pR_ck, q_rI_fI, q_rI_fL, q_rI_fR, q_rI_aI, q_rI_aL, q_rI_aR, q_rI_K, q_rI_ln, q_rI_n, q_rI_sl, q_rI_is, q_rI_ck, q_rL_fI, q_rL_fL, q_rL_fR, q_rL_aI, q_rL_aL, q_rL_aR, q_rL_K, q_rL_ln, q_rL_n, q_rL_sl, q_rL_is, q_rL_ck, q_rR_fI, q_rR_fL, q_rR_fR, q_rR_aI, q_rR_aL, q_rR_aR, q_rR_K, q_rR_ln, q_rR_n, q_rR_sl, q_rR_is, q_rR_ck, Option.bind_some, g_ck_t m1, hc, m2, m3, g_ck_t m4, m5, g_ck_t m6, m7, g_row_s, g_rI_rI]
    rw [if_neg (nI_ge (by omega) (by omega)), if_neg (nI_m1 (by omega)), g_ix_t (by omega) (by decide), nI_clamp (by omega), g_ix_t (by omega) (by decide), m8 k (by omega), Option.bind_some, g_ck_t (m9 k (by omega)), pb, Option.bind_some, add1]
    dsimp only
    rw [mEndP_cons]
    cases hb : mBeh st l q with
    | none =>
      obtain ⟨fu, rfl⟩ : ∃ m, fu = m + 1 := ⟨fu - 1, by omega⟩
      refine ⟨upd r k (nI q), ?_, fun j hj => pk_un (by omega), fun z => absurd rfl z⟩
      rw [l_X3_lastPlace_4]
      simp only [g_getI, Nat.reduceMul, Nat.reduceAdd, q_pI_fI, q_pI_fL, q_pI_fR, q_pI_aI, q_pI_aL, q_pI_aR, q_pI_K, q_pI_ln, q_pI_n, q_pI_sl, q_pI_is, q_pI_ck, q_pL_fI, q_pL_fL, q_pL_fR, q_pL_aI, q_pL_aL, q_pL_aR, q_pL_K, q_pL_ln, q_pL_n, q_pL_sl, q_pL_is, q_pL_ck, q_pR_fI, q_pR_fL, q_pR_fR, q_pR_aI, q_pR_aL, q_pR_aR, q_pR_K, q_pR_ln, q_pR_n, q_pR_sl, q_pR_is, q_pR_ck, q_rI_fI, q_rI_fL, q_rI_fR, q_rI_aI, q_rI_aL, q_rI_aR, q_rI_K, q_rI_ln, q_rI_n, q_rI_sl, q_rI_is, q_rI_ck, q_rL_fI, q_rL_fL, q_rL_fR, q_rL_aI, q_rL_aL, q_rL_aR, q_rL_K, q_rL_ln, q_rL_n, q_rL_sl, q_rL_is, q_rL_ck, q_rR_fI, q_rR_fL, q_rR_fR, q_rR_aI, q_rR_aL, q_rR_aR, q_rR_K, q_rR_ln, q_rR_n, q_rR_sl, q_rR_is, q_rR_ck, g_ck_t m1, hc]
      rw [show ixO none = (-1 : Int32) from rfl]
      split
      · rfl
      · rw [if_pos rfl]
    | some q2 =>
      have hq2 := (beh_ty hst hg.1 hq hb).1
      obtain ⟨r1, a1, a2, a3⟩ := ih (k + 1) fu q2 (mStepS st l) (upd r k (nI q)) (by omega) (by omega) sN (fun s x => hs s (List.mem_cons_of_mem _ x)) hg.2 (ho.step hst hg.1) hq2
      refine ⟨r1, a1, fun j hj => (a2 j (by omega)).trans (pk_un (by omega)), fun z => ⟨(a2 k (by omega)).trans pk_us, fun q3 h3 => ?_⟩⟩
      rw [hb] at h3
      cases h3
      exact a3 z
abbrev TT (S : gS) (w p : Nat) (w0 : Nat → Int64) (r : Nat → Int32) : gS := g_rI (g_rL S w w0) (p + 2) r
theorem TT_rL {S : gS} {w p : Nat} {w0 w1 : Nat → Int64} {r : Nat → Int32} : g_rL (TT S w p w0 r) w w1 = TT S w p w1 r := by
  have : g_rL (TT S w p w0 r) w w1 = g_rI (g_rL (g_rL S w w0) w w1) (p + 2) r := rfl
  rw [this, g_rL_rL]
theorem back_loop {S : gS} {p f w i : Nat} {r : Nat → Int32} {vs : List mV} (hI : Imm S) (hp : isMig p) (hF : FormAt S f w) (hi : i < 8) : ∀ (ss : List mStep) (k fu q : Nat) (l : List mCol) (w0 : Nat → Int64), k + ss.length ≤ 6 → StsC (gfI S) (gfL S) p k ss l → (∀ st ∈ ss, stOk st) → mgOk ss l → scOk l → q < l.length → PlA r k ss l q → (∀ z, mEndP ss l q = some z → CVw (mTyAt (mSchs l ss) z) w0 i (vs.getD z (0, []))) → mEndP ss l q ≠ none → ∃ w1 v, l_X3_makeBack_7 p f (nI i) (fu + ss.length) (TT S w p w0 r) (nI (k + ss.length) + -1) = l_X3_makeBack_7 p f (nI i) fu (TT S w p w1 r) (nI k + -1) ∧ mBackV ss l q vs = some v ∧ CVw (mTyAt l q) w1 i v ∧ OnlyCol i w0 w1 := by
  obtain ⟨m1, m2, m3, m4, m5, m6, m7, m8, m9⟩ := hI.mig hp
  intro ss
  induction ss with
  | nil =>
    intro k fu q l w0 hk hS hs hg ho hq hP hv hne
    exact ⟨w0, _, rfl, rfl, hv q rfl, fun _ _ => rfl⟩
  | cons st ss ih =>
    intro k fu q l w0 hk hS hs hg ho hq hP hv hne
    rw [List.length_cons] at hk
    obtain ⟨⟨⟨s0, s1, s2, s3⟩, s8, s9⟩, sN⟩ := hS
    have ho8 := ho.1
    have hpl := mPlace_le l st.2.1
    have hst := hs st List.mem_cons_self
    rw [mEndP_cons] at hne
    cases hb : mBeh st l q with
    | none => rw [hb] at hne; exact absurd rfl hne
    | some q2 =>
      rw [hb] at hne
      obtain ⟨hq2, hty⟩ := beh_ty hst hg.1 hq hb
      obtain ⟨w1, v, a1, a2, a3, a4⟩ := ih (k + 1) (fu + 1) q2 (mStepS st l) w0 (by omega) sN (fun s x => hs s (List.mem_cons_of_mem _ x)) hg.2 (ho.step hst hg.1) hq2 (hP.2 q2 hb) (fun z hz => hv z (by rw [mEndP_cons, hb]; exact hz)) hne
      rw [hty] at a3
      have head : l_X3_makeBack_7 p f (nI i) (fu + (st :: ss).length) (TT S w p w0 r) (nI (k + (st :: ss).length) + -1) = l_X3_makeBack_7 p f (nI i) (fu + 1) (TT S w p w1 r) (nI k) := by
        rw [List.length_cons, show fu + (ss.length + 1) = fu + 1 + ss.length by omega, show k + (ss.length + 1) = k + 1 + ss.length by omega, a1, add_m1]
      have one : l_X3_makeBack_7 p f (nI i) (fu + 1) (TT S w p w1 r) (nI k) = if st.1 = 3 then (if nI (mPlace l st.2.1) = nI q then (g_cVV (TT S w p w1 r) 2 f (f_X2_become (TT S w p w1 r) f (nI i) st.2.2.1 (gfI S 389 (p + 3 + k))) fun S13 => l_X3_makeBack_7 p f (nI i) fu S13 (nI k + -1)) else l_X3_makeBack_7 p f (nI i) fu (TT S w p w1 r) (nI k + -1)) else l_X3_makeBack_7 p f (nI i) fu (TT S w p w1 r) (nI k + -1) := by
        rw [l_X3_makeBack_7]
        simp only [g_getI, g_getR, g_ldR, g_ldI, g_jn, Nat.reduceMul, Nat.reduceAdd, q_pI_fI, q_pI_fL, q_pI_fR, q_pI_aI, q_pI_aL, q_pI_aR, q_pI_K, q_pI_ln, q_pI_n, q_pI_sl, q_pI_is, q_pI_ck, q_pL_fI, q_pL_fL, q_pL_fR, q_pL_aI, q_pL_aL, q_pL_aR, q_pL_K, q_pL_ln, q_pL_n, q_pL_sl, q_pL_is, q_pL_ck, q_pR_fI, q_pR_fL, q_pR_fR, q_pR_aI, q_pR_aL, q_pR_aR, q_pR_K, q_pR_ln, q_pR_n, q_pR_sl, q_pR_is, q_pR_ck, q_rI_fI, q_rI_fL, q_rI_fR, q_rI_aI, q_rI_aL, q_rI_aR, q_rI_K, q_rI_ln, q_rI_n, q_rI_sl, q_rI_is, q_rI_ck, q_rL_fI, q_rL_fL, q_rL_fR, q_rL_aI, q_rL_aL, q_rL_aR, q_rL_K, q_rL_ln, q_rL_n, q_rL_sl, q_rL_is, q_rL_ck, q_rR_fI, q_rR_fL, q_rR_fR, q_rR_aI, q_rR_aL, q_rR_aR, q_rR_K, q_rR_ln, q_rR_n, q_rR_sl, q_rR_is, q_rR_ck, Option.bind_some, g_ck_t m1, m2, m3, g_ck_t m4, m5, g_ck_t m6, m7, g_row_s]
        rw [if_neg (show ¬ nI k < 0 from fun z => by
          rw [show (0 : Int32) = nI 0 from rfl, nI_ltI (by omega) (by omega)] at z
          omega), g_ix_t (by omega) (by decide), nI_clamp (by omega), m8 k (by omega), Option.bind_some, g_ck_t (m9 k (by omega)), g_ck_t (m9 k (by omega)), g_ix_t (by omega) (by decide), hP.1, s0, s8, g_ck_t (m9 k (by omega)), g_ck_t (m9 k (by omega)), s2]
      rw [head, one, mBackV_cons, hb]
      dsimp only
      rw [a2]
      by_cases e : st.1 = 3
      · rw [if_pos e]
        by_cases c : mPlace l st.2.1 = q
        · rw [if_pos (by rw [c])]
          rw [if_pos ⟨e, c⟩] at a3
          have x3 : CVw st.2.2.1 (gaL (TT S w p w1 r) w) i v := by
            show CVw st.2.2.1 (g_row (gaL S) w w1 w) i v
            rw [g_row_s]
            exact a3
          rw [s9 (by rw [e]; decide), c]
          obtain ⟨w2, b1, b2, b3⟩ := become_eq (S := TT S w p w1 r) (tt := mTyAt l q) hF hi x3 (ho.ty hq)
          unfold g_cVV
          rw [g_ck_t (show g_is (TT S w p w1 r) 2 f from hF.1), b1, Option.bind_some, TT_rL]
          refine ⟨w2, _, rfl, by rw [Option.map_some, if_pos ⟨e, rfl⟩], b3, fun j hj => (b2 j hj).trans ?_⟩
          show g_row (gaL S) w w1 w j = _
          rw [g_row_s]
          exact a4 j hj
        · rw [if_neg (fun z => c ((nI_eq (by omega) (by omega)).mp z))]
          rw [if_neg (fun z => c z.2)] at a3
          exact ⟨w1, v, rfl, by rw [Option.map_some, if_neg (fun z => c z.2)], a3, a4⟩
      · rw [if_neg e]
        rw [if_neg (fun z => e z.1)] at a3
        exact ⟨w1, v, rfl, by rw [Option.map_some, if_neg (fun z => e z.1)], a3, a4⟩
theorem sub_m1 (k : Nat) : nI k - (1 : Int32) = nI k + (-1 : Int32) := Int32.sub_eq_add_neg _ _
theorem down_loop {S : gS} {p f w g u : Nat} {mg : List mStep} {sc : List mCol} {vs old : List mV} (hI : Imm S) (hp : isMig p) (hF : FormAt S f w) (hG : FormAt S g u) (hwu : u ≠ w) (hm : plOk mg) (ho : scOk sc) (hg : mgOk mg sc) (hM : MigC S p mg sc) (hno : (mSchs sc mg).length ≤ 8) (hv : FormC (gaL S u) (tys (mSchs sc mg)) vs) : ∀ (d fu i : Nat) (w0 : Nat → Int64) (r : Nat → Int32), i + d = sc.length → d < fu → (∀ j c, j < i → sc[j]? = some c → CVw c.2 w0 j ((mBackV mg sc j vs).getD (old.getD j (0, [])))) → (∀ j c, i ≤ j → sc[j]? = some c → CVw c.2 w0 j (old.getD j (0, []))) → ∃ w1 r1, l_X3_makeDown_3 p g f (nI sc.length) fu (TT S w p w0 r) (nI i) = some (TT S w p w1 r1) ∧ ∀ j c, sc[j]? = some c → CVw c.2 w1 j ((mBackV mg sc j vs).getD (old.getD j (0, []))) := by
  obtain ⟨m1, m2, m3, m4, m5, m6, m7, m8, m9⟩ := hI.mig hp
  have ho8 := ho.1
  have hml := hm.1
  have sts : StsC (gfI S) (gfL S) p 0 mg sc := hM.sts mg [] rfl
  intro d
  induction d with
  | zero =>
    intro fu i w0 r hi hf hlo hhi
    obtain ⟨fu, rfl⟩ : ∃ m, fu = m + 1 := ⟨fu - 1, by omega⟩
    refine ⟨w0, r, ?_, fun j c hj => hlo j c (by have := lt_of_some hj; omega) hj⟩
    rw [l_X3_makeDown_3, if_pos (nI_le (by omega) (by omega))]
  | succ d ih =>
    intro fu i w0 r hi hf hlo hhi
    obtain ⟨fu, rfl⟩ : ∃ m, fu = m + 1 := ⟨fu - 1, by omega⟩
    have hil : i < sc.length := by omega
    have hc := List.getElem?_eq_getElem hil
    obtain ⟨r1, a1, -, a3⟩ := last_loop (S := g_rL S w w0) (u1 := nI i) (hI.of rfl rfl rfl rfl rfl) hp hml hM.1.1 mg 0 100 i sc r (by omega) (by omega) sts hm.2 hg ho hil
    have a1' : f_X3_lastPlace (TT S w p w0 r) p (nI i) = some (ixO (mEndP mg sc i), TT S w p w0 r1) := a1
    rw [l_X3_makeDown_3, if_neg (nI_ge hil (by omega))]
    simp only [g_cVI, g_jn, a1', Option.bind_some]
    rw [g_ck_t (show g_is (TT S w p w0 r) 3 p from m1)]
    cases hz : mEndP mg sc i with
    | none =>
      rw [show ixO none = (-1 : Int32) from rfl, if_pos rfl, add1]
      refine ih fu (i + 1) w0 r1 (by omega) (by omega) (fun j c hj hjc => ?_) (fun j c hj hjc => hhi j c (by omega) hjc)
      by_cases q : j = i
      · subst q
        rw [mBackV_none _ _ _ _ hz]
        exact hhi j c (by omega) hjc
      · exact hlo j c (by omega) hjc
    | some z =>
      have hzl := mEndP_lt mg sc i z hm.2 hg hil hz
      rw [show ixO (some z) = nI z from rfl, if_neg (nI_m1 (by omega))]
      unfold g_cVV
      rw [g_ck_t (show g_is (TT S w p w0 r1) 2 f from hF.1), copyValue_C (S := TT S w p w0 r1) (w := w) (u := u) hF hG (by omega) (by omega), Option.bind_some, TT_rL]
      rw [show gaL (TT S w p w0 r1) u = gaL S u from g_row_n hwu, show gaL (TT S w p w0 r1) w = w0 from g_row_s]
      have hx0 := getD_some (d := ((0 : Int64), ([] : List Nat))) (show z < vs.length by rw [hv.1, tys_len]; exact hzl)
      have hcv := hv.2 z _ _ (get_tys (List.getElem?_eq_getElem hzl)) hx0
      rw [← mTyAt_of (List.getElem?_eq_getElem hzl)] at hcv
      obtain ⟨w2, v, b1, b2, b3, b4⟩ := back_loop (S := S) (p := p) (f := f) (w := w) (i := i) (r := r1) (vs := vs) hI hp hF (by omega) mg 0 (99 - mg.length + 1) i sc (va_cpy (gaL S u) w0 (4 * z) (4 * i) 4) (by omega) sts hm.2 hg ho hil (a3 (by rw [hz]; exact fun q => by cases q)) (fun y hy => by
        rw [hz] at hy
        cases hy
        exact hcv.cp) (by rw [hz]; exact fun q => by cases q)
      have mk : f_X3_makeBack (TT S w p (va_cpy (gaL S u) w0 (4 * z) (4 * i) 4) r1) p f (nI i) = some (TT S w p w2 r1) := by
        unfold f_X3_makeBack
        simp only [g_getI, g_lt, Nat.reduceMul, Nat.reduceAdd, q_pI_fI, q_pI_fL, q_pI_fR, q_pI_aI, q_pI_aL, q_pI_aR, q_pI_K, q_pI_ln, q_pI_n, q_pI_sl, q_pI_is, q_pI_ck, q_pL_fI, q_pL_fL, q_pL_fR, q_pL_aI, q_pL_aL, q_pL_aR, q_pL_K, q_pL_ln, q_pL_n, q_pL_sl, q_pL_is, q_pL_ck, q_pR_fI, q_pR_fL, q_pR_fR, q_pR_aI, q_pR_aL, q_pR_aR, q_pR_K, q_pR_ln, q_pR_n, q_pR_sl, q_pR_is, q_pR_ck, q_rI_fI, q_rI_fL, q_rI_fR, q_rI_aI, q_rI_aL, q_rI_aR, q_rI_K, q_rI_ln, q_rI_n, q_rI_sl, q_rI_is, q_rI_ck, q_rL_fI, q_rL_fL, q_rL_fR, q_rL_aI, q_rL_aL, q_rL_aR, q_rL_K, q_rL_ln, q_rL_n, q_rL_sl, q_rL_is, q_rL_ck, q_rR_fI, q_rR_fL, q_rR_fR, q_rR_aI, q_rR_aL, q_rR_aR, q_rR_K, q_rR_ln, q_rR_n, q_rR_sl, q_rR_is, q_rR_ck, g_ck_t m1, hM.1.1]
        rw [sub_m1]
        rw [show 99 - mg.length + 1 + mg.length = 100 by omega, Nat.zero_add] at b1
        refine b1.trans ?_
        rw [l_X3_makeBack_7, if_pos (by decide)]
      rw [g_ck_t (show g_is (TT S w p (va_cpy (gaL S u) w0 (4 * z) (4 * i) 4) r1) 3 p from m1), mk, Option.bind_some, add1]
      have only : OnlyCol i w0 w2 := fun j hj => (b4 j hj).trans (OnlyCol.cp j hj)
      refine ih fu (i + 1) w2 r1 (by omega) (by omega) (fun j c hj hjc => ?_) (fun j c hj hjc => (hhi j c (by omega) hjc).only only (by omega))
      by_cases q : j = i
      · subst q
        rw [b2, ← mTyAt_of hjc]
        exact b3
      · exact (hlo j c (by omega) hjc).only only q
theorem makeDown_C {S : gS} {p f w g u : Nat} {mg : List mStep} {sc : List mCol} {vs old : List mV} (hI : Imm S) (hp : isMig p) (hF : FormAt S f w) (hG : FormAt S g u) (hwu : u ≠ w) (hm : plOk mg) (ho : scOk sc) (hg : mgOk mg sc) (hM : MigC S p mg sc) (hno : (mSchs sc mg).length ≤ 8) (hv : FormC (gaL S u) (tys (mSchs sc mg)) vs) (hold : FormC (gaL S w) (tys sc) old) : ∃ w1 r1, f_X3_makeDown S p g f (nI sc.length) = some (TT S w p w1 r1) ∧ FormC w1 (tys sc) (mDown mg sc vs old) := by
  have hol : old.length = sc.length := by rw [hold.1, tys_len]
  have ho8 := ho.1
  obtain ⟨w1, r1, a1, a2⟩ := down_loop (old := old) hI hp hF hG hwu hm ho hg hM hno hv sc.length 100 0 (gaL S w) (gaI S (p + 2)) (by omega) (by omega) (fun j c hj => by omega) (fun j c _ hjc => hold.2 j _ _ (get_tys hjc) (getD_some (by have := lt_of_some hjc; omega)))
  have id0 : TT S w p (gaL S w) (gaI S (p + 2)) = S := by
    show g_rI (g_rL S w (gaL S w)) (p + 2) (gaI S (p + 2)) = S
    rw [g_rL_id, g_rI_id]
  rw [id0] at a1
  refine ⟨w1, r1, a1, ?_, fun i t x ht hx => ?_⟩
  · unfold mDown; rw [List.length_map, List.length_range, tys_len]
  · obtain ⟨c, c1, c2⟩ := tys_get ht
    subst c2
    have hi := lt_of_some c1
    unfold mDown at hx
    rw [List.getElem?_map, List.getElem?_range hi] at hx
    cases hx
    exact a2 i c c1
