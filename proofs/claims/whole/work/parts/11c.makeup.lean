/-! ===== the class: the plan tried out ===== -/
def MigF (S : gS) (p : Nat) (l : List mStep) (sc : List mCol) (n : Nat) : Prop := ∀ k st, k < n → l[k]? = some st → gfI S 388 (p + 3 + k) = nI (mPlace (mSchs sc (l.take k)) st.2.1) ∧ (st.1 ≠ 0 → gfI S 389 (p + 3 + k) = mTyAt (mSchs sc (l.take k)) (mPlace (mSchs sc (l.take k)) st.2.1))
theorem take_mid {α : Type} {pre ss : List α} : (pre ++ ss).take pre.length = pre := by simp
theorem fw_loop {p s u1 : Nat} {pl : List mStep} {sc : List mCol} (hp : isMig p) (hs : isSch s) (hl : pl.length ≤ 6) (hpl : ∀ st ∈ pl, stOk st) : ∀ (ss pre : List mStep) (fu : Nat) (S : gS), pl = pre ++ ss → ss.length < fu → Imm S → PlanC S p pl → scOk (mSchs sc pre) → SchC S s (mSchs sc pre) → MigF S p pl sc pre.length → ∃ S1, l_X3_firstWrongStep_7 p u1 s fu S (nI pre.length) = some (ixO ((mFw ss (mSchs sc pre)).map (fun x => x + pre.length)), S1) ∧ Imm S1 ∧ (∀ b, (b < s ∨ s + 3 ≤ b) → (b < p + 3 ∨ p + 9 ≤ b) → EqA S S1 b) ∧ PlanC S1 p pl ∧ (mFw ss (mSchs sc pre) = none → SchC S1 s (mSchs sc pl) ∧ MigF S1 p pl sc pl.length) := by
  have hne : p + 9 ≤ s ∨ s + 3 ≤ p := by unfold isMig at hp; unfold isSch at hs; omega
  intro ss
  induction ss with
  | nil =>
    intro pre fu S hpre hf hI hP hk hS hM
    obtain ⟨fu, rfl⟩ : ∃ m, fu = m + 1 := ⟨fu - 1, by omega⟩
    rw [List.append_nil] at hpre
    subst hpre
    obtain ⟨m1, m2, m3, m4, m5, m6, m7, m8, m9⟩ := hI.mig hp
    rw [l_X3_firstWrongStep_7]
    simp only [g_getI, g_getL, g_getR, g_putI, g_putZ, g_putL, g_putR, g_ldI, g_ldL, g_ldR, g_stI, g_stZ, g_stL, g_stR, g_alen, g_ldX, g_cVI, g_cVL, g_cVR, g_cVV, g_cI, g_cL, g_cN, g_lt, g_jn, g_cpI, g_cpL, g_z, Nat.reduceMul, Nat.reduceAdd, Option.bind_some, or_true, true_or, if_true, g_ck_t m1, hP.1]
    rw [if_pos (nI_le (by omega) (by omega))]
    exact ⟨S, rfl, hI, fun _ _ _ => EqA.refl, hP, fun _ => ⟨hS, hM⟩⟩
  | cons st ss ih =>
    intro pre fu S hpre hf hI hP hk hS hM
    obtain ⟨fu, rfl⟩ : ∃ m, fu = m + 1 := ⟨fu - 1, by omega⟩
    obtain ⟨m1, m2, m3, m4, m5, m6, m7, m8, m9⟩ := hI.mig hp
    have hlt : pre.length < pl.length := by rw [hpre]; simp
    have hget : pl[pre.length]? = some st := by rw [hpre]; exact get_mid
    have hok : stOk st := hpl st (List.mem_of_getElem? hget)
    have hstep : StepC S (p + 3 + pre.length) st := hP.2 _ st hget
    obtain ⟨S1, b1, b2, b3, b4⟩ := change_C hI hs (m9 pre.length (by omega)) (by omega) hS hk hstep hok
    rw [l_X3_firstWrongStep_7]
    simp only [g_getI, g_getL, g_getR, g_putI, g_putZ, g_putL, g_putR, g_ldI, g_ldL, g_ldR, g_stI, g_stZ, g_stL, g_stR, g_alen, g_ldX, g_cVI, g_cVL, g_cVR, g_cVV, g_cI, g_cL, g_cN, g_lt, g_jn, g_cpI, g_cpL, g_z, Nat.reduceMul, Nat.reduceAdd, Option.bind_some, or_true, true_or, if_true, g_ck_t m1, hP.1, m2, g_ck_t m4, m5]
    rw [if_neg (nI_ge hlt (by omega)), g_ix_t (by omega) (by decide), nI_clamp (by omega), m8 _ (by omega), Option.bind_some, g_ck_t (hI.sch hs).1, b1, Option.bind_some]
    have e1 : ∀ b, (b < s ∨ s + 3 ≤ b) → (b < p + 3 ∨ p + 9 ≤ b) → EqA S S1 b := fun b q1 q2 => b3.1 b q1 (by omega)
    have hP1 : PlanC S1 p pl := by
      refine ⟨by rw [(e1 p (by omega) (by omega)).1]; exact hP.1, fun j z hj => ?_⟩
      by_cases c : j = pre.length
      · subst c
        rw [b3.2.1 384 (by decide) (by decide), b3.2.1 385 (by decide) (by decide), b3.2.1 386 (by decide) (by decide), b3.2.2.1]
        exact hP.2 _ z hj
      · have hj2 := lt_of_some hj
        have := b3.1 (p + 3 + j) (by omega) (by omega)
        rw [this.1, this.1, this.1, this.2.1]
        exact hP.2 j z hj
    dsimp only
    by_cases hw : mWrB st (mSchs sc pre) = true
    · rw [if_pos hw, if_pos rfl]
      have : mFw (st :: ss) (mSchs sc pre) = some 0 := by unfold mFw; rw [if_pos hw]
      rw [this]
      exact ⟨S1, by simp [ixO], b2, e1, hP1, fun q => by cases q⟩
    · have hw2 : mWrB st (mSchs sc pre) = false := by simpa using hw
      rw [if_neg hw, if_neg (by decide), add1]
      obtain ⟨d1, d2, d3⟩ := b4 hw2
      have hnw : ¬ mWrong st (mSchs sc pre) := fun q => hw (mWrB_iff.mpr q)
      have hM1 : MigF S1 p pl sc (pre ++ [st]).length := by
        intro j z hj hjz
        rw [List.length_append, List.length_singleton] at hj
        by_cases c : j = pre.length
        · subst c
          rw [hget] at hjz
          cases hjz
          rw [hpre, take_mid]
          exact ⟨d2, d3⟩
        · have := b3.1 (p + 3 + j) (by omega) (by omega)
          rw [this.1, this.1]
          exact hM j z (by omega) hjz
      obtain ⟨S2, f1, f2, f3, f4, f5⟩ := ih (pre ++ [st]) fu S1 (by rw [hpre, mid_snoc]) (by simp at hf; omega) b2 hP1 (by rw [mSchs_snoc]; exact hk.step hok hnw) (by rw [mSchs_snoc]; exact d1) hM1
      rw [mSchs_snoc] at f1 f5
      rw [List.length_append, List.length_singleton] at f1
      have hfw : mFw (st :: ss) (mSchs sc pre) = (mFw ss (mStepS st (mSchs sc pre))).map (fun x => x + 1) := by
        show (if mWrB st (mSchs sc pre) = true then _ else _) = _
        rw [if_neg hw]
      refine ⟨S2, ?_, f2, fun b q1 q2 => (e1 b q1 q2).trans (f3 b q1 q2), f4, fun q => ?_⟩
      · rw [f1, hfw, Option.map_map]
        congr 2
        congr 1
        cases mFw ss (mStepS st (mSchs sc pre)) with
        | none => rfl
        | some x => simp [Function.comp]; omega
      · refine f5 ?_
        rw [hfw] at q
        cases hq : mFw ss (mStepS st (mSchs sc pre)) with
        | none => rfl
        | some x => rw [hq] at q; cases q
theorem firstWrong_C {S : gS} {p s sA : Nat} {pl : List mStep} {sc : List mCol} (hI : Imm S) (hp : isMig p) (hs : isSch s) (hsA : isSch sA) (hne : s ≠ sA) (hpl : plOk pl) (hP : PlanC S p pl) (hk : scOk sc) (hS : SchC S sA sc) : ∃ S1, f_X3_firstWrongStep S p sA s = some (ixO (mFw pl sc), S1) ∧ Imm S1 ∧ (∀ b, (b < s ∨ s + 3 ≤ b) → (b < p + 3 ∨ p + 9 ≤ b) → EqA S S1 b) ∧ PlanC S1 p pl ∧ (mFw pl sc = none → SchC S1 s (mSchs sc pl) ∧ MigC S1 p pl sc) := by
  unfold f_X3_firstWrongStep g_cVV
  obtain ⟨S0, a1, a2, a3, a4⟩ := copySch_C hI (hI.sch hs) (hI.sch hsA) (by unfold isSch at hs hsA; omega) hS hk.1
  rw [g_ck_t (hI.sch hs).1, a1, Option.bind_some]
  have hP0 : PlanC S0 p pl := hP.fr hpl.1 fun a q1 q2 => a3 a (by unfold isMig at hp; unfold isSch at hs; omega)
  obtain ⟨S1, b1, b2, b3, b4, b5⟩ := fw_loop (u1 := sA) hp hs hpl.1 hpl.2 pl [] 100 S0 rfl (by have := hpl.1; omega) a2 hP0 hk a4 (fun k st q => by cases q)
  refine ⟨S1, ?_, b2, fun b q1 q2 => (a3 b q1).trans (b3 b q1 q2), b4, fun q => ?_⟩
  · refine Eq.trans b1 ?_
    congr 2
    rw [mSchs_nil]
    cases mFw pl sc <;> rfl
  · obtain ⟨c1, c2⟩ := b5 q
    exact ⟨c1, b4, fun k st hk => c2 k st (lt_of_some hk) hk⟩
/-! ===== the class: a row is brought up ===== -/
theorem takeOutV_C {S : gS} {f w i : Nat} (h : FormAt S f w) (hi : i < 8) : f_X2_takeValueOut S f (nI i) = some (g_rL S w (va_cpy (gaL S w) (gaL S w) (4 * (i + 1)) (4 * i) (32 - 4 * (i + 1)))) := by
  obtain ⟨a1, a2, a3, a4⟩ := h
  unfold f_X2_takeValueOut
  simp only [g_getI, g_getL, g_getR, g_putI, g_putZ, g_putL, g_putR, g_ldI, g_ldL, g_ldR, g_stI, g_stZ, g_stL, g_stR, g_alen, g_ldX, g_cVI, g_cVL, g_cVR, g_cVV, g_cI, g_cL, g_cN, g_lt, g_jn, g_cpI, g_cpL, g_z, Nat.reduceMul, Nat.reduceAdd, Option.bind_some, or_true, true_or, if_true, g_ck_t a1, a2, g_ck_t a3, a4, add1, mul4]
  rw [show Int32.ofNat 32 = nI 32 from rfl, sub_nI (by omega), g_rg_t (by omega) (by omega) (by omega) (by omega), nI_clamp (by omega), nI_clamp (by omega), nI_clamp (by omega)]
theorem changeForm_C {S : gS} {a f w : Nat} {l : List mCol} {st : mStep} {vs : List mV} (hF : FormAt S f w) (ha : g_is S 6 a) (hst : StepC S a st) (h8 : gfI S 388 a = nI (mPlace l st.2.1)) (h9 : st.1 ≠ 0 → gfI S 389 a = mTyAt l (mPlace l st.2.1)) (hl : scOk l) (hok : stOk st) (hw : ¬ mWrong st l) (hv : FormC (gaL S w) (tys l) vs) : ∃ w1, f_X6_changeForm S a f = some (g_rL S w w1) ∧ FormC w1 (tys (mStepS st l)) (mUp1 st l vs) := by
  obtain ⟨t1, t2, t3, t4⟩ := hst
  have hl8 := hl.1
  have hvl : vs.length = l.length := by rw [hv.1, tys_len]
  unfold f_X6_changeForm mUp1
  simp only [g_getI, g_getL, g_getR, g_putI, g_putZ, g_putL, g_putR, g_ldI, g_ldL, g_ldR, g_stI, g_stZ, g_stL, g_stR, g_alen, g_ldX, g_cVI, g_cVL, g_cVR, g_cVV, g_cI, g_cL, g_cN, g_lt, g_jn, g_cpI, g_cpL, g_z, Nat.reduceMul, Nat.reduceAdd, Option.bind_some, or_true, true_or, if_true, g_ck_t ha, t1, h8, t3, t4, g_ck_t hF.1]
  rcases hok.1 with e | e | e | e
  · obtain ⟨p1, p2⟩ := right_add hw e
    have hpl : mPlace l st.2.1 = l.length := by have := mPlace_le l st.2.1; omega
    rw [if_pos e, if_pos e, hpl]
    obtain ⟨w1, b1, b2, b3⟩ := setTold_eq (v := st.2.2.2) hF p2 (hok.2 (Or.inl e))
    rw [b1, Option.bind_some]
    refine ⟨w1, rfl, ?_, fun i t x ht hx => ?_⟩
    · rw [tys_len, stepS_add e]; simp [hvl]
    · rw [stepS_add e] at ht
      obtain ⟨c, c1, c2⟩ := tys_get ht
      have hi := lt_of_some c1
      rw [List.length_append, List.length_singleton] at hi
      by_cases q : i < l.length
      · rw [List.getElem?_append_left q] at c1
        rw [List.getElem?_append_left (by omega)] at hx
        subst c2
        exact (hv.2 i _ x (get_tys c1) hx).eq fun j q1 q2 => b2 j (by omega)
      · have : i = l.length := by omega
        subst this
        rw [List.getElem?_append_right (by omega), Nat.sub_self] at c1
        rw [List.getElem?_append_right (by omega), hvl, Nat.sub_self] at hx
        cases c1
        cases hx
        subst c2
        exact b3
  · have hp := right_has hw (by rw [e]; decide)
    rw [if_neg (show ¬ st.1 = 0 by rw [e]; decide), if_pos e, if_neg (show ¬ st.1 = 0 by rw [e]; decide), if_pos e, takeOutV_C hF (by omega), Option.bind_some]
    refine ⟨_, rfl, ?_, fun i t x ht hx => ?_⟩
    · rw [tys_len, stepS_drop e, List.length_eraseIdx_of_lt hp, List.length_eraseIdx_of_lt (by omega), hvl]
    · rw [stepS_drop e] at ht
      obtain ⟨c, c1, c2⟩ := tys_get ht
      have hi := lt_of_some c1
      rw [List.length_eraseIdx_of_lt hp] at hi
      rw [List.getElem?_eraseIdx] at c1 hx
      subst c2
      by_cases q : i < mPlace l st.2.1
      · rw [if_pos q] at c1 hx
        exact (hv.2 i _ x (get_tys c1) hx).eq fun j q1 q2 => pk_cpy_out (by omega)
      · rw [if_neg q] at c1 hx
        refine (hv.2 (i + 1) _ x (get_tys c1) hx).at fun j hj => ?_
        rw [pk_cpy_in (by omega) (by omega)]
        congr 1
        omega
  · rw [if_neg (show ¬ st.1 = 0 by rw [e]; decide), if_neg (show ¬ st.1 = 1 by rw [e]; decide), if_pos e, if_neg (show ¬ st.1 = 0 by rw [e]; decide), if_neg (show ¬ st.1 = 1 by rw [e]; decide), if_neg (show ¬ st.1 = 3 by rw [e]; decide)]
    have hp := right_has hw (by rw [e]; decide)
    refine ⟨gaL S w, by rw [g_rL_id], ?_, fun i t x ht hx => ?_⟩
    · rw [tys_len, stepS_ren e, List.length_set, hvl]
    · rw [stepS_ren e] at ht
      obtain ⟨c, c1, c2⟩ := tys_get ht
      rw [List.getElem?_set] at c1
      subst c2
      by_cases q : mPlace l st.2.1 = i
      · rw [if_pos q, if_pos hp] at c1
        cases c1
        subst q
        exact hv.2 _ _ x (by rw [get_tys (List.getElem?_eq_getElem hp), mTyAt_of (List.getElem?_eq_getElem hp)]) hx
      · rw [if_neg q] at c1
        exact hv.2 i _ x (get_tys c1) hx
  · have hp := right_has hw (by rw [e]; decide)
    rw [if_neg (show ¬ st.1 = 0 by rw [e]; decide), if_neg (show ¬ st.1 = 1 by rw [e]; decide), if_neg (show ¬ st.1 = 2 by rw [e]; decide), if_pos e, if_neg (show ¬ st.1 = 0 by rw [e]; decide), if_neg (show ¬ st.1 = 1 by rw [e]; decide), if_pos e, h9 (by rw [e]; decide)]
    have hx0 := getD_some (d := ((0 : Int64), ([] : List Nat))) (show mPlace l st.2.1 < vs.length by omega)
    have hc0 := hv.2 _ _ _ (get_tys (List.getElem?_eq_getElem hp)) hx0
    rw [← mTyAt_of (List.getElem?_eq_getElem hp)] at hc0
    obtain ⟨w1, b1, b2, b3⟩ := become_eq (tt := st.2.2.1) hF (by omega) hc0 (hok.2 (Or.inr e))
    rw [b1, Option.bind_some]
    refine ⟨w1, rfl, ?_, fun i t x ht hx => ?_⟩
    · rw [tys_len, stepS_ret e, List.length_set, List.length_set, hvl]
    · rw [stepS_ret e] at ht
      obtain ⟨c, c1, c2⟩ := tys_get ht
      rw [List.getElem?_set] at c1 hx
      subst c2
      by_cases q : mPlace l st.2.1 = i
      · rw [if_pos q, if_pos hp] at c1
        rw [if_pos q, if_pos (by omega)] at hx
        cases c1
        cases hx
        subst q
        exact b3
      · rw [if_neg q] at c1 hx
        exact (hv.2 i _ x (get_tys c1) hx).eq fun j q1 q2 => b2 j (by omega)
theorem makeUp_loop {p f w u1 : Nat} {mg : List mStep} {sc : List mCol} (hp : isMig p) (hw : w < p ∨ p + 9 ≤ w) (hl : mg.length ≤ 6) (hmg : ∀ st ∈ mg, stOk st) : ∀ (ss pre : List mStep) (fu : Nat) (S : gS) (vs : List mV), mg = pre ++ ss → ss.length < fu → Imm S → FormAt S f w → MigC S p mg sc → scOk (mSchs sc pre) → mgOk ss (mSchs sc pre) → FormC (gaL S w) (tys (mSchs sc pre)) vs → ∃ w1, l_X3_makeUp_7 p u1 f fu S (nI pre.length) = some (g_rL S w w1) ∧ FormC w1 (tys (mSchs sc mg)) (mUp ss (mSchs sc pre) vs) := by
  intro ss
  induction ss with
  | nil =>
    intro pre fu S vs hpre hf hI hF hM hk hg hv
    obtain ⟨fu, rfl⟩ : ∃ m, fu = m + 1 := ⟨fu - 1, by omega⟩
    rw [List.append_nil] at hpre
    subst hpre
    obtain ⟨m1, m2, m3, m4, m5, m6, m7, m8, m9⟩ := hI.mig hp
    rw [l_X3_makeUp_7]
    simp only [g_getI, g_getL, g_getR, g_putI, g_putZ, g_putL, g_putR, g_ldI, g_ldL, g_ldR, g_stI, g_stZ, g_stL, g_stR, g_alen, g_ldX, g_cVI, g_cVL, g_cVR, g_cVV, g_cI, g_cL, g_cN, g_lt, g_jn, g_cpI, g_cpL, g_z, Nat.reduceMul, Nat.reduceAdd, Option.bind_some, or_true, true_or, if_true, g_ck_t m1, hM.1.1]
    rw [if_pos (nI_le (by omega) (by omega))]
    exact ⟨gaL S w, by rw [g_rL_id], hv⟩
  | cons st ss ih =>
    intro pre fu S vs hpre hf hI hF hM hk hg hv
    obtain ⟨fu, rfl⟩ : ∃ m, fu = m + 1 := ⟨fu - 1, by omega⟩
    obtain ⟨m1, m2, m3, m4, m5, m6, m7, m8, m9⟩ := hI.mig hp
    have hlt : pre.length < mg.length := by rw [hpre]; simp
    have hget : mg[pre.length]? = some st := by rw [hpre]; exact get_mid
    have hok : stOk st := hmg st (List.mem_of_getElem? hget)
    obtain ⟨x8, x9⟩ := hM.2 _ st hget
    have htk : mg.take pre.length = pre := by rw [hpre]; exact take_mid
    rw [htk] at x8 x9
    obtain ⟨w1, b1, b2⟩ := changeForm_C hF (m9 pre.length (by omega)) (hM.1.2 _ st hget) x8 x9 hk hok hg.1 hv
    rw [l_X3_makeUp_7]
    simp only [g_getI, g_getL, g_getR, g_putI, g_putZ, g_putL, g_putR, g_ldI, g_ldL, g_ldR, g_stI, g_stZ, g_stL, g_stR, g_alen, g_ldX, g_cVI, g_cVL, g_cVR, g_cVV, g_cI, g_cL, g_cN, g_lt, g_jn, g_cpI, g_cpL, g_z, Nat.reduceMul, Nat.reduceAdd, Option.bind_some, or_true, true_or, if_true, g_ck_t m1, hM.1.1, m2, g_ck_t m4, m5]
    rw [if_neg (nI_ge hlt (by omega)), g_ix_t (by omega) (by decide), nI_clamp (by omega), m8 _ (by omega), Option.bind_some, g_ck_t (m9 pre.length (by omega)), b1, Option.bind_some, add1]
    have e : Fr w (w + 1) S (g_rL S w w1) := Fr.rL (by omega) (by omega)
    obtain ⟨w2, d1, d2⟩ := ih (pre ++ [st]) fu (g_rL S w w1) (mUp1 st (mSchs sc pre) vs) (by rw [hpre, mid_snoc]) (by simp at hf; omega) (hI.of rfl rfl rfl rfl rfl) hF (hM.fr hl fun a q1 q2 => e a (by omega)) (by rw [mSchs_snoc]; exact hk.step hok hg.1) (by rw [mSchs_snoc]; exact hg.2) (by rw [mSchs_snoc, q_rL_aL, g_row_s]; exact b2)
    refine ⟨w2, ?_, ?_⟩
    · rw [List.length_append, List.length_singleton, g_rL_rL] at d1
      exact d1
    · rw [mSchs_snoc] at d2
      exact d2
theorem makeUp_C {S : gS} {p f g : Nat} {mg : List mStep} {sc : List mCol} {vs : List mV} (hI : Imm S) (hp : isMig p) (hf : f + 1 < p ∨ p + 9 ≤ f + 1) (hF : FormAt S f (f + 1)) (hG : FormAt S g (g + 1)) (hl : plOk mg) (hM : MigC S p mg sc) (hk : scOk sc) (hg : mgOk mg sc) (hv : FormC (gaL S (g + 1)) (tys sc) vs) : ∃ w1, f_X3_makeUp S p g f = some (g_rL S (f + 1) w1) ∧ FormC w1 (tys (mSchs sc mg)) (mUp mg sc vs) := by
  unfold f_X3_makeUp g_cVV
  rw [g_ck_t hF.1, copyFrom_C hF hG, Option.bind_some]
  generalize hu : va_cpy (gaL S (g + 1)) (gaL S (f + 1)) 0 0 32 = u
  have hv1 : FormC u (tys sc) vs := by rw [← hu]; exact hv.cpy (by rw [tys_len]; exact hk.1)
  have e : Fr (f + 1) (f + 2) S (g_rL S (f + 1) u) := Fr.rL (by omega) (by omega)
  obtain ⟨w1, b1, b2⟩ := makeUp_loop (u1 := g) hp hf hl.1 hl.2 mg [] 100 (g_rL S (f + 1) u) vs rfl (by have := hl.1; omega) (hI.of rfl rfl rfl rfl rfl) hF (hM.fr hl.1 fun a q1 q2 => e a (by omega)) hk hg (by rw [q_rL_aL, g_row_s]; exact hv1)
  refine ⟨w1, ?_, b2⟩
  rw [g_rL_rL] at b1
  exact b1
