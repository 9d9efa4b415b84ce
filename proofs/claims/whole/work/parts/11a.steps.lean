/-! ===== schemas as lists ===== -/
theorem mPlace_at {l : List mCol} {nm : Int32} (h : mPlace l nm < l.length) : ∃ c, l[mPlace l nm]? = some c ∧ c.1 = nm := by
  refine ⟨l[mPlace l nm], List.getElem?_eq_getElem h, ?_⟩
  have h0 : l.findIdx (fun c => c.1 == nm) < l.length := h
  have := List.findIdx_getElem (w := h0)
  exact eq_of_beq this
theorem mPlace_no {l : List mCol} {nm : Int32} (h : ¬ mPlace l nm < l.length) : ∀ (i : Nat) (c : mCol), l[i]? = some c → c.1 ≠ nm := by
  intro i c hc q
  exact h (List.findIdx_lt_length.mpr ⟨c, List.mem_of_getElem? hc, by simpa using q⟩)
theorem mPlace_le (l : List mCol) (nm : Int32) : mPlace l nm ≤ l.length := List.findIdx_le_length
def Ndp (l : List mCol) : Prop := (l.map (fun c => c.1)).Nodup
theorem ndp_inj {l : List mCol} (h : Ndp l) {i j : Nat} {c d : mCol} (hi : l[i]? = some c) (hj : l[j]? = some d) (e : c.1 = d.1) : i = j := by
  unfold Ndp at h
  obtain ⟨hi2, ei⟩ := List.getElem?_eq_some_iff.mp hi
  obtain ⟨hj2, ej⟩ := List.getElem?_eq_some_iff.mp hj
  have hp := List.pairwise_iff_getElem.mp h
  rcases Nat.lt_trichotomy i j with z | z | z
  · have := hp i j (by simpa using hi2) (by simpa using hj2) z
    simp [ei, ej, e] at this
  · exact z
  · have := hp j i (by simpa using hj2) (by simpa using hi2) z
    simp [ei, ej, e] at this
theorem mPlace_uniq {l : List mCol} {nm : Int32} {i : Nat} {c : mCol} (hn : Ndp l) (h : l[i]? = some c) (hc : c.1 = nm) : mPlace l nm = i := by
  by_cases e : mPlace l nm < l.length
  · obtain ⟨d, d1, d2⟩ := mPlace_at e
    exact ndp_inj hn d1 h (d2.trans hc.symm)
  · exact absurd hc (mPlace_no e i c h)
/-- where a name stands, as both sides tell it -/
def plO (l : List mCol) (nm : Int32) : Int32 := if mPlace l nm < l.length then nI (mPlace l nm) else -1
theorem plO_has {l : List mCol} {nm : Int32} (h : mPlace l nm < l.length) : plO l nm = nI (mPlace l nm) := if_pos h
theorem plO_no {l : List mCol} {nm : Int32} (h : ¬ mPlace l nm < l.length) : plO l nm = -1 := if_neg h
theorem tys_len (l : List mCol) : (tys l).length = l.length := by unfold tys; rw [List.length_map]
theorem tys_get {l : List mCol} {i : Nat} {t : Int32} (h : (tys l)[i]? = some t) : ∃ c, l[i]? = some c ∧ c.2 = t := by
  unfold tys at h
  rw [List.getElem?_map] at h
  cases hc : l[i]? with
  | none => rw [hc] at h; cases h
  | some c => rw [hc] at h; cases h; exact ⟨c, rfl, rfl⟩
theorem get_tys {l : List mCol} {i : Nat} {c : mCol} (h : l[i]? = some c) : (tys l)[i]? = some c.2 := by
  unfold tys
  rw [List.getElem?_map, h]
  rfl
theorem mTyAt_of {l : List mCol} {i : Nat} {c : mCol} (h : l[i]? = some c) : mTyAt l i = c.2 := by
  unfold mTyAt
  rw [some_getD h]
theorem scOk.ty {l : List mCol} (h : scOk l) {i : Nat} (hi : i < l.length) : isTy (mTyAt l i) := by
  rw [mTyAt_of (List.getElem?_eq_getElem hi)]
  exact h.2.1 _ (List.getElem_mem hi)
/-! right steps -/
theorem right_add {st : mStep} {l : List mCol} (h : ¬ mWrong st l) (e : st.1 = 0) : ¬ mPlace l st.2.1 < l.length ∧ l.length < 8 := by
  unfold mWrong mHas at h
  rw [if_pos e] at h
  refine ⟨fun q => h (Or.inl q), ?_⟩
  rcases Nat.lt_or_ge l.length 8 with q | q
  · exact q
  · exact absurd (Or.inr q) h
theorem right_has {st : mStep} {l : List mCol} (h : ¬ mWrong st l) (e : ¬ st.1 = 0) : mPlace l st.2.1 < l.length := by
  unfold mWrong mHas at h
  rw [if_neg e] at h
  by_cases q : mPlace l st.2.1 < l.length
  · exact q
  · exact absurd (Or.inl q) h
theorem right_ren {st : mStep} {l : List mCol} (h : ¬ mWrong st l) (e : st.1 = 2) : ¬ mPlace l st.2.2.1 < l.length := by
  unfold mWrong mHas at h
  rw [if_neg (by rw [e]; decide)] at h
  exact fun q => h (Or.inr (Or.inl ⟨e, q⟩))
theorem stepS_add {st : mStep} {l : List mCol} (e : st.1 = 0) : mStepS st l = l ++ [(st.2.1, st.2.2.1)] := by unfold mStepS; rw [if_pos e]
theorem stepS_drop {st : mStep} {l : List mCol} (e : st.1 = 1) : mStepS st l = l.eraseIdx (mPlace l st.2.1) := by unfold mStepS; rw [if_neg (by rw [e]; decide), if_pos e]
theorem stepS_ren {st : mStep} {l : List mCol} (e : st.1 = 2) : mStepS st l = l.set (mPlace l st.2.1) (st.2.2.1, mTyAt l (mPlace l st.2.1)) := by unfold mStepS; rw [if_neg (by rw [e]; decide), if_neg (by rw [e]; decide), if_pos e]
theorem stepS_ret {st : mStep} {l : List mCol} (e : st.1 = 3) : mStepS st l = l.set (mPlace l st.2.1) (st.2.1, st.2.2.1) := by unfold mStepS; rw [if_neg (by rw [e]; decide), if_neg (by rw [e]; decide), if_neg (by rw [e]; decide)]
theorem ndp_of {l : List mCol} (h : ∀ (i j : Nat) (c d : mCol), i < j → l[i]? = some c → l[j]? = some d → c.1 ≠ d.1) : Ndp l := by
  unfold Ndp
  apply List.pairwise_iff_getElem.mpr
  intro i j hi hj hij
  have hi' : i < l.length := by simpa using hi
  have hj' : j < l.length := by simpa using hj
  have := h i j l[i] l[j] hij (List.getElem?_eq_getElem hi') (List.getElem?_eq_getElem hj')
  simpa using this
theorem scOk.step {st : mStep} {l : List mCol} (h : scOk l) (hs : stOk st) (hw : ¬ mWrong st l) : scOk (mStepS st l) := by
  obtain ⟨h1, h2, h3⟩ := h
  rcases hs.1 with e | e | e | e
  · obtain ⟨a, b⟩ := right_add hw e
    rw [stepS_add e]
    refine ⟨by rw [List.length_append, List.length_singleton]; omega, fun c hc => ?_, ?_⟩
    · rcases List.mem_append.mp hc with q | q
      · exact h2 c q
      · rw [List.mem_singleton.mp q]; exact hs.2 (Or.inl e)
    · apply ndp_of
      intro i j c d hij hc hd
      have hj := lt_of_some hd
      rw [List.length_append, List.length_singleton] at hj
      rw [List.getElem?_append_left (by omega)] at hc
      by_cases q : j < l.length
      · rw [List.getElem?_append_left q] at hd
        intro z
        have := ndp_inj h3 hc hd z
        omega
      · rw [List.getElem?_append_right (by omega), show j - l.length = 0 by omega] at hd
        cases hd
        exact mPlace_no a i c hc
  · rw [stepS_drop e]
    refine ⟨Nat.le_trans (List.length_eraseIdx_le _ _) h1, fun c hc => h2 c (List.mem_of_mem_eraseIdx hc), ?_⟩
    exact List.Nodup.sublist ((List.eraseIdx_sublist _ _).map _) h3
  · have a := right_has hw (by rw [e]; decide)
    have b := right_ren hw e
    rw [stepS_ren e]
    refine ⟨by rw [List.length_set]; exact h1, fun c hc => ?_, ?_⟩
    · rcases List.mem_or_eq_of_mem_set hc with q | q
      · exact h2 c q
      · rw [q]; exact scOk.ty ⟨h1, h2, h3⟩ a
    · apply ndp_of
      intro i j c d hij hc hd
      rw [List.getElem?_set] at hc hd
      by_cases q : mPlace l st.2.1 = i
      · rw [if_pos q, if_pos a] at hc
        cases hc
        rw [if_neg (by omega)] at hd
        exact fun z => mPlace_no b j d hd z.symm
      · rw [if_neg q] at hc
        by_cases q2 : mPlace l st.2.1 = j
        · rw [if_pos q2, if_pos a] at hd
          cases hd
          exact mPlace_no b i c hc
        · rw [if_neg q2] at hd
          intro z
          have := ndp_inj h3 hc hd z
          omega
  · have a := right_has hw (by rw [e]; decide)
    rw [stepS_ret e]
    refine ⟨by rw [List.length_set]; exact h1, fun c hc => ?_, ?_⟩
    · rcases List.mem_or_eq_of_mem_set hc with q | q
      · exact h2 c q
      · rw [q]; exact hs.2 (Or.inr e)
    · obtain ⟨x, x1, x2⟩ := mPlace_at a
      apply ndp_of
      intro i j c d hij hc hd
      rw [List.getElem?_set] at hc hd
      by_cases q : mPlace l st.2.1 = i
      · rw [if_pos q, if_pos a] at hc
        cases hc
        rw [if_neg (by omega)] at hd
        intro z
        have := ndp_inj h3 x1 hd (x2.trans z)
        omega
      · rw [if_neg q] at hc
        by_cases q2 : mPlace l st.2.1 = j
        · rw [if_pos q2, if_pos a] at hd
          cases hd
          intro z
          have := ndp_inj h3 hc x1 (z.trans x2.symm)
          omega
        · rw [if_neg q2] at hd
          intro z
          have := ndp_inj h3 hc hd z
          omega
/-! which step is the first wrong one -/
def mCanB (f t : Int32) : Bool := decide ((f = 0 ∧ (t = 1 ∨ t = 2 ∨ t = 3)) ∨ (f = 1 ∧ (t = 0 ∨ t = 2 ∨ t = 3)) ∨ (f = 2 ∧ (t = 0 ∨ t = 1 ∨ t = 3 ∨ t = 4)) ∨ (f = 3 ∧ (t = 0 ∨ t = 1 ∨ t = 2 ∨ t = 4)) ∨ (f = 4 ∧ (t = 2 ∨ t = 3)))
theorem mCanB_iff {f t : Int32} : mCanB f t = true ↔ mCan f t := by unfold mCanB mCan; exact decide_eq_true_iff
def mWrB (st : mStep) (l : List mCol) : Bool := if st.1 = 0 then decide (mPlace l st.2.1 < l.length ∨ 8 ≤ l.length) else decide (¬ mPlace l st.2.1 < l.length ∨ (st.1 = 2 ∧ mPlace l st.2.2.1 < l.length) ∨ (st.1 = 3 ∧ mCanB (mTyAt l (mPlace l st.2.1)) st.2.2.1 = false))
theorem mWrB_iff {st : mStep} {l : List mCol} : mWrB st l = true ↔ mWrong st l := by
  unfold mWrB mWrong mHas
  by_cases e : st.1 = 0
  · rw [if_pos e, if_pos e]; exact decide_eq_true_iff
  · rw [if_neg e, if_neg e, decide_eq_true_iff, ← mCanB_iff]
    simp
def mFw : List mStep → List mCol → Option Nat
  | [], _ => none
  | st :: ss, l => if mWrB st l = true then some 0 else (mFw ss (mStepS st l)).map (fun x => x + 1)
theorem mFw_none : ∀ (ss : List mStep) (l : List mCol), mFw ss l = none → mgOk ss l := by
  intro ss
  induction ss with
  | nil => intro l _; trivial
  | cons st ss ih =>
    intro l h
    unfold mFw at h
    by_cases e : mWrB st l = true
    · rw [if_pos e] at h; cases h
    · rw [if_neg e] at h
      refine ⟨fun q => e (mWrB_iff.mpr q), ih _ ?_⟩
      cases hq : mFw ss (mStepS st l) with
      | none => rfl
      | some k => rw [hq] at h; cases h
theorem mSchs_nil {l : List mCol} : mSchs l [] = l := rfl
theorem mSchs_cons {l : List mCol} {st : mStep} {ss : List mStep} : mSchs l (st :: ss) = mSchs (mStepS st l) ss := rfl
theorem mSchs_ok : ∀ (ss : List mStep) (l : List mCol), scOk l → (∀ st ∈ ss, stOk st) → mgOk ss l → scOk (mSchs l ss) := by
  intro ss
  induction ss with
  | nil => intro l h _ _; exact h
  | cons st ss ih =>
    intro l h hs hg
    exact ih _ (h.step (hs st List.mem_cons_self) hg.1) (fun s q => hs s (List.mem_cons_of_mem _ q)) hg.2
theorem mSchs_snoc {l : List mCol} {pre : List mStep} {st : mStep} : mSchs l (pre ++ [st]) = mStepS st (mSchs l pre) := by
  unfold mSchs
  rw [List.foldl_append]
  rfl
