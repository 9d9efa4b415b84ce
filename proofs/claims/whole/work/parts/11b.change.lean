/-! ===== the class: a schema changed by a step ===== -/
theorem placeOf_C {S : gS} {s : Nat} {l : List mCol} {nm : Int32} (ha : SchAt S s) (h : SchC S s l) (hl : l.length ≤ 8) (hn : Ndp l) : f_X5_placeOf S s nm = some (plO l nm, S) := by
  obtain ⟨a1, a2, a3, a4, a5, a6, a7⟩ := ha
  have loop : ∀ (t : List mCol) (fu i : Nat), l.drop i = t → i ≤ l.length → t.length < fu → (∀ (j : Nat) (c : mCol), j < i → l[j]? = some c → c.1 ≠ nm) → l_X5_placeOf_2 s nm fu S (nI i) = some (plO l nm, S) := by
    intro t
    induction t with
    | nil =>
      intro fu i hd hi hf hne
      obtain ⟨fu, rfl⟩ : ∃ m, fu = m + 1 := ⟨fu - 1, by omega⟩
      have := drop_nil hd
      rw [l_X5_placeOf_2]
      simp only [g_getI, g_getL, g_getR, g_putI, g_putZ, g_putL, g_putR, g_ldI, g_ldL, g_ldR, g_stI, g_stZ, g_stL, g_stR, g_alen, g_ldX, g_cVI, g_cVL, g_cVR, g_cVV, g_cI, g_cL, g_cN, g_lt, g_jn, g_cpI, g_cpL, g_z, Nat.reduceMul, Nat.reduceAdd, Option.bind_some, or_true, true_or, if_true, g_ck_t a1, h.1]
      rw [if_pos (nI_le this (by omega)), plO_no]
      intro q
      obtain ⟨c, c1, c2⟩ := mPlace_at q
      exact hne _ c (by omega) c1 c2
    | cons c t ih =>
      intro fu i hd hi hf hne
      obtain ⟨fu, rfl⟩ : ∃ m, fu = m + 1 := ⟨fu - 1, by omega⟩
      obtain ⟨d1, d2, d3⟩ := drop_cons hd
      rw [l_X5_placeOf_2]
      simp only [g_getI, g_getL, g_getR, g_putI, g_putZ, g_putL, g_putR, g_ldI, g_ldL, g_ldR, g_stI, g_stZ, g_stL, g_stR, g_alen, g_ldX, g_cVI, g_cVL, g_cVR, g_cVV, g_cI, g_cL, g_cN, g_lt, g_jn, g_cpI, g_cpL, g_z, Nat.reduceMul, Nat.reduceAdd, Option.bind_some, or_true, true_or, if_true, g_ck_t a1, h.1, a2, g_ck_t a4, a5]
      rw [if_neg (nI_ge d1 (by omega)), g_ix_t (by omega) (by decide), nI_clamp (by omega), (h.2 i c d2).1]
      by_cases e : c.1 = nm
      · have := mPlace_uniq hn d2 e
        rw [if_pos e, plO_has (by omega), this]
      · rw [if_neg e, add1]
        refine ih fu (i + 1) d3 (by omega) (by simp at hf; omega) (fun j q hj hq => ?_)
        by_cases z : j = i
        · subst z
          rw [d2] at hq
          cases hq
          exact e
        · exact hne j q (by omega) hq
  exact loop l 100 0 rfl (by omega) (by omega) (fun j c hj => by omega)
theorem cb_bit {f t : Int32} (hf : isTy f) (ht : isTy t) : (((g_cb f.toNatClampNeg) >>> (t &&& 31)) &&& (1 : Int32)) = 0 ↔ mCanB f t = false := by
  rcases hf with rfl | rfl | rfl | rfl | rfl <;> rcases ht with rfl | rfl | rfl | rfl | rfl <;> decide
theorem cb_ix {α : Type} {f : Int32} {o : Option α} (hf : isTy f) : g_ix 5 f o = o := by
  rcases hf with rfl | rfl | rfl | rfl | rfl <;> rfl
/-- what a step tells of itself -/
def StepC (S : gS) (a : Nat) (st : mStep) : Prop := gfI S 384 a = st.1 ∧ gfI S 385 a = st.2.1 ∧ gfI S 386 a = st.2.2.1 ∧ gfL S 387 a = st.2.2.2
def ChEq (s a : Nat) (S S1 : gS) : Prop := (∀ b, (b < s ∨ s + 3 ≤ b) → b ≠ a → EqA S S1 b) ∧ (∀ f, f ≠ 388 → f ≠ 389 → gfI S1 f a = gfI S f a) ∧ (∀ f, gfL S1 f a = gfL S f a) ∧ (∀ f, gfR S1 f a = gfR S f a) ∧ gaI S1 a = gaI S a ∧ gaL S1 a = gaL S a ∧ gaR S1 a = gaR S a
theorem ChEq.refl {s a : Nat} {S : gS} : ChEq s a S S := ⟨fun _ _ _ => EqA.refl, fun _ _ _ => rfl, fun _ => rfl, fun _ => rfl, rfl, rfl, rfl⟩
theorem ChEq.trans {s a : Nat} {S S1 S2 : gS} (h : ChEq s a S S1) (g : ChEq s a S1 S2) : ChEq s a S S2 := by
  obtain ⟨h1, h2, h3, h4, h5, h6, h7⟩ := h
  obtain ⟨g1, g2, g3, g4, g5, g6, g7⟩ := g
  exact ⟨fun b p q => (h1 b p q).trans (g1 b p q), fun f p q => (g2 f p q).trans (h2 f p q), fun f => (g3 f).trans (h3 f), fun f => (g4 f).trans (h4 f), g5.trans h5, g6.trans h6, g7.trans h7⟩
theorem ChEq.pS {s a f : Nat} {S : gS} {v : Int32} (hf : f = 388 ∨ f = 389) : ChEq s a S (g_pI S f a v) := by
  refine ⟨fun b _ q => EqA.pI q, fun g p q => ?_, fun _ => rfl, fun _ => rfl, rfl, rfl, rfl⟩
  rw [q_pI_fI, g_up_f (by omega)]
theorem ChEq.fr {s a : Nat} {S S1 : gS} (h : Fr s (s + 3) S S1) (ha : a < s ∨ s + 3 ≤ a) : ChEq s a S S1 := by
  have := h a ha
  exact ⟨fun b p _ => h b p, fun f _ _ => this.1 f, this.2.1, this.2.2.1, this.2.2.2.1, this.2.2.2.2.1, this.2.2.2.2.2⟩
theorem change_C {S : gS} {s a : Nat} {l : List mCol} {st : mStep} (hI : Imm S) (hs : isSch s) (ha : g_is S 6 a) (has : a < s ∨ s + 3 ≤ a) (h : SchC S s l) (hl : scOk l) (hst : StepC S a st) (hok : stOk st) : ∃ S1, f_X5_change S s a = some (if mWrB st l = true then 0 else 1, S1) ∧ Imm S1 ∧ ChEq s a S S1 ∧ (mWrB st l = false → SchC S1 s (mStepS st l) ∧ gfI S1 388 a = nI (mPlace l st.2.1) ∧ (st.1 ≠ 0 → gfI S1 389 a = mTyAt l (mPlace l st.2.1))) := by
  have aS := hI.sch hs
  have aS0 := aS
  obtain ⟨a1, a2, a3, a4, a5, a6, a7⟩ := aS
  obtain ⟨t1, t2, t3, t4⟩ := hst
  have hl8 := hl.1
  have hln := h.1
  unfold f_X5_change
  simp only [g_getI, g_cVI, Nat.reduceMul, Nat.reduceAdd, g_ck_t ha, g_ck_t a1, t2, placeOf_C aS0 h hl.1 hl.2.2, Option.bind_some, t1]
  by_cases e0 : st.1 = 0
  · rw [if_pos e0]
    simp only [g_jn]
    by_cases hp : mPlace l st.2.1 < l.length
    · rw [plO_has hp, if_pos (show (0 : Int32) ≤ nI (mPlace l st.2.1) from nI_le (a := 0) (by omega) (by omega))]
      have hw : mWrB st l = true := mWrB_iff.mpr (by unfold mWrong mHas; rw [if_pos e0]; exact Or.inl hp)
      rw [hw]
      exact ⟨S, rfl, hI, ChEq.refl, fun q => by cases q⟩
    · rw [plO_no hp, if_neg (show ¬ (0 : Int32) ≤ -1 by decide)]
      unfold f_X5_addColumn
      simp only [g_getI, g_getL, g_getR, g_putI, g_putZ, g_putL, g_putR, g_ldI, g_ldL, g_ldR, g_stI, g_stZ, g_stL, g_stR, g_alen, g_ldX, g_cVI, g_cVL, g_cVR, g_cVV, g_cI, g_cL, g_cN, g_lt, g_jn, g_cpI, g_cpL, g_z, Nat.reduceMul, Nat.reduceAdd, Option.bind_some, or_true, true_or, if_true, q_pI_fI, q_pI_fL, q_pI_fR, q_pI_aI, q_pI_aL, q_pI_aR, q_pI_K, q_pI_ln, q_pI_n, q_pI_sl, q_pI_is, q_pI_ck, q_pL_fI, q_pL_fL, q_pL_fR, q_pL_aI, q_pL_aL, q_pL_aR, q_pL_K, q_pL_ln, q_pL_n, q_pL_sl, q_pL_is, q_pL_ck, q_pR_fI, q_pR_fL, q_pR_fR, q_pR_aI, q_pR_aL, q_pR_aR, q_pR_K, q_pR_ln, q_pR_n, q_pR_sl, q_pR_is, q_pR_ck, q_rI_fI, q_rI_fL, q_rI_fR, q_rI_aI, q_rI_aL, q_rI_aR, q_rI_K, q_rI_ln, q_rI_n, q_rI_sl, q_rI_is, q_rI_ck, q_rL_fI, q_rL_fL, q_rL_fR, q_rL_aI, q_rL_aL, q_rL_aR, q_rL_K, q_rL_ln, q_rL_n, q_rL_sl, q_rL_is, q_rL_ck, q_rR_fI, q_rR_fL, q_rR_fR, q_rR_aI, q_rR_aL, q_rR_aR, q_rR_K, q_rR_ln, q_rR_n, q_rR_sl, q_rR_is, q_rR_ck, g_ck_t a1, hln, g_ck_t ha, t2, t3, a2, a3, g_ck_t a4, a5, g_ck_t a6, a7]
      by_cases h8 : l.length < 8
      · have hw : mWrB st l = false := by
          cases hq : mWrB st l with
          | false => rfl
          | true =>
            have := mWrB_iff.mp hq
            unfold mWrong mHas at this
            rw [if_pos e0] at this
            omega
        have hsa : s ≠ a := by omega
        rw [if_pos (show nI l.length < (8 : Int32) from nI_lt (b := 8) h8 (by decide))]
        have g1 : g_up (gfI S) 388 a (nI l.length) 322 s = nI l.length := (g_up_n hsa).trans hln
        have g2 : g_up (gfI S) 388 a (nI l.length) 385 a = st.2.1 := (g_up_f (by decide)).trans t2
        have g3 : g_up (gfI S) 388 a (nI l.length) 386 a = st.2.2.1 := (g_up_f (by decide)).trans t3
        rw [g1, g2, g3]
        simp (disch := omega) only [g_ix_t, nI_clamp, add1, Option.bind_some]
        rw [hw, if_neg (show ¬ (1 : Int32) = 0 by decide), if_neg (by decide)]
        generalize hS1 : g_pI (g_rI (g_rI (g_pI S 388 a (nI l.length)) (s + 1) (upd (gaI S (s + 1)) l.length st.2.1)) (s + 2) (upd (g_row (gaI S) (s + 1) (upd (gaI S (s + 1)) l.length st.2.1) (s + 2)) l.length st.2.2.1)) 322 s (nI (l.length + 1)) = S1
        refine ⟨S1, rfl, by rw [← hS1]; exact hI.of rfl rfl rfl rfl rfl, ?_, fun _ => ⟨⟨?_, fun i c hc => ?_⟩, ?_, fun q => absurd e0 q⟩⟩
        · rw [← hS1]
          exact (ChEq.pS (Or.inl rfl)).trans (ChEq.fr (((Fr.rI (by omega) (by omega)).trans (Fr.rI (by omega) (by omega))).trans (Fr.pI (by omega) (by omega))) has)
        · rw [stepS_add e0, ← hS1, List.length_append]
          simp only [q_pI_fI, q_pI_fL, q_pI_fR, q_pI_aI, q_pI_aL, q_pI_aR, q_pI_K, q_pI_ln, q_pI_n, q_pI_sl, q_pI_is, q_pI_ck, q_pL_fI, q_pL_fL, q_pL_fR, q_pL_aI, q_pL_aL, q_pL_aR, q_pL_K, q_pL_ln, q_pL_n, q_pL_sl, q_pL_is, q_pL_ck, q_pR_fI, q_pR_fL, q_pR_fR, q_pR_aI, q_pR_aL, q_pR_aR, q_pR_K, q_pR_ln, q_pR_n, q_pR_sl, q_pR_is, q_pR_ck, q_rI_fI, q_rI_fL, q_rI_fR, q_rI_aI, q_rI_aL, q_rI_aR, q_rI_K, q_rI_ln, q_rI_n, q_rI_sl, q_rI_is, q_rI_ck, q_rL_fI, q_rL_fL, q_rL_fR, q_rL_aI, q_rL_aL, q_rL_aR, q_rL_K, q_rL_ln, q_rL_n, q_rL_sl, q_rL_is, q_rL_ck, q_rR_fI, q_rR_fL, q_rR_fR, q_rR_aI, q_rR_aL, q_rR_aR, q_rR_K, q_rR_ln, q_rR_n, q_rR_sl, q_rR_is, q_rR_ck]
          rw [g_up_s]; rfl
        · rw [stepS_add e0] at hc
          have hi := lt_of_some hc
          rw [List.length_append, List.length_singleton] at hi
          rw [← hS1]
          simp only [q_pI_fI, q_pI_fL, q_pI_fR, q_pI_aI, q_pI_aL, q_pI_aR, q_pI_K, q_pI_ln, q_pI_n, q_pI_sl, q_pI_is, q_pI_ck, q_pL_fI, q_pL_fL, q_pL_fR, q_pL_aI, q_pL_aL, q_pL_aR, q_pL_K, q_pL_ln, q_pL_n, q_pL_sl, q_pL_is, q_pL_ck, q_pR_fI, q_pR_fL, q_pR_fR, q_pR_aI, q_pR_aL, q_pR_aR, q_pR_K, q_pR_ln, q_pR_n, q_pR_sl, q_pR_is, q_pR_ck, q_rI_fI, q_rI_fL, q_rI_fR, q_rI_aI, q_rI_aL, q_rI_aR, q_rI_K, q_rI_ln, q_rI_n, q_rI_sl, q_rI_is, q_rI_ck, q_rL_fI, q_rL_fL, q_rL_fR, q_rL_aI, q_rL_aL, q_rL_aR, q_rL_K, q_rL_ln, q_rL_n, q_rL_sl, q_rL_is, q_rL_ck, q_rR_fI, q_rR_fL, q_rR_fR, q_rR_aI, q_rR_aL, q_rR_aR, q_rR_K, q_rR_ln, q_rR_n, q_rR_sl, q_rR_is, q_rR_ck]
          rw [g_row_n (show s + 1 ≠ s + 2 by omega), g_row_s, g_row_s, g_row_n (show s + 2 ≠ s + 1 by omega)]
          by_cases q : i < l.length
          · rw [List.getElem?_append_left q] at hc
            rw [pk_un (by omega), pk_un (by omega)]
            exact h.2 i c hc
          · have : i = l.length := by omega
            subst this
            rw [List.getElem?_append_right (by omega), Nat.sub_self] at hc
            cases hc
            rw [pk_us, pk_us]
            exact ⟨rfl, rfl⟩
        · rw [← hS1]
          simp only [q_pI_fI, q_pI_fL, q_pI_fR, q_pI_aI, q_pI_aL, q_pI_aR, q_pI_K, q_pI_ln, q_pI_n, q_pI_sl, q_pI_is, q_pI_ck, q_pL_fI, q_pL_fL, q_pL_fR, q_pL_aI, q_pL_aL, q_pL_aR, q_pL_K, q_pL_ln, q_pL_n, q_pL_sl, q_pL_is, q_pL_ck, q_pR_fI, q_pR_fL, q_pR_fR, q_pR_aI, q_pR_aL, q_pR_aR, q_pR_K, q_pR_ln, q_pR_n, q_pR_sl, q_pR_is, q_pR_ck, q_rI_fI, q_rI_fL, q_rI_fR, q_rI_aI, q_rI_aL, q_rI_aR, q_rI_K, q_rI_ln, q_rI_n, q_rI_sl, q_rI_is, q_rI_ck, q_rL_fI, q_rL_fL, q_rL_fR, q_rL_aI, q_rL_aL, q_rL_aR, q_rL_K, q_rL_ln, q_rL_n, q_rL_sl, q_rL_is, q_rL_ck, q_rR_fI, q_rR_fL, q_rR_fR, q_rR_aI, q_rR_aL, q_rR_aR, q_rR_K, q_rR_ln, q_rR_n, q_rR_sl, q_rR_is, q_rR_ck]
          have : mPlace l st.2.1 = l.length := by have := mPlace_le l st.2.1; omega
          rw [g_up_n (by omega), g_up_s, this]
      · have hw : mWrB st l = true := mWrB_iff.mpr (by unfold mWrong mHas; rw [if_pos e0]; right; omega)
        rw [if_neg (show ¬ nI l.length < (8 : Int32) from nI_nlt (b := 8) (by omega) (by omega)), hw]
        simp only [Option.bind_some, if_true]
        exact ⟨S, rfl, hI, ChEq.refl, fun q => by cases q⟩
  · rw [if_neg e0]
    by_cases hp : mPlace l st.2.1 < l.length
    · obtain ⟨c, c1, c2⟩ := mPlace_at hp
      have hty := scOk.ty hl hp
      have hct : c.2 = mTyAt l (mPlace l st.2.1) := (mTyAt_of c1).symm
      rw [plO_has hp, if_pos (show (0 : Int32) ≤ nI (mPlace l st.2.1) from nI_le (a := 0) (by omega) (by omega))]
      simp only [g_putI, g_getR, g_ldI, Nat.reduceMul, Nat.reduceAdd, q_pI_fI, q_pI_fL, q_pI_fR, q_pI_aI, q_pI_aL, q_pI_aR, q_pI_K, q_pI_ln, q_pI_n, q_pI_sl, q_pI_is, q_pI_ck, q_pL_fI, q_pL_fL, q_pL_fR, q_pL_aI, q_pL_aL, q_pL_aR, q_pL_K, q_pL_ln, q_pL_n, q_pL_sl, q_pL_is, q_pL_ck, q_pR_fI, q_pR_fL, q_pR_fR, q_pR_aI, q_pR_aL, q_pR_aR, q_pR_K, q_pR_ln, q_pR_n, q_pR_sl, q_pR_is, q_pR_ck, q_rI_fI, q_rI_fL, q_rI_fR, q_rI_aI, q_rI_aL, q_rI_aR, q_rI_K, q_rI_ln, q_rI_n, q_rI_sl, q_rI_is, q_rI_ck, q_rL_fI, q_rL_fL, q_rL_fR, q_rL_aI, q_rL_aL, q_rL_aR, q_rL_K, q_rL_ln, q_rL_n, q_rL_sl, q_rL_is, q_rL_ck, q_rR_fI, q_rR_fL, q_rR_fR, q_rR_aI, q_rR_aL, q_rR_aR, q_rR_K, q_rR_ln, q_rR_n, q_rR_sl, q_rR_is, q_rR_ck, g_ck_t ha, g_ck_t a1, a3, Option.bind_some, g_ck_t a6, a7]
      rw [g_ix_t (by omega) (by decide), nI_clamp (by omega), (h.2 _ c c1).2, hct]
      generalize hS0 : g_pI (g_pI S 388 a (nI (mPlace l st.2.1))) 389 a (mTyAt l (mPlace l st.2.1)) = S0
      have x0 : gfI S0 384 a = st.1 := by rw [← hS0]; simp only [q_pI_fI, q_pI_fL, q_pI_fR, q_pI_aI, q_pI_aL, q_pI_aR, q_pI_K, q_pI_ln, q_pI_n, q_pI_sl, q_pI_is, q_pI_ck, q_pL_fI, q_pL_fL, q_pL_fR, q_pL_aI, q_pL_aL, q_pL_aR, q_pL_K, q_pL_ln, q_pL_n, q_pL_sl, q_pL_is, q_pL_ck, q_pR_fI, q_pR_fL, q_pR_fR, q_pR_aI, q_pR_aL, q_pR_aR, q_pR_K, q_pR_ln, q_pR_n, q_pR_sl, q_pR_is, q_pR_ck, q_rI_fI, q_rI_fL, q_rI_fR, q_rI_aI, q_rI_aL, q_rI_aR, q_rI_K, q_rI_ln, q_rI_n, q_rI_sl, q_rI_is, q_rI_ck, q_rL_fI, q_rL_fL, q_rL_fR, q_rL_aI, q_rL_aL, q_rL_aR, q_rL_K, q_rL_ln, q_rL_n, q_rL_sl, q_rL_is, q_rL_ck, q_rR_fI, q_rR_fL, q_rR_fR, q_rR_aI, q_rR_aL, q_rR_aR, q_rR_K, q_rR_ln, q_rR_n, q_rR_sl, q_rR_is, q_rR_ck]; rw [g_up_f (by decide), g_up_f (by decide)]; exact t1
      have x2 : gfI S0 386 a = st.2.2.1 := by rw [← hS0]; simp only [q_pI_fI, q_pI_fL, q_pI_fR, q_pI_aI, q_pI_aL, q_pI_aR, q_pI_K, q_pI_ln, q_pI_n, q_pI_sl, q_pI_is, q_pI_ck, q_pL_fI, q_pL_fL, q_pL_fR, q_pL_aI, q_pL_aL, q_pL_aR, q_pL_K, q_pL_ln, q_pL_n, q_pL_sl, q_pL_is, q_pL_ck, q_pR_fI, q_pR_fL, q_pR_fR, q_pR_aI, q_pR_aL, q_pR_aR, q_pR_K, q_pR_ln, q_pR_n, q_pR_sl, q_pR_is, q_pR_ck, q_rI_fI, q_rI_fL, q_rI_fR, q_rI_aI, q_rI_aL, q_rI_aR, q_rI_K, q_rI_ln, q_rI_n, q_rI_sl, q_rI_is, q_rI_ck, q_rL_fI, q_rL_fL, q_rL_fR, q_rL_aI, q_rL_aL, q_rL_aR, q_rL_K, q_rL_ln, q_rL_n, q_rL_sl, q_rL_is, q_rL_ck, q_rR_fI, q_rR_fL, q_rR_fR, q_rR_aI, q_rR_aL, q_rR_aR, q_rR_K, q_rR_ln, q_rR_n, q_rR_sl, q_rR_is, q_rR_ck]; rw [g_up_f (by decide), g_up_f (by decide)]; exact t3
      have hI0 : Imm S0 := by rw [← hS0]; exact hI.of rfl rfl rfl rfl rfl
      have hC0 : ChEq s a S S0 := by rw [← hS0]; exact (ChEq.pS (Or.inl rfl)).trans (ChEq.pS (Or.inr rfl))
      have y8 : gfI S0 388 a = nI (mPlace l st.2.1) := by rw [← hS0]; simp only [q_pI_fI, q_pI_fL, q_pI_fR, q_pI_aI, q_pI_aL, q_pI_aR, q_pI_K, q_pI_ln, q_pI_n, q_pI_sl, q_pI_is, q_pI_ck, q_pL_fI, q_pL_fL, q_pL_fR, q_pL_aI, q_pL_aL, q_pL_aR, q_pL_K, q_pL_ln, q_pL_n, q_pL_sl, q_pL_is, q_pL_ck, q_pR_fI, q_pR_fL, q_pR_fR, q_pR_aI, q_pR_aL, q_pR_aR, q_pR_K, q_pR_ln, q_pR_n, q_pR_sl, q_pR_is, q_pR_ck, q_rI_fI, q_rI_fL, q_rI_fR, q_rI_aI, q_rI_aL, q_rI_aR, q_rI_K, q_rI_ln, q_rI_n, q_rI_sl, q_rI_is, q_rI_ck, q_rL_fI, q_rL_fL, q_rL_fR, q_rL_aI, q_rL_aL, q_rL_aR, q_rL_K, q_rL_ln, q_rL_n, q_rL_sl, q_rL_is, q_rL_ck, q_rR_fI, q_rR_fL, q_rR_fR, q_rR_aI, q_rR_aL, q_rR_aR, q_rR_K, q_rR_ln, q_rR_n, q_rR_sl, q_rR_is, q_rR_ck]; rw [g_up_f (by decide), g_up_s]
      have y9 : gfI S0 389 a = mTyAt l (mPlace l st.2.1) := by rw [← hS0]; simp only [q_pI_fI, q_pI_fL, q_pI_fR, q_pI_aI, q_pI_aL, q_pI_aR, q_pI_K, q_pI_ln, q_pI_n, q_pI_sl, q_pI_is, q_pI_ck, q_pL_fI, q_pL_fL, q_pL_fR, q_pL_aI, q_pL_aL, q_pL_aR, q_pL_K, q_pL_ln, q_pL_n, q_pL_sl, q_pL_is, q_pL_ck, q_pR_fI, q_pR_fL, q_pR_fR, q_pR_aI, q_pR_aL, q_pR_aR, q_pR_K, q_pR_ln, q_pR_n, q_pR_sl, q_pR_is, q_pR_ck, q_rI_fI, q_rI_fL, q_rI_fR, q_rI_aI, q_rI_aL, q_rI_aR, q_rI_K, q_rI_ln, q_rI_n, q_rI_sl, q_rI_is, q_rI_ck, q_rL_fI, q_rL_fL, q_rL_fR, q_rL_aI, q_rL_aL, q_rL_aR, q_rL_K, q_rL_ln, q_rL_n, q_rL_sl, q_rL_is, q_rL_ck, q_rR_fI, q_rR_fL, q_rR_fR, q_rR_aI, q_rR_aL, q_rR_aR, q_rR_K, q_rR_ln, q_rR_n, q_rR_sl, q_rR_is, q_rR_ck]; rw [g_up_s]
      have h0 : SchC S0 s l := by
        refine ⟨?_, ?_⟩
        · rw [← hS0]; simp only [q_pI_fI, q_pI_fL, q_pI_fR, q_pI_aI, q_pI_aL, q_pI_aR, q_pI_K, q_pI_ln, q_pI_n, q_pI_sl, q_pI_is, q_pI_ck, q_pL_fI, q_pL_fL, q_pL_fR, q_pL_aI, q_pL_aL, q_pL_aR, q_pL_K, q_pL_ln, q_pL_n, q_pL_sl, q_pL_is, q_pL_ck, q_pR_fI, q_pR_fL, q_pR_fR, q_pR_aI, q_pR_aL, q_pR_aR, q_pR_K, q_pR_ln, q_pR_n, q_pR_sl, q_pR_is, q_pR_ck, q_rI_fI, q_rI_fL, q_rI_fR, q_rI_aI, q_rI_aL, q_rI_aR, q_rI_K, q_rI_ln, q_rI_n, q_rI_sl, q_rI_is, q_rI_ck, q_rL_fI, q_rL_fL, q_rL_fR, q_rL_aI, q_rL_aL, q_rL_aR, q_rL_K, q_rL_ln, q_rL_n, q_rL_sl, q_rL_is, q_rL_ck, q_rR_fI, q_rR_fL, q_rR_fR, q_rR_aI, q_rR_aL, q_rR_aR, q_rR_K, q_rR_ln, q_rR_n, q_rR_sl, q_rR_is, q_rR_ck]; rw [g_up_n (by omega), g_up_n (by omega)]; exact hln
        · rw [← hS0]; exact h.2
      have aS' := hI0.sch hs
      obtain ⟨b1, b2, b3, b4, b5, b6, b7⟩ := aS'
      have ha0 : g_is S0 6 a := by rw [← hS0]; exact ha
      rw [show g_up (g_up (gfI S) 388 a (nI (mPlace l st.2.1))) 389 a (mTyAt l (mPlace l st.2.1)) = gfI S0 by rw [← hS0]; rfl, x0]
      have keep : ∀ S1 : gS, Fr s (s + 3) S0 S1 → gfI S1 388 a = nI (mPlace l st.2.1) ∧ (st.1 ≠ 0 → gfI S1 389 a = mTyAt l (mPlace l st.2.1)) := fun S1 e => ⟨by rw [(e a has).1]; exact y8, fun _ => by rw [(e a has).1]; exact y9⟩
      rcases hok.1 with z | e1 | e2 | e3
      · exact absurd z e0
      · have hw : mWrB st l = false := by
          cases hq : mWrB st l with
          | false => rfl
          | true =>
            have := mWrB_iff.mp hq
            unfold mWrong mHas at this
            rw [if_neg e0] at this
            rcases this with q | q | q
            · exact absurd hp q
            · rw [e1] at q; exact absurd q.1 (by decide)
            · rw [e1] at q; exact absurd q.1 (by decide)
        rw [if_pos e1]
        unfold f_X5_dropColumn
        simp only [g_getI, g_getL, g_getR, g_putI, g_putZ, g_putL, g_putR, g_ldI, g_ldL, g_ldR, g_stI, g_stZ, g_stL, g_stR, g_alen, g_ldX, g_cVI, g_cVL, g_cVR, g_cVV, g_cI, g_cL, g_cN, g_lt, g_jn, g_cpI, g_cpL, g_z, Nat.reduceMul, Nat.reduceAdd, Option.bind_some, or_true, true_or, if_true, q_pI_fI, q_pI_fL, q_pI_fR, q_pI_aI, q_pI_aL, q_pI_aR, q_pI_K, q_pI_ln, q_pI_n, q_pI_sl, q_pI_is, q_pI_ck, q_pL_fI, q_pL_fL, q_pL_fR, q_pL_aI, q_pL_aL, q_pL_aR, q_pL_K, q_pL_ln, q_pL_n, q_pL_sl, q_pL_is, q_pL_ck, q_pR_fI, q_pR_fL, q_pR_fR, q_pR_aI, q_pR_aL, q_pR_aR, q_pR_K, q_pR_ln, q_pR_n, q_pR_sl, q_pR_is, q_pR_ck, q_rI_fI, q_rI_fL, q_rI_fR, q_rI_aI, q_rI_aL, q_rI_aR, q_rI_K, q_rI_ln, q_rI_n, q_rI_sl, q_rI_is, q_rI_ck, q_rL_fI, q_rL_fL, q_rL_fR, q_rL_aI, q_rL_aL, q_rL_aR, q_rL_K, q_rL_ln, q_rL_n, q_rL_sl, q_rL_is, q_rL_ck, q_rR_fI, q_rR_fL, q_rR_fR, q_rR_aI, q_rR_aL, q_rR_aR, q_rR_K, q_rR_ln, q_rR_n, q_rR_sl, q_rR_is, q_rR_ck, g_ck_t b1, h0.1, b2, b3, g_ck_t b4, b5, g_ck_t b6, b7]
        rw [show (1 : Int32) = nI 1 from rfl, sub_nI (by omega), sub_nI (by omega), nI_add, g_rg_t (by omega) (by omega) (by omega) (by omega), g_rg_t (by omega) (by omega) (by omega) (by omega), nI_clamp (by omega), nI_clamp (by omega), nI_clamp (by omega), sub_nI (by omega), hw]
        generalize hS1 : g_pI (g_rI (g_rI S0 (s + 1) (va_cpy (gaI S0 (s + 1)) (gaI S0 (s + 1)) (mPlace l st.2.1 + 1) (mPlace l st.2.1) (l.length - mPlace l st.2.1 - 1))) (s + 2) (va_cpy (g_row (gaI S0) (s + 1) (va_cpy (gaI S0 (s + 1)) (gaI S0 (s + 1)) (mPlace l st.2.1 + 1) (mPlace l st.2.1) (l.length - mPlace l st.2.1 - 1)) (s + 2)) (g_row (gaI S0) (s + 1) (va_cpy (gaI S0 (s + 1)) (gaI S0 (s + 1)) (mPlace l st.2.1 + 1) (mPlace l st.2.1) (l.length - mPlace l st.2.1 - 1)) (s + 2)) (mPlace l st.2.1 + 1) (mPlace l st.2.1) (l.length - mPlace l st.2.1 - 1))) 322 s (nI (l.length - 1)) = S1
        have e : Fr s (s + 3) S0 S1 := by rw [← hS1]; exact ((Fr.rI (by omega) (by omega)).trans (Fr.rI (by omega) (by omega))).trans (Fr.pI (by omega) (by omega))
        refine ⟨S1, rfl, by rw [← hS1]; exact hI0.of rfl rfl rfl rfl rfl, hC0.trans (ChEq.fr e has), fun _ => ⟨⟨?_, fun i x hx => ?_⟩, keep S1 e⟩⟩
        · rw [stepS_drop e1, List.length_eraseIdx_of_lt hp, ← hS1]
          simp only [q_pI_fI, q_pI_fL, q_pI_fR, q_pI_aI, q_pI_aL, q_pI_aR, q_pI_K, q_pI_ln, q_pI_n, q_pI_sl, q_pI_is, q_pI_ck, q_pL_fI, q_pL_fL, q_pL_fR, q_pL_aI, q_pL_aL, q_pL_aR, q_pL_K, q_pL_ln, q_pL_n, q_pL_sl, q_pL_is, q_pL_ck, q_pR_fI, q_pR_fL, q_pR_fR, q_pR_aI, q_pR_aL, q_pR_aR, q_pR_K, q_pR_ln, q_pR_n, q_pR_sl, q_pR_is, q_pR_ck, q_rI_fI, q_rI_fL, q_rI_fR, q_rI_aI, q_rI_aL, q_rI_aR, q_rI_K, q_rI_ln, q_rI_n, q_rI_sl, q_rI_is, q_rI_ck, q_rL_fI, q_rL_fL, q_rL_fR, q_rL_aI, q_rL_aL, q_rL_aR, q_rL_K, q_rL_ln, q_rL_n, q_rL_sl, q_rL_is, q_rL_ck, q_rR_fI, q_rR_fL, q_rR_fR, q_rR_aI, q_rR_aL, q_rR_aR, q_rR_K, q_rR_ln, q_rR_n, q_rR_sl, q_rR_is, q_rR_ck]
          rw [g_up_s]
        · rw [stepS_drop e1] at hx
          have hi := lt_of_some hx
          rw [List.length_eraseIdx_of_lt hp] at hi
          rw [List.getElem?_eraseIdx] at hx
          rw [← hS1]
          simp only [q_pI_fI, q_pI_fL, q_pI_fR, q_pI_aI, q_pI_aL, q_pI_aR, q_pI_K, q_pI_ln, q_pI_n, q_pI_sl, q_pI_is, q_pI_ck, q_pL_fI, q_pL_fL, q_pL_fR, q_pL_aI, q_pL_aL, q_pL_aR, q_pL_K, q_pL_ln, q_pL_n, q_pL_sl, q_pL_is, q_pL_ck, q_pR_fI, q_pR_fL, q_pR_fR, q_pR_aI, q_pR_aL, q_pR_aR, q_pR_K, q_pR_ln, q_pR_n, q_pR_sl, q_pR_is, q_pR_ck, q_rI_fI, q_rI_fL, q_rI_fR, q_rI_aI, q_rI_aL, q_rI_aR, q_rI_K, q_rI_ln, q_rI_n, q_rI_sl, q_rI_is, q_rI_ck, q_rL_fI, q_rL_fL, q_rL_fR, q_rL_aI, q_rL_aL, q_rL_aR, q_rL_K, q_rL_ln, q_rL_n, q_rL_sl, q_rL_is, q_rL_ck, q_rR_fI, q_rR_fL, q_rR_fR, q_rR_aI, q_rR_aL, q_rR_aR, q_rR_K, q_rR_ln, q_rR_n, q_rR_sl, q_rR_is, q_rR_ck]
          rw [g_row_n (show s + 1 ≠ s + 2 by omega), g_row_s, g_row_s, g_row_n (show s + 2 ≠ s + 1 by omega)]
          by_cases q : i < mPlace l st.2.1
          · rw [if_pos q] at hx
            rw [pk_cpy_out (by omega), pk_cpy_out (by omega)]
            exact h0.2 i x hx
          · rw [if_neg q] at hx
            rw [pk_cpy_in (by omega) (by omega), pk_cpy_in (by omega) (by omega), show mPlace l st.2.1 + 1 + (i - mPlace l st.2.1) = i + 1 by omega]
            exact h0.2 _ x hx
      · rw [if_neg (show ¬ st.1 = 1 by rw [e2]; decide), if_pos e2]
        rw [x2]
        unfold f_X5_renameColumn
        simp only [g_getI, g_getL, g_getR, g_putI, g_putZ, g_putL, g_putR, g_ldI, g_ldL, g_ldR, g_stI, g_stZ, g_stL, g_stR, g_alen, g_ldX, g_cVI, g_cVL, g_cVR, g_cVV, g_cI, g_cL, g_cN, g_lt, g_jn, g_cpI, g_cpL, g_z, Nat.reduceMul, Nat.reduceAdd, Option.bind_some, or_true, true_or, if_true, q_pI_fI, q_pI_fL, q_pI_fR, q_pI_aI, q_pI_aL, q_pI_aR, q_pI_K, q_pI_ln, q_pI_n, q_pI_sl, q_pI_is, q_pI_ck, q_pL_fI, q_pL_fL, q_pL_fR, q_pL_aI, q_pL_aL, q_pL_aR, q_pL_K, q_pL_ln, q_pL_n, q_pL_sl, q_pL_is, q_pL_ck, q_pR_fI, q_pR_fL, q_pR_fR, q_pR_aI, q_pR_aL, q_pR_aR, q_pR_K, q_pR_ln, q_pR_n, q_pR_sl, q_pR_is, q_pR_ck, q_rI_fI, q_rI_fL, q_rI_fR, q_rI_aI, q_rI_aL, q_rI_aR, q_rI_K, q_rI_ln, q_rI_n, q_rI_sl, q_rI_is, q_rI_ck, q_rL_fI, q_rL_fL, q_rL_fR, q_rL_aI, q_rL_aL, q_rL_aR, q_rL_K, q_rL_ln, q_rL_n, q_rL_sl, q_rL_is, q_rL_ck, q_rR_fI, q_rR_fL, q_rR_fR, q_rR_aI, q_rR_aL, q_rR_aR, q_rR_K, q_rR_ln, q_rR_n, q_rR_sl, q_rR_is, q_rR_ck, g_ck_t b1, placeOf_C (hI0.sch hs) h0 hl.1 hl.2.2, b2, g_ck_t b4, b5]
        by_cases hp2 : mPlace l st.2.2.1 < l.length
        · have hw : mWrB st l = true := mWrB_iff.mpr (by unfold mWrong mHas; rw [if_neg e0]; exact Or.inr (Or.inl ⟨e2, hp2⟩))
          rw [plO_has hp2, if_neg (nI_pos (by omega)), hw]
          exact ⟨S0, rfl, hI0, hC0, fun q => by cases q⟩
        · have hw : mWrB st l = false := by
            cases hq : mWrB st l with
            | false => rfl
            | true =>
              have := mWrB_iff.mp hq
              unfold mWrong mHas at this
              rw [if_neg e0] at this
              rcases this with q | q | q
              · exact absurd hp q
              · exact absurd q.2 hp2
              · rw [e2] at q; exact absurd q.1 (by decide)
          rw [plO_no hp2, if_pos (show (-1 : Int32) < 0 by decide), g_ix_t (by omega) (by decide), nI_clamp (by omega), hw]
          have e : Fr s (s + 3) S0 (g_rI S0 (s + 1) (upd (gaI S0 (s + 1)) (mPlace l st.2.1) st.2.2.1)) := Fr.rI (by omega) (by omega)
          refine ⟨_, rfl, hI0.of rfl rfl rfl rfl rfl, hC0.trans (ChEq.fr e has), fun _ => ⟨⟨?_, fun i x hx => ?_⟩, keep _ e⟩⟩
          · rw [stepS_ren e2, List.length_set]; exact h0.1
          · rw [stepS_ren e2, List.getElem?_set] at hx
            simp only [q_pI_fI, q_pI_fL, q_pI_fR, q_pI_aI, q_pI_aL, q_pI_aR, q_pI_K, q_pI_ln, q_pI_n, q_pI_sl, q_pI_is, q_pI_ck, q_pL_fI, q_pL_fL, q_pL_fR, q_pL_aI, q_pL_aL, q_pL_aR, q_pL_K, q_pL_ln, q_pL_n, q_pL_sl, q_pL_is, q_pL_ck, q_pR_fI, q_pR_fL, q_pR_fR, q_pR_aI, q_pR_aL, q_pR_aR, q_pR_K, q_pR_ln, q_pR_n, q_pR_sl, q_pR_is, q_pR_ck, q_rI_fI, q_rI_fL, q_rI_fR, q_rI_aI, q_rI_aL, q_rI_aR, q_rI_K, q_rI_ln, q_rI_n, q_rI_sl, q_rI_is, q_rI_ck, q_rL_fI, q_rL_fL, q_rL_fR, q_rL_aI, q_rL_aL, q_rL_aR, q_rL_K, q_rL_ln, q_rL_n, q_rL_sl, q_rL_is, q_rL_ck, q_rR_fI, q_rR_fL, q_rR_fR, q_rR_aI, q_rR_aL, q_rR_aR, q_rR_K, q_rR_ln, q_rR_n, q_rR_sl, q_rR_is, q_rR_ck]
            rw [g_row_s, g_row_n (show s + 2 ≠ s + 1 by omega)]
            by_cases q : mPlace l st.2.1 = i
            · rw [if_pos q, if_pos hp] at hx
              cases hx
              rw [← q, pk_us]
              exact ⟨rfl, ((h0.2 _ c c1).2.trans hct)⟩
            · rw [if_neg q] at hx
              rw [pk_un (fun z => q z.symm)]
              exact h0.2 i x hx
      · rw [if_neg (show ¬ st.1 = 1 by rw [e3]; decide), if_neg (show ¬ st.1 = 2 by rw [e3]; decide)]
        rw [x2]
        unfold f_X5_retypeColumn
        simp only [g_getI, g_getL, g_getR, g_putI, g_putZ, g_putL, g_putR, g_ldI, g_ldL, g_ldR, g_stI, g_stZ, g_stL, g_stR, g_alen, g_ldX, g_cVI, g_cVL, g_cVR, g_cVV, g_cI, g_cL, g_cN, g_lt, g_jn, g_cpI, g_cpL, g_z, Nat.reduceMul, Nat.reduceAdd, Option.bind_some, or_true, true_or, if_true, q_pI_fI, q_pI_fL, q_pI_fR, q_pI_aI, q_pI_aL, q_pI_aR, q_pI_K, q_pI_ln, q_pI_n, q_pI_sl, q_pI_is, q_pI_ck, q_pL_fI, q_pL_fL, q_pL_fR, q_pL_aI, q_pL_aL, q_pL_aR, q_pL_K, q_pL_ln, q_pL_n, q_pL_sl, q_pL_is, q_pL_ck, q_pR_fI, q_pR_fL, q_pR_fR, q_pR_aI, q_pR_aL, q_pR_aR, q_pR_K, q_pR_ln, q_pR_n, q_pR_sl, q_pR_is, q_pR_ck, q_rI_fI, q_rI_fL, q_rI_fR, q_rI_aI, q_rI_aL, q_rI_aR, q_rI_K, q_rI_ln, q_rI_n, q_rI_sl, q_rI_is, q_rI_ck, q_rL_fI, q_rL_fL, q_rL_fR, q_rL_aI, q_rL_aL, q_rL_aR, q_rL_K, q_rL_ln, q_rL_n, q_rL_sl, q_rL_is, q_rL_ck, q_rR_fI, q_rR_fL, q_rR_fR, q_rR_aI, q_rR_aL, q_rR_aR, q_rR_K, q_rR_ln, q_rR_n, q_rR_sl, q_rR_is, q_rR_ck, g_ck_t b1, b3, g_ck_t b6, b7]
        rw [g_ix_t (by omega) (by decide), nI_clamp (by omega), (h0.2 _ c c1).2, hct, cb_ix hty]
        have hto : isTy st.2.2.1 := hok.2 (Or.inr e3)
        by_cases hcan : mCanB (mTyAt l (mPlace l st.2.1)) st.2.2.1 = false
        · have hw : mWrB st l = true := mWrB_iff.mpr (by
            unfold mWrong mHas
            rw [if_neg e0]
            refine Or.inr (Or.inr ⟨e3, fun q => ?_⟩)
            rw [mCanB_iff.mpr q] at hcan
            cases hcan)
          rw [if_pos ((cb_bit hty hto).mpr hcan), hw]
          exact ⟨S0, rfl, hI0, hC0, fun q => by cases q⟩
        · have hw : mWrB st l = false := by
            cases hq : mWrB st l with
            | false => rfl
            | true =>
              have := mWrB_iff.mp hq
              unfold mWrong mHas at this
              rw [if_neg e0] at this
              rcases this with q | q | q
              · exact absurd hp q
              · rw [e3] at q; exact absurd q.1 (by decide)
              · refine absurd (mCanB_iff.mp ?_) q.2
                simpa using hcan
          rw [if_neg (fun q => hcan ((cb_bit hty hto).mp q)), g_ix_t (by omega) (by decide), hw]
          have e : Fr s (s + 3) S0 (g_rI S0 (s + 2) (upd (gaI S0 (s + 2)) (mPlace l st.2.1) st.2.2.1)) := Fr.rI (by omega) (by omega)
          refine ⟨_, rfl, hI0.of rfl rfl rfl rfl rfl, hC0.trans (ChEq.fr e has), fun _ => ⟨⟨?_, fun i x hx => ?_⟩, keep _ e⟩⟩
          · rw [stepS_ret e3, List.length_set]; exact h0.1
          · rw [stepS_ret e3, List.getElem?_set] at hx
            simp only [q_pI_fI, q_pI_fL, q_pI_fR, q_pI_aI, q_pI_aL, q_pI_aR, q_pI_K, q_pI_ln, q_pI_n, q_pI_sl, q_pI_is, q_pI_ck, q_pL_fI, q_pL_fL, q_pL_fR, q_pL_aI, q_pL_aL, q_pL_aR, q_pL_K, q_pL_ln, q_pL_n, q_pL_sl, q_pL_is, q_pL_ck, q_pR_fI, q_pR_fL, q_pR_fR, q_pR_aI, q_pR_aL, q_pR_aR, q_pR_K, q_pR_ln, q_pR_n, q_pR_sl, q_pR_is, q_pR_ck, q_rI_fI, q_rI_fL, q_rI_fR, q_rI_aI, q_rI_aL, q_rI_aR, q_rI_K, q_rI_ln, q_rI_n, q_rI_sl, q_rI_is, q_rI_ck, q_rL_fI, q_rL_fL, q_rL_fR, q_rL_aI, q_rL_aL, q_rL_aR, q_rL_K, q_rL_ln, q_rL_n, q_rL_sl, q_rL_is, q_rL_ck, q_rR_fI, q_rR_fL, q_rR_fR, q_rR_aI, q_rR_aL, q_rR_aR, q_rR_K, q_rR_ln, q_rR_n, q_rR_sl, q_rR_is, q_rR_ck]
            rw [g_row_s, g_row_n (show s + 1 ≠ s + 2 by omega)]
            by_cases q : mPlace l st.2.1 = i
            · rw [if_pos q, if_pos hp] at hx
              cases hx
              rw [← q, pk_us]
              exact ⟨(h0.2 _ c c1).1.trans c2, rfl⟩
            · rw [if_neg q] at hx
              rw [pk_un (fun z => q z.symm)]
              exact h0.2 i x hx
    · have hw : mWrB st l = true := mWrB_iff.mpr (by unfold mWrong mHas; rw [if_neg e0]; exact Or.inl hp)
      rw [plO_no hp, if_neg (show ¬ (0 : Int32) ≤ -1 by decide), hw]
      exact ⟨S, rfl, hI, ChEq.refl, fun q => by cases q⟩
