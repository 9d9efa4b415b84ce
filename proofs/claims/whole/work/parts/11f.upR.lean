/-! ===== a form brought up, of the reference ===== -/
theorem upDrop_loop {l : List mCol} {vs : List mV} {p b : Nat} {u1 u3 u4 : Int32} {K : gS → Int32 → Option gS} (hl : l.length ≤ 8) (hp : p < l.length) (hb : b + 8 ≤ 656) (hv : vs.length = l.length) : ∀ (d fu i : Nat) (S : gS), i + 1 + d = l.length → d < fu → Imm S → p ≤ i → gaI S 250 2 = nI l.length → (∀ j c x, j < i → (l.eraseIdx p)[j]? = some c → (vs.eraseIdx p)[j]? = some x → RVS c.2 S (b + j) x) → (∀ j c x, i ≤ j → l[j]? = some c → vs[j]? = some x → RVS c.2 S (b + j) x) → ∃ S1, l_X9_up_113 237 u1 (nI b) u3 u4 fu S (nI i) K = K S1 (nI (l.length - 1)) ∧ RE V4 [] S S1 ∧ (∀ k, (k < b ∨ b + 8 ≤ k) → SlotEq S S1 k) ∧ ∀ j c x, (l.eraseIdx p)[j]? = some c → (vs.eraseIdx p)[j]? = some x → RVS c.2 S1 (b + j) x := by
  intro d
  induction d with
  | zero =>
    intro fu i S hi hf hI hpi hc hlo hhi
    have hR := hI.ref
    obtain ⟨fu, rfl⟩ : ∃ m, fu = m + 1 := ⟨fu - 1, by omega⟩
    have : i = l.length - 1 := by omega
    subst this
    refine ⟨S, ?_, RE.refl, fun _ _ => SlotEq.refl, fun j c x hj hx => hlo j c x ?_ hj hx⟩
    · rw [l_X9_up_113]
      simp only [g_getI, g_getL, g_getR, g_putI, g_putZ, g_putL, g_putR, g_ldI, g_ldL, g_ldR, g_stI, g_stZ, g_stL, g_stR, g_alen, g_ldX, g_cVI, g_cVL, g_cVR, g_cVV, g_cI, g_cL, g_cN, g_lt, g_jn, g_cpI, g_cpL, g_z, Nat.reduceMul, Nat.reduceAdd, Option.bind_some, or_true, true_or, if_true, ck9 hR, rf_columns hR, g_ck_t (ri_columns hR), rl_columns hR, ix3, cl2, hc, add1]
      rw [if_pos (nI_le (by omega) (by omega))]
    · have := lt_of_some hj
      rw [List.length_eraseIdx_of_lt hp] at this
      exact this
  | succ d ih =>
    intro fu i S hi hf hI hpi hc hlo hhi
    have hR := hI.ref
    obtain ⟨fu, rfl⟩ : ∃ m, fu = m + 1 := ⟨fu - 1, by omega⟩
    have hil : i + 1 < l.length := by omega
    obtain ⟨S2, b1, b2, b3, b4⟩ := copy_V (S := S) (a := b + i + 1) (b := b + i) hI (by omega) (by omega) (by omega)
    obtain ⟨S1, a1, a2, a3, a4⟩ := ih fu (i + 1) S2 (by omega) (by omega) (b2.imm hI) (by omega) (by rw [b2.aI (by decide)]; exact hc) (fun j c x hj hjc hjx => by
        by_cases z : j = i
        · subst z
          rw [List.getElem?_eraseIdx, if_neg (by omega)] at hjc hjx
          exact b4.v (hhi (j + 1) c x (by omega) hjc hjx)
        · exact (hlo j c x (by omega) hjc hjx).slot (b3 _ (by omega))) (fun j c x hj hjc hjx => (hhi j c x (by omega) hjc hjx).slot (b3 _ (by omega)))
    refine ⟨S1, ?_, b2.trans a2, fun k hk => (b3 k (by omega)).trans (a3 k hk), a4⟩
    rw [← a1, l_X9_up_113]
    simp only [g_getI, g_getL, g_getR, g_putI, g_putZ, g_putL, g_putR, g_ldI, g_ldL, g_ldR, g_stI, g_stZ, g_stL, g_stR, g_alen, g_ldX, g_cVI, g_cVL, g_cVR, g_cVV, g_cI, g_cL, g_cN, g_lt, g_jn, g_cpI, g_cpL, g_z, Nat.reduceMul, Nat.reduceAdd, Option.bind_some, or_true, true_or, if_true, ck9 hR, rf_columns hR, g_ck_t (ri_columns hR), rl_columns hR, ix3, cl2, hc, add1, nI_add]
    rw [if_neg (nI_ge (by omega) (by omega)), b1, Option.bind_some]
/-- one step, on the form alone -/
theorem FormR.get {S : gS} {b : Nat} {l : List mCol} {vs : List mV} (h : FormR S b (tys l) vs) {i : Nat} {c : mCol} {x : mV} (hc : l[i]? = some c) (hx : vs[i]? = some x) : RVS c.2 S (b + i) x := h.2 i _ x (get_tys hc) hx
theorem FormR.of {S : gS} {b : Nat} {l : List mCol} {vs : List mV} (h : vs.length = l.length) (g : ∀ i c x, l[i]? = some c → vs[i]? = some x → RVS c.2 S (b + i) x) : FormR S b (tys l) vs := by
  refine ⟨by rw [tys_len]; exact h, fun i t x ht hx => ?_⟩
  obtain ⟨c, c1, c2⟩ := tys_get ht
  subst c2
  exact g i c x c1 hx
theorem up_loop {b : Nat} {ua : Int32} (hb : b + 8 ≤ 656) : ∀ (ss : List mStep) (k fu : Nat) (S : gS) (l : List mCol) (vs : List mV), (∀ i st, ss[i]? = some st → StR S (6 + k + i) st) → gfI S 598 237 = nI (k + ss.length) → k + ss.length ≤ 6 → ss.length < fu → Imm S → SchR S 2 l → scOk l → (∀ st ∈ ss, stOk st) → mgOk ss l → FormR S b (tys l) vs → ∃ S1, l_X9_up_15 237 ua (nI b) fu S (nI (6 + k)) = some S1 ∧ RE [238, 239, 240, 241, 248, 249, 250] [] S S1 ∧ (∀ q, (q < b ∨ b + 8 ≤ q) → SlotEq S S1 q) ∧ FormR S1 b (tys (mSchs l ss)) (mUp ss l vs) ∧ ∀ j l', j < 2 → l'.length ≤ 8 → SchR S j l' → SchR S1 j l' := by
  intro ss
  induction ss with
  | nil =>
    intro k fu S l vs hss hc hk hf hI hS ho hok hg hF
    have hR := hI.ref
    obtain ⟨fu, rfl⟩ : ∃ m, fu = m + 1 := ⟨fu - 1, by omega⟩
    refine ⟨S, ?_, RE.refl, fun _ _ => SlotEq.refl, hF, fun _ _ _ _ h => h⟩
    rw [l_X9_up_15]
    simp only [g_getI, Nat.reduceMul, Nat.reduceAdd, ck9 hR, hc]
    rw [show (6 : Int32) = nI 6 from rfl, nI_add, if_pos (nI_le (by simp) (by omega))]
  | cons st ss ih =>
    intro k fu S l vs hss hc hk hf hI hS ho hok hg hF
    have hR := hI.ref
    rw [List.length_cons] at hc hk hf
    obtain ⟨fu, rfl⟩ : ∃ m, fu = m + 1 := ⟨fu - 1, by omega⟩
    have hst := hss 0 st rfl
    rw [Nat.add_zero] at hst
    have hs := hok st List.mem_cons_self
    have hw := hg.1
    have hl := ho.1
    have hvl : vs.length = l.length := by rw [hF.1, tys_len]
    have pl : ∀ nm, f_X9_place S 237 nm = some (plO l nm, S) := fun nm => place_R hI hS ho.1 ho.2.2
    -- what is left when the form has changed
    have fin : ∀ S2, RE V4 [] S S2 → (∀ q, (q < b ∨ b + 8 ≤ q) → SlotEq S S2 q) → FormR S2 b (tys (mStepS st l)) (mUp1 st l vs) → ∃ S1, (g_cVV S2 9 237 (f_X9_step S2 237 (nI (6 + k))) fun S12 => l_X9_up_15 237 ua (nI b) fu S12 (nI (6 + k) + 1)) = some S1 ∧ RE [238, 239, 240, 241, 248, 249, 250] [] S S1 ∧ (∀ q, (q < b ∨ b + 8 ≤ q) → SlotEq S S1 q) ∧ FormR S1 b (tys (mSchs l (st :: ss))) (mUp (st :: ss) l vs) ∧ ∀ j l', j < 2 → l'.length ≤ 8 → SchR S j l' → SchR S1 j l' := by
      intro S2 e2 w2 f2
      have hI2 := e2.imm hI
      obtain ⟨S3, c1, c2, c3, c4⟩ := step_R (k := 6 + k) hI2 (hS.e e2 (by decide)) ho hs hw (by omega) (hst.e e2 (by decide))
      have hI3 := c2.imm hI2
      have e3 : RE [238, 239, 240, 241, 248, 249, 250] [] S S3 := (e2.mono (by decide) (by decide)).trans (c2.mono (by decide) (by decide))
      have sl3 : ∀ q, SlotEq S2 S3 q := fun q => c2.slot (by decide) (by decide) (by decide)
      obtain ⟨S1, d1, d2, d3, d4, d5⟩ := ih (k + 1) fu S3 (mStepS st l) (mUp1 st l vs) (fun i st' hi => by
          have := hss (i + 1) st' hi
          rw [show 6 + k + (i + 1) = 6 + (k + 1) + i by omega] at this
          exact this.e e3 (by decide)) (by rw [e3.fI (by decide), hc]; congr 1; omega) (by omega) (by omega) hI3 c3 (ho.step hs hw) (fun s q => hok s (List.mem_cons_of_mem _ q)) hg.2 (f2.slots fun q _ _ => sl3 q)
      refine ⟨S1, ?_, e3.trans d2, fun q hq => ((w2 q hq).trans (sl3 q)).trans (d3 q hq), d4, fun j l' hj hl' h' => d5 j l' hj hl' (c4 j l' hj hl' (h'.e e2 (by decide)))⟩
      unfold g_cVV
      rw [ck9 hI2.ref, c1, Option.bind_some, add1]
      exact d1
    obtain ⟨s1, s2, s3, s4⟩ := hst
    rw [l_X9_up_15]
    simp (disch := omega) only [g_getI, g_getR, g_ldI, g_cVI, g_jn, Nat.reduceMul, Nat.reduceAdd, Option.bind_some, ck9 hR, hc, rf_columns hR, g_ck_t (ri_columns hR), rl_columns hR, ix3, cl2, hS.1, rf_stepNames hR, g_ck_t (ri_stepNames hR), rl_stepNames hR, rf_whats hR, g_ck_t (ri_whats hR), rl_whats hR, rf_others hR, g_ck_t (ri_others hR), rl_others hR, rf_as hR, g_ck_t (ri_as hR), rl_as hR, rf_bs hR, g_ck_t (ri_bs hR), rl_bs hR, rf_types hR, g_ck_t (ri_types hR), rl_types hR, g_ix_t, nI_clamp, s1, s2, s3, pl]
    rw [if_neg (show ¬ (6 : Int32) + nI (k + (ss.length + 1)) ≤ nI (6 + k) by
      rw [show (6 : Int32) = nI 6 from rfl, nI_add]
      exact nI_ge (by omega) (by omega))]
    rcases hs.1 with e | e | e | e
    · obtain ⟨p1, p2⟩ := right_add hw e
      rw [if_pos e, nI_add]
      obtain ⟨S2, b1, b2, b3, b4⟩ := tell_V (S := S) (s := b + l.length) (t := st.2.2.1) (a := gaI S 254 (6 + k)) (b := gaI S 255 (6 + k)) hI (by omega) (hs.2 (Or.inl e))
      rw [show ∀ F, g_cVV S 9 237 (f_X9_tell S 237 (nI (b + l.length)) st.2.2.1 (gaI S 254 (6 + k)) (gaI S 255 (6 + k))) F = (F S2 : Option gS) from fun F => by unfold g_cVV; rw [ck9 hR, b1, Option.bind_some]]
      refine fin S2 b2 (fun q hq => b3 q (by omega)) (FormR.of ?_ fun i c x hc hx => ?_)
      · unfold mUp1; rw [if_pos e, stepS_add e]; simp [hvl]
      · unfold mUp1 at hx
        rw [if_pos e] at hx
        rw [stepS_add e] at hc
        have hi := lt_of_some hc
        rw [List.length_append, List.length_singleton] at hi
        by_cases q : i < l.length
        · rw [List.getElem?_append_left q] at hc
          rw [List.getElem?_append_left (by omega)] at hx
          exact (hF.get hc hx).slot (b3 _ (by omega))
        · have : i = l.length := by omega
          subst this
          rw [List.getElem?_append_right (by omega), Nat.sub_self] at hc
          rw [List.getElem?_append_right (by omega), hvl, Nat.sub_self] at hx
          cases hc
          cases hx
          rw [← s4]
          exact b4
    · have hp := right_has hw (by rw [e]; decide)
      rw [if_neg (show ¬ st.1 = 0 by rw [e]; decide), if_pos e, plO_has hp]
      obtain ⟨S2, b1, b2, b3, b4⟩ := upDrop_loop (u1 := ua) (u3 := nI (6 + k)) (u4 := nI (mPlace l st.2.1)) (K := fun S27 _ => g_cVV S27 9 237 (f_X9_step S27 237 (nI (6 + k))) fun S12 => l_X9_up_15 237 ua (nI b) fu S12 (nI (6 + k) + 1)) hl hp hb hvl (l.length - 1 - mPlace l st.2.1) 100 (mPlace l st.2.1) S (by omega) (by omega) hI (by omega) hS.1 (fun j c x hj hjc hjx => by
        rw [List.getElem?_eraseIdx, if_pos hj] at hjc hjx
        exact hF.get hjc hjx) (fun j c x _ hjc hjx => hF.get hjc hjx)
      rw [b1]
      refine fin S2 b2 b3 (FormR.of ?_ fun i c x hc hx => ?_)
      · unfold mUp1
        rw [if_neg (show ¬ st.1 = 0 by rw [e]; decide), if_pos e, stepS_drop e, List.length_eraseIdx_of_lt hp, List.length_eraseIdx_of_lt (by omega), hvl]
      · unfold mUp1 at hx
        rw [if_neg (show ¬ st.1 = 0 by rw [e]; decide), if_pos e] at hx
        rw [stepS_drop e] at hc
        exact b4 i c x hc hx
    · have hp := right_has hw (by rw [e]; decide)
      rw [if_neg (show ¬ st.1 = 0 by rw [e]; decide), if_neg (show ¬ st.1 = 1 by rw [e]; decide), if_pos e]
      refine fin S RE.refl (fun _ _ => SlotEq.refl) (FormR.of ?_ fun i c x hc hx => ?_)
      · unfold mUp1
        rw [if_neg (show ¬ st.1 = 0 by rw [e]; decide), if_neg (show ¬ st.1 = 1 by rw [e]; decide), if_neg (show ¬ st.1 = 3 by rw [e]; decide), stepS_ren e, List.length_set, hvl]
      · unfold mUp1 at hx
        rw [if_neg (show ¬ st.1 = 0 by rw [e]; decide), if_neg (show ¬ st.1 = 1 by rw [e]; decide), if_neg (show ¬ st.1 = 3 by rw [e]; decide)] at hx
        rw [stepS_ren e, List.getElem?_set] at hc
        by_cases q : mPlace l st.2.1 = i
        · rw [if_pos q, if_pos hp] at hc
          cases hc
          subst q
          have := hF.get (List.getElem?_eq_getElem hp) hx
          rw [← mTyAt_of (List.getElem?_eq_getElem hp)] at this
          exact this
        · rw [if_neg q] at hc
          exact hF.get hc hx
    · have hp := right_has hw (by rw [e]; decide)
      rw [if_neg (show ¬ st.1 = 0 by rw [e]; decide), if_neg (show ¬ st.1 = 1 by rw [e]; decide), if_neg (show ¬ st.1 = 2 by rw [e]; decide), if_pos e, plO_has hp, show (16 : Int32) = nI (8 * 2) from rfl, nI_add, nI_add, g_ix_t (by omega) (by decide), nI_clamp (by omega), hS.tyAt hp]
      have hx0 := getD_some (d := ((0 : Int64), ([] : List Nat))) (show mPlace l st.2.1 < vs.length by omega)
      have hc0 := hF.get (List.getElem?_eq_getElem hp) hx0
      rw [← mTyAt_of (List.getElem?_eq_getElem hp)] at hc0
      obtain ⟨S2, b1, b2, b3, b4⟩ := become_V (tt := st.2.2.1) hI (by omega) hc0 (hs.2 (Or.inr e))
      rw [show ∀ F, g_cVV S 9 237 (f_X9_become S 237 (nI (b + mPlace l st.2.1)) (mTyAt l (mPlace l st.2.1)) st.2.2.1) F = (F S2 : Option gS) from fun F => by unfold g_cVV; rw [ck9 hR, b1, Option.bind_some]]
      refine fin S2 b2 (fun q hq => b3 q (by omega)) (FormR.of ?_ fun i c x hc hx => ?_)
      · unfold mUp1
        rw [if_neg (show ¬ st.1 = 0 by rw [e]; decide), if_neg (show ¬ st.1 = 1 by rw [e]; decide), if_pos e, stepS_ret e, List.length_set, List.length_set, hvl]
      · unfold mUp1 at hx
        rw [if_neg (show ¬ st.1 = 0 by rw [e]; decide), if_neg (show ¬ st.1 = 1 by rw [e]; decide), if_pos e, List.getElem?_set] at hx
        rw [stepS_ret e, List.getElem?_set] at hc
        by_cases q : mPlace l st.2.1 = i
        · rw [if_pos q, if_pos hp] at hc
          rw [if_pos q, if_pos (by omega)] at hx
          cases hc
          cases hx
          subst q
          exact b4
        · rw [if_neg q] at hc hx
          exact (hF.get hc hx).slot (b3 _ (by omega))
theorem up_R {S : gS} {a b : Nat} {mg : List mStep} {sc : List mCol} {vs : List mV} (hI : Imm S) (ha : a + 8 ≤ 656) (hb : b + 8 ≤ 656) (hab : a + 8 ≤ b ∨ b + 8 ≤ a) (hP : PlanR S 6 mg) (hc : gfI S 598 237 = nI mg.length) (hm : plOk mg) (h0 : SchR S 0 sc) (ho : scOk sc) (hg : mgOk mg sc) (hF : FormR S a (tys sc) vs) : ∃ S1, f_X9_up S 237 (nI a) (nI b) = some S1 ∧ RE [238, 239, 240, 241, 248, 249, 250] [] S S1 ∧ (∀ q, (q < b ∨ b + 8 ≤ q) → SlotEq S S1 q) ∧ FormR S1 b (tys (mSchs sc mg)) (mUp mg sc vs) ∧ ∀ j l', j < 2 → l'.length ≤ 8 → SchR S j l' → SchR S1 j l' := by
  obtain ⟨S1, a1, a2, a3, a4⟩ := copyForm_V (s := a) (d := b) hI ha hb hab
  have hI1 := a2.imm hI
  obtain ⟨S2, b1, b2, b3, b4⟩ := copySchema_R (S := S1) (a := 0) (b := 2) hI1 (by decide) (by decide) (by decide)
  have hI2 := b2.imm hI1
  have e2 : RE [238, 239, 240, 241, 248, 249, 250] [] S S2 := (a2.mono (by decide) (by decide)).trans (b2.mono (by decide) (by decide))
  have sl2 : ∀ q, SlotEq S1 S2 q := fun q => b2.slot (by decide) (by decide) (by decide)
  have f2 : FormR S2 b (tys sc) vs := (hF.cp (by rw [tys_len]; exact ho.1) a4).slots fun q _ _ => sl2 q
  obtain ⟨S3, c1, c2, c3, c4, c5⟩ := up_loop (ua := nI a) hb mg 0 100 S2 sc vs (fun i st hi => (show StR S (6 + i) st from hP i st hi).e e2 (by decide)) (by rw [e2.fI (by decide), hc, Nat.zero_add]) (by have := hm.1; omega) (by have := hm.1; omega) hI2 (b3 sc ho.1 (h0.e a2 (by decide))) ho hm.2 hg f2
  refine ⟨S3, ?_, e2.trans c2, fun q hq => ((a3 q hq).trans (sl2 q)).trans (c3 q hq), c4, fun j l' hj hl' h' => c5 j l' hj hl' (b4 j l' (by omega) (by omega) hl' (h'.e a2 (by decide)))⟩
  unfold f_X9_up g_cVV
  rw [ck9 hI.ref, a1, Option.bind_some, ck9 hI1.ref, show (0 : Int32) = nI 0 from rfl, show (2 : Int32) = nI 2 from rfl, b1, Option.bind_some]
  exact c1
