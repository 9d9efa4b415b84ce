/-! ===== begin of the reference ===== -/
theorem bwrong_loop {K1 K2 : gS → Int32 → Option (Int32 × gS)} : ∀ (ss : List mStep) (k fu : Nat) (S : gS) (l : List mCol), (∀ i st, ss[i]? = some st → StR S (k + i) st) → gfI S 597 237 = nI (k + ss.length) → k + ss.length ≤ 6 → ss.length < fu → Imm S → SchR S 2 l → scOk l → (∀ st ∈ ss, stOk st) → ∃ S1, RE [248, 249, 250] [] S S1 ∧ (∀ j l', j < 2 → l'.length ≤ 8 → SchR S j l' → SchR S1 j l') ∧ (∀ x, mFw ss l = some x → l_X9_begin_59 237 fu S (nI k) K1 K2 = K2 S1 (nI (k + x))) ∧ (mFw ss l = none → l_X9_begin_59 237 fu S (nI k) K1 K2 = K1 S1 (nI (k + ss.length)) ∧ SchR S1 2 (mSchs l ss)) := by
  intro ss
  induction ss with
  | nil =>
    intro k fu S l hss hc hk hf hI hS ho hok
    have hR := hI.ref
    obtain ⟨fu, rfl⟩ : ∃ m, fu = m + 1 := ⟨fu - 1, by omega⟩
    refine ⟨S, RE.refl, fun _ _ _ _ h => h, fun x hx => (by cases hx), fun _ => ⟨?_, hS⟩⟩
    rw [l_X9_begin_59]
    simp only [g_getI, Nat.reduceMul, Nat.reduceAdd, ck9 hR, hc]
    rw [if_pos (nI_le (by simp) (by omega))]
    rfl
  | cons st ss ih =>
    intro k fu S l hss hc hk hf hI hS ho hok
    have hR := hI.ref
    rw [List.length_cons] at hc hk hf
    obtain ⟨fu, rfl⟩ : ∃ m, fu = m + 1 := ⟨fu - 1, by omega⟩
    have hst := hss 0 st rfl
    rw [Nat.add_zero] at hst
    have hs := hok st List.mem_cons_self
    have hq := isWrong_R (k := k) hI hS ho hs (by omega) hst
    have step : l_X9_begin_59 237 (fu + 1) S (nI k) K1 K2 = if b32 (mWrB st l) = 0 then (g_cVV S 9 237 (f_X9_step S 237 (nI k)) fun S12 => l_X9_begin_59 237 fu S12 (nI k + 1) K1 K2) else K2 S (nI k) := by
      rw [l_X9_begin_59]
      simp only [g_getI, g_cVI, Nat.reduceMul, Nat.reduceAdd, ck9 hR, hc, hq, Option.bind_some]
      rw [if_neg (nI_ge (by omega) (by omega))]
    unfold mFw
    by_cases e : mWrB st l = true
    · rw [e, if_neg (show ¬ b32 true = 0 by decide)] at step
      rw [if_pos e]
      refine ⟨S, RE.refl, fun _ _ _ _ h => h, fun x hx => ?_, fun hx => by cases hx⟩
      cases hx
      exact step
    · have e2 : mWrB st l = false := by simpa using e
      have hw : ¬ mWrong st l := fun q => e (mWrB_iff.mpr q)
      rw [e2, if_pos (show b32 false = 0 by decide)] at step
      rw [if_neg e]
      obtain ⟨S2, c1, c2, c3, c4⟩ := step_R (k := k) hI hS ho hs hw (by omega) hst
      have hI2 := c2.imm hI
      obtain ⟨S1, d1, d2, d3, d4⟩ := ih (k + 1) fu S2 (mStepS st l) (fun i st' hi => by
          have := hss (i + 1) st' hi
          rw [show k + (i + 1) = k + 1 + i by omega] at this
          exact this.e c2 (by decide)) (by rw [c2.fI (by decide), hc]; congr 1; omega) (by omega) (by omega) hI2 c3 (ho.step hs hw) (fun s q => hok s (List.mem_cons_of_mem _ q))
      have st2 : l_X9_begin_59 237 (fu + 1) S (nI k) K1 K2 = l_X9_begin_59 237 fu S2 (nI (k + 1)) K1 K2 := by
        rw [step]
        unfold g_cVV
        rw [ck9 hR, c1, Option.bind_some, add1]
      refine ⟨S1, c2.trans d1, fun j l' hj hl' h' => d2 j l' hj hl' (c4 j l' hj hl' h'), fun x hx => ?_, fun hx => ?_⟩
      · cases hm : mFw ss (mStepS st l) with
        | none => rw [hm] at hx; cases hx
        | some y =>
          rw [hm] at hx
          cases hx
          rw [st2, d3 y hm]
          congr 2
          show k + 1 + y = k + (y + 1)
          omega
      · cases hm : mFw ss (mStepS st l) with
        | some y => rw [hm] at hx; cases hx
        | none =>
          refine ⟨?_, (d4 hm).2⟩
          rw [st2, (d4 hm).1, List.length_cons]
          congr 2
          omega
theorem bcopy_loop {pl : List mStep} {K : gS → Int32 → Option (Int32 × gS)} (hl : pl.length ≤ 6) : ∀ (d fu k : Nat) (S : gS), k + d = pl.length → d < fu → Imm S → gfI S 597 237 = nI pl.length → PlanR S 0 pl → (∀ i st, i < k → pl[i]? = some st → StR S (6 + i) st) → ∃ S1, l_X9_begin_109 237 fu S (nI k) K = K S1 (nI pl.length) ∧ RE [251, 252, 253, 254, 255] [] S S1 ∧ PlanR S1 6 pl := by
  intro d
  induction d with
  | zero =>
    intro fu k S hi hf hI hc hP hlo
    have hR := hI.ref
    obtain ⟨fu, rfl⟩ : ∃ m, fu = m + 1 := ⟨fu - 1, by omega⟩
    have : k = pl.length := by omega
    subst this
    refine ⟨S, ?_, RE.refl, fun i st hi => hlo i st (lt_of_some hi) hi⟩
    rw [l_X9_begin_109]
    simp only [g_getI, Nat.reduceMul, Nat.reduceAdd, ck9 hR, hc]
    rw [if_pos (nI_le (Nat.le_refl _) (by omega))]
  | succ d ih =>
    intro fu k S hi hf hI hc hP hlo
    have hR := hI.ref
    obtain ⟨fu, rfl⟩ : ∃ m, fu = m + 1 := ⟨fu - 1, by omega⟩
    have hil : k < pl.length := by omega
    have e : RE [251, 252, 253, 254, 255] [] S (g_rI (g_rI (g_rI (g_rI (g_rI S 251 (upd (gaI S 251) (6 + k) (gaI S 251 k))) 252 (upd (gaI S 252) (6 + k) (gaI S 252 k))) 253 (upd (gaI S 253) (6 + k) (gaI S 253 k))) 254 (upd (gaI S 254) (6 + k) (gaI S 254 k))) 255 (upd (gaI S 255) (6 + k) (gaI S 255 k))) := ((((RE.rI (by decide)).trans (RE.rI (by decide))).trans (RE.rI (by decide))).trans (RE.rI (by decide))).trans (RE.rI (by decide))
    obtain ⟨S1, a1, a2, a3⟩ := ih fu (k + 1) (g_rI (g_rI (g_rI (g_rI (g_rI S 251 (upd (gaI S 251) (6 + k) (gaI S 251 k))) 252 (upd (gaI S 252) (6 + k) (gaI S 252 k))) 253 (upd (gaI S 253) (6 + k) (gaI S 253 k))) 254 (upd (gaI S 254) (6 + k) (gaI S 254 k))) 255 (upd (gaI S 255) (6 + k) (gaI S 255 k))) (by omega) (by omega) (e.imm hI) (by rw [e.fI (by decide)]; exact hc) (fun i st hist => by
        have := lt_of_some hist
        simp only [q_pI_fI, q_pI_fL, q_pI_fR, q_pI_aI, q_pI_aL, q_pI_aR, q_pI_K, q_pI_ln, q_pI_n, q_pI_sl, q_pI_is, q_pI_ck, q_pL_fI, q_pL_fL, q_pL_fR, q_pL_aI, q_pL_aL, q_pL_aR, q_pL_K, q_pL_ln, q_pL_n, q_pL_sl, q_pL_is, q_pL_ck, q_pR_fI, q_pR_fL, q_pR_fR, q_pR_aI, q_pR_aL, q_pR_aR, q_pR_K, q_pR_ln, q_pR_n, q_pR_sl, q_pR_is, q_pR_ck, q_rI_fI, q_rI_fL, q_rI_fR, q_rI_aI, q_rI_aL, q_rI_aR, q_rI_K, q_rI_ln, q_rI_n, q_rI_sl, q_rI_is, q_rI_ck, q_rL_fI, q_rL_fL, q_rL_fR, q_rL_aI, q_rL_aL, q_rL_aR, q_rL_K, q_rL_ln, q_rL_n, q_rL_sl, q_rL_is, q_rL_ck, q_rR_fI, q_rR_fL, q_rR_fR, q_rR_aI, q_rR_aL, q_rR_aR, q_rR_K, q_rR_ln, q_rR_n, q_rR_sl, q_rR_is, q_rR_ck, g_row, Nat.reduceEqDiff, reduceIte]
        rw [pk_un (by omega), pk_un (by omega), pk_un (by omega), pk_un (by omega), pk_un (by omega)]
        exact hP i st hist) (fun i st hik hist => by
        unfold StR
        simp only [q_pI_fI, q_pI_fL, q_pI_fR, q_pI_aI, q_pI_aL, q_pI_aR, q_pI_K, q_pI_ln, q_pI_n, q_pI_sl, q_pI_is, q_pI_ck, q_pL_fI, q_pL_fL, q_pL_fR, q_pL_aI, q_pL_aL, q_pL_aR, q_pL_K, q_pL_ln, q_pL_n, q_pL_sl, q_pL_is, q_pL_ck, q_pR_fI, q_pR_fL, q_pR_fR, q_pR_aI, q_pR_aL, q_pR_aR, q_pR_K, q_pR_ln, q_pR_n, q_pR_sl, q_pR_is, q_pR_ck, q_rI_fI, q_rI_fL, q_rI_fR, q_rI_aI, q_rI_aL, q_rI_aR, q_rI_K, q_rI_ln, q_rI_n, q_rI_sl, q_rI_is, q_rI_ck, q_rL_fI, q_rL_fL, q_rL_fR, q_rL_aI, q_rL_aL, q_rL_aR, q_rL_K, q_rL_ln, q_rL_n, q_rL_sl, q_rL_is, q_rL_ck, q_rR_fI, q_rR_fL, q_rR_fR, q_rR_aI, q_rR_aL, q_rR_aR, q_rR_K, q_rR_ln, q_rR_n, q_rR_sl, q_rR_is, q_rR_ck, g_row, Nat.reduceEqDiff, reduceIte]
        by_cases q : i = k
        · subst q
          rw [pk_us, pk_us, pk_us, pk_us, pk_us]
          have := hP i st hist
          rw [Nat.zero_add] at this
          exact this
        · rw [pk_un (by omega), pk_un (by omega), pk_un (by omega), pk_un (by omega), pk_un (by omega)]
          exact hlo i st (by omega) hist)
    refine ⟨S1, ?_, e.trans a2, a3⟩
    rw [← a1, l_X9_begin_109]
    simp only [g_getI, g_getL, g_getR, g_putI, g_putZ, g_putL, g_putR, g_ldI, g_ldL, g_ldR, g_stI, g_stZ, g_stL, g_stR, g_alen, g_ldX, g_cVI, g_cVL, g_cVR, g_cVV, g_cI, g_cL, g_cN, g_lt, g_jn, g_cpI, g_cpL, g_z, Nat.reduceMul, Nat.reduceAdd, Option.bind_some, or_true, true_or, if_true, q_pI_fI, q_pI_fL, q_pI_fR, q_pI_aI, q_pI_aL, q_pI_aR, q_pI_K, q_pI_ln, q_pI_n, q_pI_sl, q_pI_is, q_pI_ck, q_pL_fI, q_pL_fL, q_pL_fR, q_pL_aI, q_pL_aL, q_pL_aR, q_pL_K, q_pL_ln, q_pL_n, q_pL_sl, q_pL_is, q_pL_ck, q_pR_fI, q_pR_fL, q_pR_fR, q_pR_aI, q_pR_aL, q_pR_aR, q_pR_K, q_pR_ln, q_pR_n, q_pR_sl, q_pR_is, q_pR_ck, q_rI_fI, q_rI_fL, q_rI_fR, q_rI_aI, q_rI_aL, q_rI_aR, q_rI_K, q_rI_ln, q_rI_n, q_rI_sl, q_rI_is, q_rI_ck, q_rL_fI, q_rL_fL, q_rL_fR, q_rL_aI, q_rL_aL, q_rL_aR, q_rL_K, q_rL_ln, q_rL_n, q_rL_sl, q_rL_is, q_rL_ck, q_rR_fI, q_rR_fL, q_rR_fR, q_rR_aI, q_rR_aL, q_rR_aR, q_rR_K, q_rR_ln, q_rR_n, q_rR_sl, q_rR_is, q_rR_ck, ck9 hR, hc, rf_whats hR, g_ck_t (ri_whats hR), rl_whats hR, rf_stepNames hR, g_ck_t (ri_stepNames hR), rl_stepNames hR, rf_others hR, g_ck_t (ri_others hR), rl_others hR, rf_as hR, g_ck_t (ri_as hR), rl_as hR, rf_bs hR, g_ck_t (ri_bs hR), rl_bs hR, g_row, Nat.reduceEqDiff, reduceIte]
    rw [if_neg (nI_ge (by omega) (by omega)), show (6 : Int32) = nI 6 from rfl, nI_add, add1]
    simp (disch := omega) only [g_ix_t, nI_clamp]
theorem COp.of_eq {S : gS} {lo hi : Nat} {o o' : Option (Int32 × gS)} {a : Int32} {P : gS → Prop} (z : o = o') (c : COp S lo hi o' a P) : COp S lo hi o a P := by rw [z]; exact c
theorem begin_R {S : gS} {m : mS} (h : RR S m) (k : mOk m) : COp S 237 265 (f_X9_begin S 237) (mBegin m).1 (fun S1 => RR S1 (mBegin m).2) := by
  obtain ⟨hI, hD⟩ := h.dk
  have kd := k.dk
  have a3 : RF 605 610 S (g_pI S 606 237 0) := RF.pI (by decide) (by decide)
  have a4 : DiskR (g_pI S 606 237 0) (mStart m.1) := by
    obtain ⟨d1, d2, d3, d4, d5⟩ := hD
    simp [DiskR, q_pI_fI, q_pI_fL, q_pI_fR, q_pI_aI, q_pI_aL, q_pI_aR, q_pI_K, q_pI_ln, q_pI_n, q_pI_sl, q_pI_is, q_pI_ck, q_pL_fI, q_pL_fL, q_pL_fR, q_pL_aI, q_pL_aL, q_pL_aR, q_pL_K, q_pL_ln, q_pL_n, q_pL_sl, q_pL_is, q_pL_ck, q_pR_fI, q_pR_fL, q_pR_fR, q_pR_aI, q_pR_aL, q_pR_aR, q_pR_K, q_pR_ln, q_pR_n, q_pR_sl, q_pR_is, q_pR_ck, q_rI_fI, q_rI_fL, q_rI_fR, q_rI_aI, q_rI_aL, q_rI_aR, q_rI_K, q_rI_ln, q_rI_n, q_rI_sl, q_rI_is, q_rI_ck, q_rL_fI, q_rL_fL, q_rL_fR, q_rL_aI, q_rL_aL, q_rL_aR, q_rL_K, q_rL_ln, q_rL_n, q_rL_sl, q_rL_is, q_rL_ck, q_rR_fI, q_rR_fL, q_rR_fR, q_rR_aI, q_rR_aL, q_rR_aR, q_rR_K, q_rR_ln, q_rR_n, q_rR_sl, q_rR_is, q_rR_ck, g_up, d1, d2, d3, d4, mStart]
  have h1 := h.disk a3 a4
  have ks := mStart_ok kd
  have kk := k.disk ks
  unfold f_X9_begin
  simp only [g_putI, g_getI, g_cVI, Nat.reduceMul, Nat.reduceAdd, ck9 hI.ref]
  generalize g_pI S 606 237 0 = S1 at a3 a4 h1 ⊢
  have hI1 := a3.imm hI
  have hR1 := hI1.ref
  have g0 := h1
  obtain ⟨dk, vr, pl, mg, sc, nx, dr, sn, tb⟩ := m
  obtain ⟨-, h2, h3, h4, h5, h6, h7, h8, h9, h10⟩ := h1
  obtain ⟨k1, k2, k3, k4, k5, k6, k7, k8⟩ := kk
  have kl := k2.1
  have fail : ∀ c : Int32, COp S 237 265 (some (c, S1)) c (fun S1 => RR S1 (wDk (dk, vr, pl, mg, sc, nx, dr, sn, tb) (mStart dk))) := fun c => ⟨S1, rfl, hI1, a3.fr, g0⟩
  unfold mBegin
  simp only [ck9 hR1, h2.1, h4, b01, h5.1, h3]
  show COp S 237 265 (if dk.1 = 0 then _ else _) _ _
  by_cases e1 : dk.1 = 0
  · simp only [if_pos e1]
    by_cases e2 : vr.2 = true
    · simp only [if_pos e2]
      exact fail (-2)
    · simp only [if_neg e2]
      have run : vr.2 = false := by simpa using e2
      by_cases e3 : pl.length = 0
      · simp only [if_pos e3]
        rw [if_pos (show nI pl.length = 0 by rw [e3]; rfl)]
        exact fail (-2)
      · simp only [if_neg e3]
        rw [if_neg (show ¬ nI pl.length = 0 from nI_ne0 (by omega) (by omega))]
        rw [run] at h9
        rw [shadowed_R h9 hI1 k5, Option.bind_some]
        dsimp only
        have hcs := cntSh_le tb
        by_cases e4 : cntSh tb = 0
        · simp only [if_pos e4]
          rw [if_pos (show nI (cntSh tb) ≤ 0 by rw [e4]; decide), ck9 hR1, h3]
          by_cases e5 : vr.1 = 30
          · simp only [if_pos e5]
            exact fail (-4)
          · simp only [if_neg e5]
            obtain ⟨S2, b1, b2, b3, b4⟩ := copySchema_R (S := S1) (a := 0) (b := 2) hI1 (by decide) (by decide) (by decide)
            have hI2 := b2.imm hI1
            rw [show ∀ F, g_cVV S1 9 237 (f_X9_copySchema S1 237 0 2) F = (F S2 : Option (Int32 × gS)) from fun F => by unfold g_cVV; rw [ck9 hR1, show (0 : Int32) = nI 0 from rfl, show (2 : Int32) = nI 2 from rfl, b1, Option.bind_some]]
            obtain ⟨S3, c1, c2, c3, c4⟩ := bwrong_loop (K1 := fun S13 v14 => (
g_cVI S13 9 237 (f_X9_act S13 237) fun x16 S15 =>
if x16 = 0 then (
some ((-9 : Int32), S15))
else (
g_cVV S15 9 237 (f_X9_copySchema S15 237 (2 : Int32) (1 : Int32)) fun S17 =>
l_X9_begin_109 237 100 S17 (0 : Int32) (fun S39 v40 => (
g_getI S39 9 21 237 fun x41 =>
g_putI S39 9 22 237 x41 fun S42 =>
g_putI S42 9 21 237 (0 : Int32) fun S43 =>
g_putZ S43 9 15 237 (1 : Int32) fun S44 =>
l_X9_begin_218 237 100 S44 (0 : Int32) (fun S64 v65 => (
g_getR S64 9 13 237 fun a66 =>
g_ldI S64 10 a66 (1 : Int32) fun x67 =>
some (x67, S64)))))))) (K2 := fun S68 v69 => some (((-10 : Int32) - v69), S68)) pl 0 100 S2 sc (fun i st hi => (show StR S1 (0 + i) st from h5.2 i st hi).e b2 (by decide)) (by rw [b2.fI (by decide), h5.1, Nat.zero_add]) (by omega) (by omega) hI2 (b3 sc k3.1 h6) k3 k2.2
            have e : RE [248, 249, 250] [] S1 S3 := b2.trans c1
            have hI3 := e.imm hI1
            have ws3 : ∀ k, SlotEq S1 S3 k := fun k => e.slot (by decide) (by decide) (by decide)
            have hsc : SchR S3 0 sc := c2 0 sc (by decide) k3.1 (b4 0 sc (by decide) (by decide) k3.1 h6)
            have g3 : RR S3 (mStart dk, vr, pl, mg, sc, nx, dr, sn, tb) := ⟨hI3, h2.e e (by decide), (e.fI (by decide)).trans h3, (e.fI (by decide)).trans h4, ⟨(e.fI (by decide)).trans h5.1, h5.2.e e (by decide)⟩, hsc, h7.e e (by decide), h8.e e (by decide) (by decide) k8 (fun k _ _ => ws3 k), by rw [run]; exact h9.e e (by decide) (by decide) k3.1 (fun q => by cases q) (fun k _ => ws3 k), fun q => absurd q e2⟩
            have F3 : Fr 237 265 S S3 := a3.fr.trans (e.fr (by decide))
            cases hq : mFw pl sc with
            | some x =>
              have hx := c3 x hq
              have hx0 := mFw_lt _ _ _ hq
              refine ⟨S3, ?_, hI3, F3, g3⟩
              rw [Nat.zero_add] at hx
              exact hx
            | none =>
              obtain ⟨hx, hs2⟩ := c4 hq
              have hgo := mFw_none _ _ hq
              have hno := mSchs_ok pl sc k3 k2.2 hgo
              obtain ⟨S4, d1, d3, d4⟩ := act_R hI3 ks g3.2.1
              have g4 : RR S4 ((mAct (mStart dk)).2, vr, pl, mg, sc, nx, dr, sn, tb) := g3.disk (d3.mono (by decide) (by decide)) d4
              have hI4 : Imm S4 := g4.1
              have F4 : Fr 237 265 S S4 := F3.trans (d3.mono (by decide) (by decide) : RF 605 610 S3 S4).fr
              have kA : mOk ((mAct (mStart dk)).2, vr, pl, mg, sc, nx, dr, sn, tb) := (show mOk (mStart dk, vr, pl, mg, sc, nx, dr, sn, tb) from ⟨k1, k2, k3, k4, k5, k6, k7, k8⟩).disk (mAct_ok ks)
              have hs4 : SchR S4 2 (mSchs sc pl) := hs2.e (RE.rf (A := []) (F := [605, 606, 607, 608, 609]) d3 (fun f q1 q2 => by
                have : f = 605 ∨ f = 606 ∨ f = 607 ∨ f = 608 := by omega
                rcases this with rfl | rfl | rfl | rfl <;> decide)) (by decide)
              refine COp.of_eq hx ?_
              simp only [g_cVI, ck9 hI3.ref, d1, Option.bind_some]
              by_cases e6 : (mAct (mStart dk)).1 = true
              · simp only [if_pos e6]
                rw [if_neg (show ¬ b32 (mAct (mStart dk)).1 = 0 by rw [e6]; decide)]
                refine COp.pre (S1 := S4) F4 ?_
                clear F4 F3 hx hs2 c3 c4 g3 d1 d3 d4 fail a3 a4 g0
                generalize (mAct (mStart dk)).2 = dk2 at g4 kA
                obtain ⟨-, h2, h3, h4, h5, h6, h7, h8, h9, h10⟩ := g4
                obtain ⟨k1, k2, k3, k4, k5, k6, k7, k8⟩ := kA
                obtain ⟨S5, f1, f2, f3, f4⟩ := copySchema_R (S := S4) (a := 2) (b := 1) hI4 (by decide) (by decide) (by decide)
                have hI5 := f2.imm hI4
                rw [show ∀ F, g_cVV S4 9 237 (f_X9_copySchema S4 237 2 1) F = (F S5 : Option (Int32 × gS)) from fun F => by unfold g_cVV; rw [ck9 hI4.ref, show (1 : Int32) = nI 1 from rfl, show (2 : Int32) = nI 2 from rfl, f1, Option.bind_some]]
                have n5 : SchR S5 1 (mSchs sc pl) := f3 _ hno.1 hs4
                have s5 : SchR S5 0 sc := f4 0 sc (by decide) (by decide) k3.1 h6
                obtain ⟨S6, j1, j2, j3⟩ := bcopy_loop (K := fun S39 v40 => (
g_getI S39 9 21 237 fun x41 =>
g_putI S39 9 22 237 x41 fun S42 =>
g_putI S42 9 21 237 (0 : Int32) fun S43 =>
g_putZ S43 9 15 237 (1 : Int32) fun S44 =>
l_X9_begin_218 237 100 S44 (0 : Int32) (fun S64 v65 => (
g_getR S64 9 13 237 fun a66 =>
g_ldI S64 10 a66 (1 : Int32) fun x67 =>
some (x67, S64))))) k2.1 pl.length 100 0 S5 (by omega) (by omega) hI5 (by rw [f2.fI (by decide)]; exact h5.1) (h5.2.e f2 (by decide)) (fun i st hi => by omega)
                have hI6 := j2.imm hI5
                have c597 : gfI S6 597 237 = nI pl.length := by rw [j2.fI (by decide), f2.fI (by decide)]; exact h5.1
                refine COp.of_eq j1 ?_
                simp only [g_getI, g_putI, g_putZ, g_z, q_pI_fI, q_pI_fL, q_pI_fR, q_pI_aI, q_pI_aL, q_pI_aR, q_pI_K, q_pI_ln, q_pI_n, q_pI_sl, q_pI_is, q_pI_ck, q_pL_fI, q_pL_fL, q_pL_fR, q_pL_aI, q_pL_aL, q_pL_aR, q_pL_K, q_pL_ln, q_pL_n, q_pL_sl, q_pL_is, q_pL_ck, q_pR_fI, q_pR_fL, q_pR_fR, q_pR_aI, q_pR_aL, q_pR_aR, q_pR_K, q_pR_ln, q_pR_n, q_pR_sl, q_pR_is, q_pR_ck, q_rI_fI, q_rI_fL, q_rI_fR, q_rI_aI, q_rI_aL, q_rI_aR, q_rI_K, q_rI_ln, q_rI_n, q_rI_sl, q_rI_is, q_rI_ck, q_rL_fI, q_rL_fL, q_rL_fR, q_rL_aI, q_rL_aL, q_rL_aR, q_rL_K, q_rL_ln, q_rL_n, q_rL_sl, q_rL_is, q_rL_ck, q_rR_fI, q_rR_fL, q_rR_fR, q_rR_aI, q_rR_aL, q_rR_aR, q_rR_K, q_rR_ln, q_rR_n, q_rR_sl, q_rR_is, q_rR_ck, Nat.reduceMul, Nat.reduceAdd, ck9 hI6.ref, c597]
                rw [if_pos (Or.inr trivial)]
                have e7 : RE [] [591, 597, 598] S6 (g_pI (g_pI (g_pI S6 598 237 (nI pl.length)) 597 237 0) 591 237 1) := ((RE.pI (by decide)).trans (RE.pI (by decide))).trans (RE.pI (by decide))
                have v598 : gfI (g_pI (g_pI (g_pI S6 598 237 (nI pl.length)) 597 237 0) 591 237 1) 598 237 = nI pl.length := by
                  simp only [q_pI_fI, q_pI_fL, q_pI_fR, q_pI_aI, q_pI_aL, q_pI_aR, q_pI_K, q_pI_ln, q_pI_n, q_pI_sl, q_pI_is, q_pI_ck, q_pL_fI, q_pL_fL, q_pL_fR, q_pL_aI, q_pL_aL, q_pL_aR, q_pL_K, q_pL_ln, q_pL_n, q_pL_sl, q_pL_is, q_pL_ck, q_pR_fI, q_pR_fL, q_pR_fR, q_pR_aI, q_pR_aL, q_pR_aR, q_pR_K, q_pR_ln, q_pR_n, q_pR_sl, q_pR_is, q_pR_ck, q_rI_fI, q_rI_fL, q_rI_fR, q_rI_aI, q_rI_aL, q_rI_aR, q_rI_K, q_rI_ln, q_rI_n, q_rI_sl, q_rI_is, q_rI_ck, q_rL_fI, q_rL_fL, q_rL_fR, q_rL_aI, q_rL_aL, q_rL_aR, q_rL_K, q_rL_ln, q_rL_n, q_rL_sl, q_rL_is, q_rL_ck, q_rR_fI, q_rR_fL, q_rR_fR, q_rR_aI, q_rR_aL, q_rR_aR, q_rR_K, q_rR_ln, q_rR_n, q_rR_sl, q_rR_is, q_rR_ck]; rw [g_up_f (by decide), g_up_f (by decide), g_up_s]
                have v597 : gfI (g_pI (g_pI (g_pI S6 598 237 (nI pl.length)) 597 237 0) 591 237 1) 597 237 = 0 := by
                  simp only [q_pI_fI, q_pI_fL, q_pI_fR, q_pI_aI, q_pI_aL, q_pI_aR, q_pI_K, q_pI_ln, q_pI_n, q_pI_sl, q_pI_is, q_pI_ck, q_pL_fI, q_pL_fL, q_pL_fR, q_pL_aI, q_pL_aL, q_pL_aR, q_pL_K, q_pL_ln, q_pL_n, q_pL_sl, q_pL_is, q_pL_ck, q_pR_fI, q_pR_fL, q_pR_fR, q_pR_aI, q_pR_aL, q_pR_aR, q_pR_K, q_pR_ln, q_pR_n, q_pR_sl, q_pR_is, q_pR_ck, q_rI_fI, q_rI_fL, q_rI_fR, q_rI_aI, q_rI_aL, q_rI_aR, q_rI_K, q_rI_ln, q_rI_n, q_rI_sl, q_rI_is, q_rI_ck, q_rL_fI, q_rL_fL, q_rL_fR, q_rL_aI, q_rL_aL, q_rL_aR, q_rL_K, q_rL_ln, q_rL_n, q_rL_sl, q_rL_is, q_rL_ck, q_rR_fI, q_rR_fL, q_rR_fR, q_rR_aI, q_rR_aL, q_rR_aR, q_rR_K, q_rR_ln, q_rR_n, q_rR_sl, q_rR_is, q_rR_ck]; rw [g_up_f (by decide), g_up_s]
                have v591 : gfI (g_pI (g_pI (g_pI S6 598 237 (nI pl.length)) 597 237 0) 591 237 1) 591 237 = 1 := by
                  simp only [q_pI_fI, q_pI_fL, q_pI_fR, q_pI_aI, q_pI_aL, q_pI_aR, q_pI_K, q_pI_ln, q_pI_n, q_pI_sl, q_pI_is, q_pI_ck, q_pL_fI, q_pL_fL, q_pL_fR, q_pL_aI, q_pL_aL, q_pL_aR, q_pL_K, q_pL_ln, q_pL_n, q_pL_sl, q_pL_is, q_pL_ck, q_pR_fI, q_pR_fL, q_pR_fR, q_pR_aI, q_pR_aL, q_pR_aR, q_pR_K, q_pR_ln, q_pR_n, q_pR_sl, q_pR_is, q_pR_ck, q_rI_fI, q_rI_fL, q_rI_fR, q_rI_aI, q_rI_aL, q_rI_aR, q_rI_K, q_rI_ln, q_rI_n, q_rI_sl, q_rI_is, q_rI_ck, q_rL_fI, q_rL_fL, q_rL_fR, q_rL_aI, q_rL_aL, q_rL_aR, q_rL_K, q_rL_ln, q_rL_n, q_rL_sl, q_rL_is, q_rL_ck, q_rR_fI, q_rR_fL, q_rR_fR, q_rR_aI, q_rR_aL, q_rR_aR, q_rR_K, q_rR_ln, q_rR_n, q_rR_sl, q_rR_is, q_rR_ck]; rw [g_up_s]
                generalize g_pI (g_pI (g_pI S6 598 237 (nI pl.length)) 597 237 0) 591 237 1 = S7 at e7 v598 v597 v591 ⊢
                have hI7 := e7.imm hI6
                have e47 : RE [248, 249, 250, 251, 252, 253, 254, 255] [591, 597, 598] S4 S7 := ((f2.mono (by decide) (by decide)).trans (j2.mono (by decide) (by decide))).trans (e7.mono (by decide) (by decide))
                have n7 : SchR S7 1 (mSchs sc pl) := (n5.e j2 (by decide)).e e7 (by decide)
                have s7 : SchR S7 0 sc := (s5.e j2 (by decide)).e e7 (by decide)
                have p7 : PlanR S7 6 pl := j3.e e7 (by decide)
                have ws7 : ∀ k, SlotEq S4 S7 k := fun k => e47.slot (by decide) (by decide) (by decide)
                rw [run] at h9 k6
                have h9' : TableR S7 tb sc nx false := h9.e e47 (by decide) (by decide) k3.1 (fun q => by cases q) (fun k _ => ws7 k)
                obtain ⟨t1, t2, ⟨t3, t4⟩, t5⟩ := h9'
                obtain ⟨S8, o1, o0, o2, o3, o4⟩ := rrows_loop (tb := tb) (sc := sc) (nx := nx) (sc2 := sc) (nx2 := mSchs sc pl) (run := false) (run2 := true) (g := gBeg pl sc) (AA := [238, 239, 240, 241, 244, 245, 246, 248, 249, 250]) (FF := []) (Amb := fun S => SchR S 0 sc ∧ SchR S 1 (mSchs sc pl) ∧ PlanR S 6 pl ∧ gfI S 598 237 = nI pl.length) (loop := fun fu S i => l_X9_begin_218 237 fu S i (fun S64 _ => g_getR S64 9 13 237 fun a66 => g_ldI S64 10 a66 (1 : Int32) fun x67 => some (x67, S64))) (K := fun S64 _ => g_getR S64 9 13 237 fun a66 => g_ldI S64 10 a66 (1 : Int32) fun x67 => some (x67, S64)) k5 k3.1 (fun q => by cases q) k3.1 (fun _ => hno.1) (by decide) (by decide) (fun S i r s hI hA hc hi hir hs hsi hB hrow => by
                    have hR := hI.ref
                    obtain ⟨q1, q2, q3, q4⟩ := hA
                    obtain ⟨r1, ⟨s', r2, r3, r4, r5, r6⟩, r7⟩ := hrow
                    have : s' = s := by
                      rw [hsi] at r3
                      exact ((nI_eq (by omega) (by omega)).mp r3).symm
                    subst this
                    rw [if_neg (by decide)] at r7
                    obtain ⟨S2, b1, b2, b3, b4, b5⟩ := up_R (S := S) (a := 16 * s') (b := 16 * s' + 8) hI (by omega) (by omega) (by omega) q3 q4 k2 q1 k3 hgo r5
                    have hI2 := b2.imm hI
                    have hR2 := hI2.ref
                    have h244 : gaI S2 244 i = r.2.1 := by rw [b2.aI (by decide)]; exact r7
                    generalize hx : (if r.2.1 = 1 then (1 : Int32) else 0) = x
                    have e3 : RE [244, 245, 246] [] S2 (g_rI (g_rI (g_rI S2 245 (upd (gaI S2 245) i 1)) 246 (upd (gaI S2 246) i x)) 244 (upd (gaI S2 244) i 0)) := ((RE.rI (by decide)).trans (RE.rI (by decide))).trans (RE.rI (by decide))
                    have e : RE [238, 239, 240, 241, 244, 245, 246, 248, 249, 250] [] S (g_rI (g_rI (g_rI S2 245 (upd (gaI S2 245) i 1)) 246 (upd (gaI S2 246) i x)) 244 (upd (gaI S2 244) i 0)) := (b2.mono (by decide) (by decide)).trans (e3.mono (by decide) (by decide))
                    have sl : ∀ k, SlotEq S2 (g_rI (g_rI (g_rI S2 245 (upd (gaI S2 245) i 1)) 246 (upd (gaI S2 246) i x)) 244 (upd (gaI S2 244) i 0)) k := fun k => e3.slot (by decide) (by decide) (by decide)
                    have hx01 : x = 0 ∨ x = 1 := by
                      rw [← hx]
                      by_cases q : r.2.1 = 1
                      · rw [if_pos q]; exact Or.inr rfl
                      · rw [if_neg q]; exact Or.inl rfl
                    refine ⟨g_rI (g_rI (g_rI S2 245 (upd (gaI S2 245) i 1)) 246 (upd (gaI S2 246) i x)) 244 (upd (gaI S2 244) i 0), fun fu => ?_, ⟨(b5 0 sc (by decide) k3.1 q1).e e3 (by decide), (b5 1 _ (by decide) hno.1 q2).e e3 (by decide), q3.e e (by decide), (e.fI (by decide)).trans q4⟩, e, ?_, ?_, ?_, ?_⟩
                    · show l_X9_begin_218 237 (fu + 1) S (nI i) _ = _
                      rw [l_X9_begin_218]
                      simp only [g_getI, g_cVI, Nat.reduceMul, Nat.reduceAdd, ck9 hR, hc]
                      rw [if_neg (nI_ge hi (by omega)), show (0 : Int32) = nI 0 from rfl, form_R hI (by omega) hsi, Option.bind_some]
                      dsimp only
                      rw [ck9 hR, show (1 : Int32) = nI 1 from rfl, form_R hI (by omega) hsi, Option.bind_some]
                      dsimp only
                      rw [show 16 * s' + 8 * 1 = 16 * s' + 8 from rfl, show 16 * s' + 8 * 0 = 16 * s' from rfl]
                      rw [show ∀ F, g_cVV S 9 237 (f_X9_up S 237 (nI (16 * s')) (nI (16 * s' + 8))) F = (F S2 : Option (Int32 × gS)) from fun F => by unfold g_cVV; rw [ck9 hR, b1, Option.bind_some]]
                      simp only [g_getR, g_stZ, g_z, g_stI, g_ldI, g_jn, or_true, true_or, if_true, q_pI_fI, q_pI_fL, q_pI_fR, q_pI_aI, q_pI_aL, q_pI_aR, q_pI_K, q_pI_ln, q_pI_n, q_pI_sl, q_pI_is, q_pI_ck, q_pL_fI, q_pL_fL, q_pL_fR, q_pL_aI, q_pL_aL, q_pL_aR, q_pL_K, q_pL_ln, q_pL_n, q_pL_sl, q_pL_is, q_pL_ck, q_pR_fI, q_pR_fL, q_pR_fR, q_pR_aI, q_pR_aL, q_pR_aR, q_pR_K, q_pR_ln, q_pR_n, q_pR_sl, q_pR_is, q_pR_ck, q_rI_fI, q_rI_fL, q_rI_fR, q_rI_aI, q_rI_aL, q_rI_aR, q_rI_K, q_rI_ln, q_rI_n, q_rI_sl, q_rI_is, q_rI_ck, q_rL_fI, q_rL_fL, q_rL_fR, q_rL_aI, q_rL_aL, q_rL_aR, q_rL_K, q_rL_ln, q_rL_n, q_rL_sl, q_rL_is, q_rL_ck, q_rR_fI, q_rR_fL, q_rR_fR, q_rR_aI, q_rR_aL, q_rR_aR, q_rR_K, q_rR_ln, q_rR_n, q_rR_sl, q_rR_is, q_rR_ck, Nat.reduceMul, Nat.reduceAdd, Option.bind_some, ck9 hR2, rf_lags hR2, g_ck_t (ri_lags hR2), rl_lags hR2, rf_wasBehind hR2, g_ck_t (ri_wasBehind hR2), rl_wasBehind hR2, rf_sorts hR2, g_ck_t (ri_sorts hR2), rl_sorts hR2, g_row, Nat.reduceEqDiff, reduceIte]
                      rw [g_ix_t (by omega) (by decide), nI_clamp (by omega), g_ix_t (by omega) (by decide), h244, g_ix_t (by omega) (by decide), g_ix_t (by omega) (by decide), g_ix_t (by omega) (by decide), g_ix_t (by omega) (by decide), nI_add]
                      by_cases q : r.2.1 = 1
                      · rw [if_pos q] at hx
                        rw [if_pos (show nI 1 = 0 ∨ nI 1 = 1 from Or.inr rfl), if_pos (show r.2.1 = nI 1 from q), if_pos (show nI 1 = 0 ∨ nI 1 = 1 from Or.inr rfl), ← hx]
                        rfl
                      · rw [if_neg q] at hx
                        rw [if_pos (show nI 1 = 0 ∨ nI 1 = 1 from Or.inr rfl), if_neg (show ¬ r.2.1 = nI 1 from q), if_pos (show nI 0 = 0 ∨ nI 0 = 1 from Or.inl rfl), ← hx]
                        rfl
                    · intro x hx j hj
                      have : x = 244 ∨ x = 245 ∨ x = 246 := by simpa using hx
                      rcases this with rfl | rfl | rfl
                      · simp only [q_pI_fI, q_pI_fL, q_pI_fR, q_pI_aI, q_pI_aL, q_pI_aR, q_pI_K, q_pI_ln, q_pI_n, q_pI_sl, q_pI_is, q_pI_ck, q_pL_fI, q_pL_fL, q_pL_fR, q_pL_aI, q_pL_aL, q_pL_aR, q_pL_K, q_pL_ln, q_pL_n, q_pL_sl, q_pL_is, q_pL_ck, q_pR_fI, q_pR_fL, q_pR_fR, q_pR_aI, q_pR_aL, q_pR_aR, q_pR_K, q_pR_ln, q_pR_n, q_pR_sl, q_pR_is, q_pR_ck, q_rI_fI, q_rI_fL, q_rI_fR, q_rI_aI, q_rI_aL, q_rI_aR, q_rI_K, q_rI_ln, q_rI_n, q_rI_sl, q_rI_is, q_rI_ck, q_rL_fI, q_rL_fL, q_rL_fR, q_rL_aI, q_rL_aL, q_rL_aR, q_rL_K, q_rL_ln, q_rL_n, q_rL_sl, q_rL_is, q_rL_ck, q_rR_fI, q_rR_fL, q_rR_fR, q_rR_aI, q_rR_aL, q_rR_aR, q_rR_K, q_rR_ln, q_rR_n, q_rR_sl, q_rR_is, q_rR_ck, g_row, Nat.reduceEqDiff, reduceIte]; rw [pk_un hj, b2.aI (by decide)]
                      · simp only [q_pI_fI, q_pI_fL, q_pI_fR, q_pI_aI, q_pI_aL, q_pI_aR, q_pI_K, q_pI_ln, q_pI_n, q_pI_sl, q_pI_is, q_pI_ck, q_pL_fI, q_pL_fL, q_pL_fR, q_pL_aI, q_pL_aL, q_pL_aR, q_pL_K, q_pL_ln, q_pL_n, q_pL_sl, q_pL_is, q_pL_ck, q_pR_fI, q_pR_fL, q_pR_fR, q_pR_aI, q_pR_aL, q_pR_aR, q_pR_K, q_pR_ln, q_pR_n, q_pR_sl, q_pR_is, q_pR_ck, q_rI_fI, q_rI_fL, q_rI_fR, q_rI_aI, q_rI_aL, q_rI_aR, q_rI_K, q_rI_ln, q_rI_n, q_rI_sl, q_rI_is, q_rI_ck, q_rL_fI, q_rL_fL, q_rL_fR, q_rL_aI, q_rL_aL, q_rL_aR, q_rL_K, q_rL_ln, q_rL_n, q_rL_sl, q_rL_is, q_rL_ck, q_rR_fI, q_rR_fL, q_rR_fR, q_rR_aI, q_rR_aL, q_rR_aR, q_rR_K, q_rR_ln, q_rR_n, q_rR_sl, q_rR_is, q_rR_ck, g_row, Nat.reduceEqDiff, reduceIte]; rw [pk_un hj, b2.aI (by decide)]
                      · simp only [q_pI_fI, q_pI_fL, q_pI_fR, q_pI_aI, q_pI_aL, q_pI_aR, q_pI_K, q_pI_ln, q_pI_n, q_pI_sl, q_pI_is, q_pI_ck, q_pL_fI, q_pL_fL, q_pL_fR, q_pL_aI, q_pL_aL, q_pL_aR, q_pL_K, q_pL_ln, q_pL_n, q_pL_sl, q_pL_is, q_pL_ck, q_pR_fI, q_pR_fL, q_pR_fR, q_pR_aI, q_pR_aL, q_pR_aR, q_pR_K, q_pR_ln, q_pR_n, q_pR_sl, q_pR_is, q_pR_ck, q_rI_fI, q_rI_fL, q_rI_fR, q_rI_aI, q_rI_aL, q_rI_aR, q_rI_K, q_rI_ln, q_rI_n, q_rI_sl, q_rI_is, q_rI_ck, q_rL_fI, q_rL_fL, q_rL_fR, q_rL_aI, q_rL_aL, q_rL_aR, q_rL_K, q_rL_ln, q_rL_n, q_rL_sl, q_rL_is, q_rL_ck, q_rR_fI, q_rR_fL, q_rR_fR, q_rR_aI, q_rR_aL, q_rR_aR, q_rR_K, q_rR_ln, q_rR_n, q_rR_sl, q_rR_is, q_rR_ck, g_row, Nat.reduceEqDiff, reduceIte]; rw [pk_un hj, b2.aI (by decide)]
                    · exact fun k hk _ => (b3 k (by omega)).trans (sl k)
                    · intro j
                      simp only [q_pI_fI, q_pI_fL, q_pI_fR, q_pI_aI, q_pI_aL, q_pI_aR, q_pI_K, q_pI_ln, q_pI_n, q_pI_sl, q_pI_is, q_pI_ck, q_pL_fI, q_pL_fL, q_pL_fR, q_pL_aI, q_pL_aL, q_pL_aR, q_pL_K, q_pL_ln, q_pL_n, q_pL_sl, q_pL_is, q_pL_ck, q_pR_fI, q_pR_fL, q_pR_fR, q_pR_aI, q_pR_aL, q_pR_aR, q_pR_K, q_pR_ln, q_pR_n, q_pR_sl, q_pR_is, q_pR_ck, q_rI_fI, q_rI_fL, q_rI_fR, q_rI_aI, q_rI_aL, q_rI_aR, q_rI_K, q_rI_ln, q_rI_n, q_rI_sl, q_rI_is, q_rI_ck, q_rL_fI, q_rL_fL, q_rL_fR, q_rL_aI, q_rL_aL, q_rL_aR, q_rL_K, q_rL_ln, q_rL_n, q_rL_sl, q_rL_is, q_rL_ck, q_rR_fI, q_rR_fL, q_rR_fR, q_rR_aI, q_rR_aL, q_rR_aR, q_rR_K, q_rR_ln, q_rR_n, q_rR_sl, q_rR_is, q_rR_ck, g_row, Nat.reduceEqDiff, reduceIte]
                      by_cases q : j = i
                      · subst q
                        rw [pk_us, pk_us]
                        exact ⟨Or.inr rfl, hx01⟩
                      · rw [pk_un q, pk_un q, b2.aI (by decide), b2.aI (by decide)]
                        exact hB j
                    · refine ⟨?_, ⟨s', hs, ?_, ?_, ?_, fun _ => ?_⟩, ?_⟩
                      · rw [e.aI (by decide)]; exact r1
                      · rw [e.aI (by decide)]; exact hsi
                      · rw [e.aI (by decide)]; exact r4
                      · exact r5.slots fun k q1 q2 => (b3 k (by rw [tys_len] at q2; have := k3.1; omega)).trans (sl k)
                      · exact b4.slots fun k _ _ => sl k
                      · rw [if_pos rfl]
                        simp only [q_pI_fI, q_pI_fL, q_pI_fR, q_pI_aI, q_pI_aL, q_pI_aR, q_pI_K, q_pI_ln, q_pI_n, q_pI_sl, q_pI_is, q_pI_ck, q_pL_fI, q_pL_fL, q_pL_fR, q_pL_aI, q_pL_aL, q_pL_aR, q_pL_K, q_pL_ln, q_pL_n, q_pL_sl, q_pL_is, q_pL_ck, q_pR_fI, q_pR_fL, q_pR_fR, q_pR_aI, q_pR_aL, q_pR_aR, q_pR_K, q_pR_ln, q_pR_n, q_pR_sl, q_pR_is, q_pR_ck, q_rI_fI, q_rI_fL, q_rI_fR, q_rI_aI, q_rI_aL, q_rI_aR, q_rI_K, q_rI_ln, q_rI_n, q_rI_sl, q_rI_is, q_rI_ck, q_rL_fI, q_rL_fL, q_rL_fR, q_rL_aI, q_rL_aL, q_rL_aR, q_rL_K, q_rL_ln, q_rL_n, q_rL_sl, q_rL_is, q_rL_ck, q_rR_fI, q_rR_fL, q_rR_fR, q_rR_aI, q_rR_aL, q_rR_aR, q_rR_K, q_rR_ln, q_rR_n, q_rR_sl, q_rR_is, q_rR_ck, g_row, Nat.reduceEqDiff, reduceIte]
                        rw [pk_us, pk_us, pk_us]
                        exact ⟨rfl, hx.symm, rfl⟩) (fun fu S i hI hc hi hi2 => by
                    have hR := hI.ref
                    show l_X9_begin_218 237 (fu + 1) S (nI i) _ = _
                    rw [l_X9_begin_218]
                    simp only [g_getI, Nat.reduceMul, Nat.reduceAdd, ck9 hR, hc]
                    rw [if_pos (nI_le hi (by omega))]) tb.length 100 0 S7 (by omega) (by omega) hI7 ⟨s7, n7, p7, v598⟩ t1 t2 t3 t4 (fun j r hj => by omega) (fun j r _ hjr => t5 j r hjr)
                obtain ⟨u1, u2, u3, u4⟩ := o0
                have e : RE [238, 239, 240, 241, 244, 245, 246, 248, 249, 250, 251, 252, 253, 254, 255] [591, 597, 598] S4 S8 := (e47.mono (by decide) (by decide)).trans (o2.mono (by decide) (by decide))
                have hI8 := e.imm hI4
                refine ⟨S8, ?_, hI8, e.fr (by decide), hI8, h2.e e (by decide), (e.fI (by decide)).trans h3, ?_, ⟨?_, fun i st hi => by cases hi⟩, u1, h7.e e (by decide), ?_, o4, fun _ => ⟨u2, u4, u3⟩⟩
                · refine o1.trans ?_
                  simp only [g_getI, g_getL, g_getR, g_putI, g_putZ, g_putL, g_putR, g_ldI, g_ldL, g_ldR, g_stI, g_stZ, g_stL, g_stR, g_alen, g_ldX, g_cVI, g_cVL, g_cVR, g_cVV, g_cI, g_cL, g_cN, g_lt, g_jn, g_cpI, g_cpL, g_z, Nat.reduceMul, Nat.reduceAdd, Option.bind_some, or_true, true_or, if_true, ck9 hI8.ref, rf_columns hI8.ref, g_ck_t (ri_columns hI8.ref), rl_columns hI8.ref]
                  rw [show (1 : Int32) = nI 1 from rfl, g_ix_t (by decide) (by decide), nI_clamp (by decide), u2.1]
                · rw [o2.fI (by decide), v591]; rfl
                · rw [o2.fI (by decide), v597]; rfl
                · exact h8.e e (by decide) (by decide) k8 fun k q1 q2 => (ws7 k).trans (o3 k q1 q2)
              · simp only [if_neg e6]
                have e7 : (mAct (mStart dk)).1 = false := by simpa using e6
                rw [if_pos (show b32 (mAct (mStart dk)).1 = 0 by rw [e7]; decide)]
                exact ⟨S4, rfl, hI4, F4, g4⟩
        · simp only [if_neg e4]
          rw [if_neg (show ¬ nI (cntSh tb) ≤ 0 from fun z => by
            have := nI_ge (show 0 < cntSh tb by omega) (by omega)
            exact this z)]
          exact fail (-2)
  · simp only [if_neg e1]
    exact fail (-8)
