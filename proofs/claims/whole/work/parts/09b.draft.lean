theorem mPlanG_COp {S : gS} {lo hi : Nat} {w n o : Int32} {o1 o2 : Option (Int32 × gS)} {x1 x2 : Int32 × mS} {R : gS → mS → Prop} (h1 : COp S lo hi o1 x1.1 (fun S1 => R S1 x1.2)) (h2 : stOk (w, n, o, 0) → COp S lo hi o2 x2.1 (fun S1 => R S1 x2.2)) : COp S lo hi (mPlanG w n o o1 o2) (mPlanG w n o x1 x2).1 (fun S1 => R S1 (mPlanG w n o x1 x2).2) := by
  have : (mPlanG w n o o1 o2, mPlanG w n o x1 x2) = mPlanG w n o (o1, x1) (o2, x2) := by
    unfold mPlanG
    split
    · rfl
    · split
      · rfl
      · split
        · split <;> rfl
        · split
          · split <;> rfl
          · rfl
  rw [show mPlanG w n o o1 o2 = (mPlanG w n o (o1, x1) (o2, x2)).1 by rw [← this], show mPlanG w n o x1 x2 = (mPlanG w n o (o1, x1) (o2, x2)).2 by rw [← this]]
  exact mPlanG_or (P := fun (z : Option (Int32 × gS) × Int32 × mS) => COp S lo hi z.1 z.2.1 (fun S1 => R S1 z.2.2)) h1 h2
theorem plan_R {S : gS} {m : mS} {w n o a b : Int32} (h : RR S m) (k : mOk m) : COp S 237 265 (f_X9_plan S 237 w n o a b) (mPlan m w n o a b).1 (fun S1 => RR S1 (mPlan m w n o a b).2) := by
  have h0 := h
  obtain ⟨dk, vr, pl, mg, sc, nx, dr, sn, tb⟩ := m
  obtain ⟨hI, h2, h3, h4, h5, h6, h7, h8, h9, h10⟩ := h
  obtain ⟨k1, k2, k3, k4, k5, k6, k7, k8⟩ := k
  have hR := hI.ref
  generalize hY : (g_getI S 9 21 237 fun x9 => if x9 = (6 : Int32) then (some ((-4 : Int32), S)) else (g_getR S 9 16 237 fun a10 => g_getI S 9 21 237 fun x11 => g_stI S a10 x11 w fun S12 => g_getR S12 9 17 237 fun a13 => g_getI S12 9 21 237 fun x14 => g_stI S12 a13 x14 n fun S15 => g_getR S15 9 18 237 fun a16 => g_getI S15 9 21 237 fun x17 => g_stI S15 a16 x17 o fun S18 => g_getR S18 9 19 237 fun a19 => g_getI S18 9 21 237 fun x20 => g_stI S18 a19 x20 a fun S21 => g_getR S21 9 20 237 fun a22 => g_getI S21 9 21 237 fun x23 => g_stI S21 a22 x23 b fun S24 => g_getI S24 9 21 237 fun x25 => g_putI S24 9 21 237 (x25 + (1 : Int32)) fun S26 => g_getI S26 9 21 237 fun x27 => some (x27, S26))) = Y
  have key : f_X9_plan S 237 w n o a b = mPlanG w n o (some (-1, S)) Y := by
    unfold f_X9_plan mPlanG
    rw [← hY]
    simp only [g_cI, isIn_eq, Option.bind_some, g_jn]
    by_cases a1 : w < 0 ∨ 3 < w
    · rw [if_pos a1, if_pos a1, if_pos rfl]
    rw [if_neg a1, if_neg a1, if_neg (by decide)]
    by_cases a2 : n < 0 ∨ 63 < n
    · rw [if_pos a2, if_pos a2, if_pos rfl]
    rw [if_neg a2, if_neg a2, if_neg (by decide)]
    by_cases a3 : w = 2
    · rw [if_pos a3, if_pos a3]
      by_cases a4 : o < 0 ∨ 63 < o
      · rw [if_pos a4, if_pos a4, if_pos rfl]
      · rw [if_neg a4, if_neg a4, if_neg (by decide), if_neg (by rw [a3]; decide), if_neg (by rw [a3]; decide)]
    · rw [if_neg a3, if_neg a3, if_or2]
      by_cases a4 : w = 0 ∨ w = 3
      · rw [if_pos a4, if_pos a4]
        by_cases a5 : o < 0 ∨ 4 < o
        · rw [if_pos a5, if_pos a5, if_pos rfl]
        · rw [if_neg a5, if_neg a5, if_neg (by decide)]
      · rw [if_neg a4, if_neg a4]
  rw [key]
  unfold mPlan
  dsimp only
  refine mPlanG_COp (R := RR) ⟨S, rfl, hI, Fr.refl, h0⟩ fun hst => ?_
  rw [← hY]
  have kl := k2.1
  simp only [g_getI, g_getL, g_getR, g_putI, g_putZ, g_putL, g_putR, g_ldI, g_ldL, g_ldR, g_stI, g_stZ, g_stL, g_stR, g_alen, g_ldX, g_cVI, g_cVL, g_cVR, g_cVV, g_cI, g_cL, g_cN, g_lt, g_jn, g_cpI, g_cpL, g_z, Nat.reduceMul, Nat.reduceAdd, Option.bind_some, or_true, true_or, if_true, q_pI_fI, q_pI_fL, q_pI_fR, q_pI_aI, q_pI_aL, q_pI_aR, q_pI_K, q_pI_ln, q_pI_n, q_pI_sl, q_pI_is, q_pI_ck, q_pL_fI, q_pL_fL, q_pL_fR, q_pL_aI, q_pL_aL, q_pL_aR, q_pL_K, q_pL_ln, q_pL_n, q_pL_sl, q_pL_is, q_pL_ck, q_pR_fI, q_pR_fL, q_pR_fR, q_pR_aI, q_pR_aL, q_pR_aR, q_pR_K, q_pR_ln, q_pR_n, q_pR_sl, q_pR_is, q_pR_ck, q_rI_fI, q_rI_fL, q_rI_fR, q_rI_aI, q_rI_aL, q_rI_aR, q_rI_K, q_rI_ln, q_rI_n, q_rI_sl, q_rI_is, q_rI_ck, q_rL_fI, q_rL_fL, q_rL_fR, q_rL_aI, q_rL_aL, q_rL_aR, q_rL_K, q_rL_ln, q_rL_n, q_rL_sl, q_rL_is, q_rL_ck, q_rR_fI, q_rR_fL, q_rR_fR, q_rR_aI, q_rR_aL, q_rR_aR, q_rR_K, q_rR_ln, q_rR_n, q_rR_sl, q_rR_is, q_rR_ck, ck9 hR, h5.1]
  by_cases e6 : pl.length = 6
  · rw [if_pos e6, if_pos (by rw [e6]; rfl)]
    exact ⟨S, rfl, hI, Fr.refl, h0⟩
  · rw [if_neg e6, if_neg (by rw [show (6 : Int32) = nI 6 from rfl, nI_eq (by omega) (by omega)]; exact e6)]
    simp only [rf_whats hR, rf_stepNames hR, rf_others hR, rf_as hR, rf_bs hR, Option.bind_some, g_ck_t (ri_whats hR), g_ck_t (ri_stepNames hR), g_ck_t (ri_others hR), g_ck_t (ri_as hR), g_ck_t (ri_bs hR), rl_whats hR, rl_stepNames hR, rl_others hR, rl_as hR, rl_bs hR]
    simp (disch := omega) only [g_ix_t, nI_clamp, g_row, Nat.reduceEqDiff, reduceIte, g_up_s, add1]
    have e : RE [251, 252, 253, 254, 255] [597] S (g_pI (g_rI (g_rI (g_rI (g_rI (g_rI S 251 (upd (gaI S 251) pl.length w)) 252 (upd (gaI S 252) pl.length n)) 253 (upd (gaI S 253) pl.length o)) 254 (upd (gaI S 254) pl.length a)) 255 (upd (gaI S 255) pl.length b)) 597 237 (nI (pl.length + 1))) := (((((RE.rI (by decide)).trans (RE.rI (by decide))).trans (RE.rI (by decide))).trans (RE.rI (by decide))).trans (RE.rI (by decide))).trans (RE.pI (by decide))
    refine ⟨_, rfl, e.imm hI, e.fr (by decide), e.imm hI, h2.e e (by decide), (e.fI (by decide)).trans h3, (e.fI (by decide)).trans h4, ⟨?_, ?_⟩, h6.e e (by decide), h7.e e (by decide), ?_, ?_, fun hr => ⟨(h10 hr).1.e e (by decide), (e.fI (by decide)).trans (h10 hr).2.1, ?_⟩⟩
    · simp only [q_pI_fI, q_pI_fL, q_pI_fR, q_pI_aI, q_pI_aL, q_pI_aR, q_pI_K, q_pI_ln, q_pI_n, q_pI_sl, q_pI_is, q_pI_ck, q_pL_fI, q_pL_fL, q_pL_fR, q_pL_aI, q_pL_aL, q_pL_aR, q_pL_K, q_pL_ln, q_pL_n, q_pL_sl, q_pL_is, q_pL_ck, q_pR_fI, q_pR_fL, q_pR_fR, q_pR_aI, q_pR_aL, q_pR_aR, q_pR_K, q_pR_ln, q_pR_n, q_pR_sl, q_pR_is, q_pR_ck, q_rI_fI, q_rI_fL, q_rI_fR, q_rI_aI, q_rI_aL, q_rI_aR, q_rI_K, q_rI_ln, q_rI_n, q_rI_sl, q_rI_is, q_rI_ck, q_rL_fI, q_rL_fL, q_rL_fR, q_rL_aI, q_rL_aL, q_rL_aR, q_rL_K, q_rL_ln, q_rL_n, q_rL_sl, q_rL_is, q_rL_ck, q_rR_fI, q_rR_fL, q_rR_fR, q_rR_aI, q_rR_aL, q_rR_aR, q_rR_K, q_rR_ln, q_rR_n, q_rR_sl, q_rR_is, q_rR_ck, g_up_s, List.length_append, List.length_singleton]
    · intro k st hk
      simp only [q_pI_fI, q_pI_fL, q_pI_fR, q_pI_aI, q_pI_aL, q_pI_aR, q_pI_K, q_pI_ln, q_pI_n, q_pI_sl, q_pI_is, q_pI_ck, q_pL_fI, q_pL_fL, q_pL_fR, q_pL_aI, q_pL_aL, q_pL_aR, q_pL_K, q_pL_ln, q_pL_n, q_pL_sl, q_pL_is, q_pL_ck, q_pR_fI, q_pR_fL, q_pR_fR, q_pR_aI, q_pR_aL, q_pR_aR, q_pR_K, q_pR_ln, q_pR_n, q_pR_sl, q_pR_is, q_pR_ck, q_rI_fI, q_rI_fL, q_rI_fR, q_rI_aI, q_rI_aL, q_rI_aR, q_rI_K, q_rI_ln, q_rI_n, q_rI_sl, q_rI_is, q_rI_ck, q_rL_fI, q_rL_fL, q_rL_fR, q_rL_aI, q_rL_aL, q_rL_aR, q_rL_K, q_rL_ln, q_rL_n, q_rL_sl, q_rL_is, q_rL_ck, q_rR_fI, q_rR_fL, q_rR_fR, q_rR_aI, q_rR_aL, q_rR_aR, q_rR_K, q_rR_ln, q_rR_n, q_rR_sl, q_rR_is, q_rR_ck, g_row, Nat.reduceEqDiff, reduceIte, Nat.zero_add]
      by_cases e2 : k < pl.length
      · rw [List.getElem?_append_left e2] at hk
        have := h5.2 k st hk
        rw [Nat.zero_add] at this
        rw [pk_un (by omega), pk_un (by omega), pk_un (by omega), pk_un (by omega), pk_un (by omega)]
        exact this
      · have e3 : k = pl.length := by
          have := lt_of_some hk
          rw [List.length_append, List.length_singleton] at this
          omega
        subst e3
        rw [List.getElem?_append_right (by omega), Nat.sub_self] at hk
        cases hk
        rw [pk_us, pk_us, pk_us, pk_us, pk_us]
        exact ⟨rfl, rfl, rfl, rfl⟩
    · exact h8.e e (by decide) (by decide) k8 (fun k _ hk => e.slot (by decide) (by decide) (by decide))
    · exact h9.e e (by decide) (by decide) k3.1 (fun hr => (k4 hr).2.1.1) (fun k hk => e.slot (by decide) (by decide) (by decide))
    · intro k st hk
      simp only [q_pI_fI, q_pI_fL, q_pI_fR, q_pI_aI, q_pI_aL, q_pI_aR, q_pI_K, q_pI_ln, q_pI_n, q_pI_sl, q_pI_is, q_pI_ck, q_pL_fI, q_pL_fL, q_pL_fR, q_pL_aI, q_pL_aL, q_pL_aR, q_pL_K, q_pL_ln, q_pL_n, q_pL_sl, q_pL_is, q_pL_ck, q_pR_fI, q_pR_fL, q_pR_fR, q_pR_aI, q_pR_aL, q_pR_aR, q_pR_K, q_pR_ln, q_pR_n, q_pR_sl, q_pR_is, q_pR_ck, q_rI_fI, q_rI_fL, q_rI_fR, q_rI_aI, q_rI_aL, q_rI_aR, q_rI_K, q_rI_ln, q_rI_n, q_rI_sl, q_rI_is, q_rI_ck, q_rL_fI, q_rL_fL, q_rL_fR, q_rL_aI, q_rL_aL, q_rL_aR, q_rL_K, q_rL_ln, q_rL_n, q_rL_sl, q_rL_is, q_rL_ck, q_rR_fI, q_rR_fL, q_rR_fR, q_rR_aI, q_rR_aL, q_rR_aR, q_rR_K, q_rR_ln, q_rR_n, q_rR_sl, q_rR_is, q_rR_ck, g_row, Nat.reduceEqDiff, reduceIte]
      rw [pk_un (by omega), pk_un (by omega), pk_un (by omega), pk_un (by omega), pk_un (by omega)]
      exact (h10 hr).2.2 k st hk
theorem mPlan_ok {m : mS} {w n o a b : Int32} (k : mOk m) : mOk (mPlan m w n o a b).2 := by
  have k0 := k
  obtain ⟨dk, vr, pl, mg, sc, nx, dr, sn, tb⟩ := m
  obtain ⟨k1, k2, k3, k4, k5, k6, k7, k8⟩ := k
  unfold mPlan
  dsimp only
  refine mPlanG_or (P := fun z : Int32 × mS => mOk z.2) k0 fun hs => ?_
  split
  · exact k0
  · refine ⟨k1, ⟨?_, fun st h => ?_⟩, k3, k4, k5, k6, k7, k8⟩
    · have := k2.1
      rw [List.length_append, List.length_singleton]
      omega
    · rcases List.mem_append.mp h with q | q
      · exact k2.2 st q
      · rw [List.mem_singleton.mp q]; exact hs
/-! ===== draft ===== -/
def drSet (dr : mDr) (k : Nat) (x : Int64 × List Nat) : mDr := fun j => if j = k then x else dr j
def wDr (m : mS) (dr : mDr) : mS := match m with
  | (dk, vr, pl, mg, sc, nx, _, sn, tb) => (dk, vr, pl, mg, sc, nx, dr, sn, tb)
def mDrf (m : mS) : mDr := m.2.2.2.2.2.2.1
def mDraft (m : mS) (i a b : Int32) : Int32 × mS := if i < 0 ∨ 7 < i then (-1, m) else (1, wDr m (drSet (mDrf m) i.toNatClampNeg (mJoin a b, [])))
theorem wDr_ok {m : mS} {dr : mDr} (k : mOk m) : mOk (wDr m dr) := k
theorem TxW.only {w w1 : Nat → Int64} {i j : Nat} {T : List Nat} (h : TxW w i T) (e : OnlyCol j w w1) (hij : i ≠ j) : TxW w1 i T := by
  obtain ⟨h1, h2, h3, h4⟩ := h
  refine ⟨(e _ (by omega)).trans h1, h2, h3, fun q hq => ?_⟩
  rw [e _ (by omega)]
  exact h4 q hq
theorem draft_C {S : gS} {m : mS} {i a b : Int32} (h : RC S m) (k : mOk m) : COp S 0 237 (f_X8_draft S 0 i a b) (mDraft m i a b).1 (fun S1 => RC S1 (mDraft m i a b).2) := by
  have h0 := h
  obtain ⟨dk, vr, pl, mg, sc, nx, dr, sn, tb⟩ := m
  obtain ⟨hI, sA, sB, pA, pB, h1, h2, h3, h4, h5, h6, h7, h8⟩ := h
  obtain ⟨k1, k2, k3, k4, k5, k6, k7, k8⟩ := k
  have hs := h1.2.2.2.2.2.2.1
  have hp := h1.2.2.2.2.2.2.2
  have c0 : g_is S 8 0 := hI.is (by decide) (by decide)
  have c1 : g_is S 0 1 := hI.is (by decide) (by decide)
  have c2 : g_is S 7 2 := hI.is (by decide) (by decide)
  have r0 : gfR S 512 0 = some 1 := hI.r (512, 0, 1) (by decide)
  have r1 : gfR S 513 0 = some 2 := hI.r (513, 0, 2) (by decide)
  have mA : MigAt S pA := hI.mig (by unfold isMig; omega)
  have aS : SchAt S sA := hI.sch (by unfold isSch; omega)
  unfold f_X8_draft mDraft
  simp only [g_cI, isCell_eq, Option.bind_some]
  by_cases bad : i < 0 ∨ 7 < i
  · rw [if_pos bad, if_pos bad, if_pos rfl]
    exact ⟨S, rfl, hI, Fr.refl, h0⟩
  · rw [if_neg bad, if_neg bad, if_neg (by decide)]
    obtain ⟨j, hj, rfl⟩ := cell_of bad
    have r2 : gfR S 514 0 = some 204 := hI.r (514, 0, 204) (by decide)
    have d0 : gfR S 64 204 = some 205 := hI.r (64, 204, 205) (by decide)
    have d1 : gfR S 65 204 = some 206 := hI.r (65, 204, 206) (by decide)
    have i1 : g_is S 1 204 := hI.is (by decide) (by decide)
    have i2 : g_is S 11 205 := hI.is (by decide) (by decide)
    have i3 : g_is S 2 206 := hI.is (by decide) (by decide)
    have l2 : gln S 205 = 8 := hI.ln (by decide)
    unfold f_X1_setCell
    simp only [g_getI, g_getL, g_getR, g_putI, g_putZ, g_putL, g_putR, g_ldI, g_ldL, g_ldR, g_stI, g_stZ, g_stL, g_stR, g_alen, g_ldX, g_cVI, g_cVL, g_cVR, g_cVV, g_cI, g_cL, g_cN, g_lt, g_jn, g_cpI, g_cpL, g_z, Nat.reduceMul, Nat.reduceAdd, Option.bind_some, or_true, true_or, if_true, q_pI_fI, q_pI_fL, q_pI_fR, q_pI_aI, q_pI_aL, q_pI_aR, q_pI_K, q_pI_ln, q_pI_n, q_pI_sl, q_pI_is, q_pI_ck, q_pL_fI, q_pL_fL, q_pL_fR, q_pL_aI, q_pL_aL, q_pL_aR, q_pL_K, q_pL_ln, q_pL_n, q_pL_sl, q_pL_is, q_pL_ck, q_pR_fI, q_pR_fL, q_pR_fR, q_pR_aI, q_pR_aL, q_pR_aR, q_pR_K, q_pR_ln, q_pR_n, q_pR_sl, q_pR_is, q_pR_ck, q_rI_fI, q_rI_fL, q_rI_fR, q_rI_aI, q_rI_aL, q_rI_aR, q_rI_K, q_rI_ln, q_rI_n, q_rI_sl, q_rI_is, q_rI_ck, q_rL_fI, q_rL_fL, q_rL_fR, q_rL_aI, q_rL_aL, q_rL_aR, q_rL_K, q_rL_ln, q_rL_n, q_rL_sl, q_rL_is, q_rL_ck, q_rR_fI, q_rR_fL, q_rR_fR, q_rR_aI, q_rR_aL, q_rR_aR, q_rR_K, q_rR_ln, q_rR_n, q_rR_sl, q_rR_is, q_rR_ck, g_ck_t c0, r2, joined_eq, g_ck_t i1, d0, d1, g_ck_t i2, l2, g_ck_t i3]
    simp (disch := omega) only [g_ix_t, nI_clamp]
    rw [setNumber_eq (S := g_rL S 205 (vp_updL (gaL S 205) j (mJoin a b))) (f := 206) (w := 207) hI.letters hj]
    have e : Fr 205 208 S (g_rL (g_rL S 205 (vp_updL (gaL S 205) j (mJoin a b))) 207 (W_set (gaL (g_rL S 205 (vp_updL (gaL S 205) j (mJoin a b))) 207) j 0)) := (Fr.rL (by omega) (by omega)).trans (Fr.rL (by omega) (by omega))
    refine ⟨_, rfl, hI.of rfl rfl rfl rfl rfl, e.mono (by omega) (by omega), hI.of rfl rfl rfl rfl rfl, sA, sB, pA, pB, h1.fr (e 0 (by omega)), h2.fr (e 1 (by omega)), h3.fr k2.1 (fun a a1 a2 => e a (by omega)), h4.fr (fun a a1 a2 => e a (by omega)), ?_, h6.fr ((e 0 (by omega)).1 _) (fun a a1 a2 => e a (by omega)), h7.fr k5 (fun a a1 a2 => e a (by omega)), fun hr => ⟨(h8 hr).1.fr (fun a a1 a2 => e a (by omega)), (h8 hr).2.fr (k4 hr).1.1 (fun a a1 a2 => e a (by omega))⟩⟩
    intro q hq
    simp only [q_pI_fI, q_pI_fL, q_pI_fR, q_pI_aI, q_pI_aL, q_pI_aR, q_pI_K, q_pI_ln, q_pI_n, q_pI_sl, q_pI_is, q_pI_ck, q_pL_fI, q_pL_fL, q_pL_fR, q_pL_aI, q_pL_aL, q_pL_aR, q_pL_K, q_pL_ln, q_pL_n, q_pL_sl, q_pL_is, q_pL_ck, q_pR_fI, q_pR_fL, q_pR_fR, q_pR_aI, q_pR_aL, q_pR_aR, q_pR_K, q_pR_ln, q_pR_n, q_pR_sl, q_pR_is, q_pR_ck, q_rI_fI, q_rI_fL, q_rI_fR, q_rI_aI, q_rI_aL, q_rI_aR, q_rI_K, q_rI_ln, q_rI_n, q_rI_sl, q_rI_is, q_rI_ck, q_rL_fI, q_rL_fL, q_rL_fR, q_rL_aI, q_rL_aL, q_rL_aR, q_rL_K, q_rL_ln, q_rL_n, q_rL_sl, q_rL_is, q_rL_ck, q_rR_fI, q_rR_fL, q_rR_fR, q_rR_aI, q_rR_aL, q_rR_aR, q_rR_K, q_rR_ln, q_rR_n, q_rR_sl, q_rR_is, q_rR_ck, g_row, Nat.reduceEqDiff, reduceIte, mDrf, drSet]
    by_cases e : q = j
    · subst e
      rw [if_pos rfl]
      exact ⟨pk_uLs, TxW.nil⟩
    · rw [if_neg e]
      exact ⟨(pk_uLn e).trans (h5 q hq).1, (h5 q hq).2.only W_set_only e⟩
theorem draft_R {S : gS} {m : mS} {i a b : Int32} (h : RR S m) (k : mOk m) : COp S 237 265 (f_X9_draft S 237 i a b) (mDraft m i a b).1 (fun S1 => RR S1 (mDraft m i a b).2) := by
  have h0 := h
  obtain ⟨dk, vr, pl, mg, sc, nx, dr, sn, tb⟩ := m
  obtain ⟨hI, h2, h3, h4, h5, h6, h7, h8, h9, h10⟩ := h
  obtain ⟨k1, k2, k3, k4, k5, k6, k7, k8⟩ := k
  have hR := hI.ref
  unfold f_X9_draft mDraft
  simp only [g_cI, isIn_eq, Option.bind_some]
  by_cases bad : i < 0 ∨ 7 < i
  · rw [if_pos bad, if_pos bad, if_pos rfl]
    exact ⟨S, rfl, hI, Fr.refl, h0⟩
  · rw [if_neg bad, if_neg bad, if_neg (by decide)]
    obtain ⟨j, hj, rfl⟩ := cell_of bad
    simp only [g_getI, g_getL, g_getR, g_putI, g_putZ, g_putL, g_putR, g_ldI, g_ldL, g_ldR, g_stI, g_stZ, g_stL, g_stR, g_alen, g_ldX, g_cVI, g_cVL, g_cVR, g_cVV, g_cI, g_cL, g_cN, g_lt, g_jn, g_cpI, g_cpL, g_z, Nat.reduceMul, Nat.reduceAdd, Option.bind_some, or_true, true_or, if_true, q_pI_fI, q_pI_fL, q_pI_fR, q_pI_aI, q_pI_aL, q_pI_aR, q_pI_K, q_pI_ln, q_pI_n, q_pI_sl, q_pI_is, q_pI_ck, q_pL_fI, q_pL_fL, q_pL_fR, q_pL_aI, q_pL_aL, q_pL_aR, q_pL_K, q_pL_ln, q_pL_n, q_pL_sl, q_pL_is, q_pL_ck, q_pR_fI, q_pR_fL, q_pR_fR, q_pR_aI, q_pR_aL, q_pR_aR, q_pR_K, q_pR_ln, q_pR_n, q_pR_sl, q_pR_is, q_pR_ck, q_rI_fI, q_rI_fL, q_rI_fR, q_rI_aI, q_rI_aL, q_rI_aR, q_rI_K, q_rI_ln, q_rI_n, q_rI_sl, q_rI_is, q_rI_ck, q_rL_fI, q_rL_fL, q_rL_fR, q_rL_aI, q_rL_aL, q_rL_aR, q_rL_K, q_rL_ln, q_rL_n, q_rL_sl, q_rL_is, q_rL_ck, q_rR_fI, q_rR_fL, q_rR_fR, q_rR_aI, q_rR_aL, q_rR_aR, q_rR_K, q_rR_ln, q_rR_n, q_rR_sl, q_rR_is, q_rR_ck, ck9 hR, rf_draftA hR, rf_draftB hR, rf_letterCount hR, g_ck_t (ri_draftA hR), g_ck_t (ri_draftB hR), g_ck_t (ri_letterCount hR), rl_draftA hR, rl_draftB hR, rl_letterCount hR]
    simp (disch := omega) only [g_ix_t, nI_clamp, g_row, Nat.reduceEqDiff, reduceIte]
    have e : RE [256, 257, 258] [] S (g_rI (g_rI (g_rI S 256 (upd (gaI S 256) j a)) 257 (upd (gaI S 257) j b)) 258 (upd (gaI S 258) j 0)) := ((RE.rI (by decide)).trans (RE.rI (by decide))).trans (RE.rI (by decide))
    have ws : ∀ k, k < 648 → SlotEq S _ k := fun k _ => e.slot (by decide) (by decide) (by decide)
    refine ⟨_, rfl, e.imm hI, e.fr (by decide), e.imm hI, h2.e e (by decide), (e.fI (by decide)).trans h3, (e.fI (by decide)).trans h4, ⟨(e.fI (by decide)).trans h5.1, h5.2.e e (by decide)⟩, h6.e e (by decide), ?_, h8.e e (by decide) (by decide) k8 (fun k _ hk => ws k (by omega)), h9.e e (by decide) (by decide) k3.1 (fun hr => (k4 hr).2.1.1) (fun k hk => ws k (by omega)), fun hr => ⟨(h10 hr).1.e e (by decide), (e.fI (by decide)).trans (h10 hr).2.1, (h10 hr).2.2.e e (by decide)⟩⟩
    intro q hq
    simp only [q_pI_fI, q_pI_fL, q_pI_fR, q_pI_aI, q_pI_aL, q_pI_aR, q_pI_K, q_pI_ln, q_pI_n, q_pI_sl, q_pI_is, q_pI_ck, q_pL_fI, q_pL_fL, q_pL_fR, q_pL_aI, q_pL_aL, q_pL_aR, q_pL_K, q_pL_ln, q_pL_n, q_pL_sl, q_pL_is, q_pL_ck, q_pR_fI, q_pR_fL, q_pR_fR, q_pR_aI, q_pR_aL, q_pR_aR, q_pR_K, q_pR_ln, q_pR_n, q_pR_sl, q_pR_is, q_pR_ck, q_rI_fI, q_rI_fL, q_rI_fR, q_rI_aI, q_rI_aL, q_rI_aR, q_rI_K, q_rI_ln, q_rI_n, q_rI_sl, q_rI_is, q_rI_ck, q_rL_fI, q_rL_fL, q_rL_fR, q_rL_aI, q_rL_aL, q_rL_aR, q_rL_K, q_rL_ln, q_rL_n, q_rL_sl, q_rL_is, q_rL_ck, q_rR_fI, q_rR_fL, q_rR_fR, q_rR_aI, q_rR_aL, q_rR_aR, q_rR_K, q_rR_ln, q_rR_n, q_rR_sl, q_rR_is, q_rR_ck, g_row, Nat.reduceEqDiff, reduceIte, mDrf, drSet]
    by_cases e : q = j
    · subst e
      rw [if_pos rfl, pk_us, pk_us, pk_us]
      exact ⟨rfl, rfl, fun j hj => (by cases hj)⟩
    · rw [if_neg e, pk_un e, pk_un e, pk_un e]
      exact h7 q hq
/-! ===== letters ===== -/
def mLetters (m : mS) (i a b : Int32) : Int32 × mS := if i < 0 ∨ 7 < i then (-1, m) else if 24 < (mDrf m i.toNatClampNeg).2.length + (mB (mJoin a b)).length then (-4, m) else (nI ((mDrf m i.toNatClampNeg).2.length + (mB (mJoin a b)).length), wDr m (drSet (mDrf m) i.toNatClampNeg ((mDrf m i.toNatClampNeg).1, (mDrf m i.toNatClampNeg).2 ++ mB (mJoin a b))))
/-- letters of a word, from the last on -/
def cntB (v : Int64) : Nat → Nat
  | 0 => 0
  | k + 1 => cntB v k + (if lt8 v k = 0 then 0 else 1)
theorem mBr_cnt (v : Int64) : ∀ k, (mBr v k).length = cntB v k := by
  intro k
  induction k with
  | zero => rfl
  | succ k ih =>
    unfold mBr cntB
    by_cases h : lt8 v k = 0
    · simp [h, ih]
    · simp [h, ih]
theorem lt8_long (x : Int64) {k : Nat} (hk : k < 8) : (((x.toUInt64 >>> ((nI (8 * k)).toInt64.toUInt64 &&& Int64.toUInt64 63)).toInt64) &&& (255 : Int64)) = lN (lt8 x k) := by
  obtain ⟨n, hn, rfl⟩ := wb_of x
  rw [wb_shr hn (by omega), show (255 : Int64) = lN (2 ^ 8 - 1) from rfl, wb_mask (Nat.lt_of_le_of_lt (Nat.div_le_self _ _) hn) (by decide), lt8_N hn]
theorem lN_eq0 {n : Nat} (h : n < 256) : lN n = 0 ↔ n = 0 := by
  constructor
  · intro q
    have := congrArg (fun z : Int64 => z.toBitVec.toNat) q
    rw [show (lN n).toBitVec.toNat = n from wb_tn (by omega)] at this
    exact this
  · intro q; rw [q]; rfl
theorem addLetters_loop {a0 : Nat} {p1 : Int32} {v : Int64} {S : gS} {K : gS → Int32 → Int32 → Option (Int32 × gS)} : ∀ (d n k : Nat), k + d = 8 → d < n → l_X1_addLetters_6 a0 p1 v n S (nI (cntB v k)) (nI (8 * k)) K = K S (nI (cntB v 8)) (nI 64) := by
  intro d
  induction d with
  | zero =>
    intro n k hk hn
    obtain ⟨n, rfl⟩ : ∃ m, n = m + 1 := ⟨n - 1, by omega⟩
    have : k = 8 := by omega
    subst this
    rw [l_X1_addLetters_6, if_pos (by decide)]
  | succ d ih =>
    intro n k hk hn
    obtain ⟨n, rfl⟩ : ∃ m, n = m + 1 := ⟨n - 1, by omega⟩
    rw [l_X1_addLetters_6, if_neg (by rw [show (64 : Int32) = nI 64 from rfl, nI_leI (by omega) (by omega)]; omega)]
    dsimp only [g_jn]
    rw [show nI (8 * k) + (8 : Int32) = nI (8 * (k + 1)) from by rw [show (8 : Int32) = nI 8 from rfl, nI_add]; rfl, ← ih n (k + 1) (by omega) (by omega)]
    show _ = l_X1_addLetters_6 a0 p1 v n S (nI (cntB v k + _)) _ K
    by_cases h : lt8 v k = 0
    · rw [if_pos (by rw [lt8_long v (by omega), cmp_eq0, lN_eq0 (lt8_lt v k)]; exact h), if_pos h]; rfl
    · rw [if_neg (by rw [lt8_long v (by omega), cmp_eq0, lN_eq0 (lt8_lt v k)]; exact h), if_neg h, add1]
theorem letterCount_eq {S : gS} {j : Nat} {T : List Nat} (hI : Imm S) (hj : j < 8) (hT : TxW (gaL S 207) j T) : f_X1_letterCount S 204 (nI j) = some (nI T.length, S) := by
  unfold f_X1_letterCount
  simp only [g_getI, g_getL, g_getR, g_putI, g_putZ, g_putL, g_putR, g_ldI, g_ldL, g_ldR, g_stI, g_stZ, g_stL, g_stR, g_alen, g_ldX, g_cVI, g_cVL, g_cVR, g_cVV, g_cI, g_cL, g_cN, g_lt, g_jn, g_cpI, g_cpL, g_z, Nat.reduceMul, Nat.reduceAdd, Option.bind_some, or_true, true_or, if_true, g_ck_t (hI.is (show 204 < 265 by decide) (show K0 204 = 1 by decide)), hI.r (65, 204, 206) (by decide), g_ck_t hI.letters.1]
  rw [numberAt_eq hI.letters hj, Option.bind_some, hT.1, lN_i]
theorem letters_C {S : gS} {m : mS} {i a b : Int32} (h : RC S m) (k : mOk m) : COp S 0 237 (f_X8_letters S 0 i a b) (mLetters m i a b).1 (fun S1 => RC S1 (mLetters m i a b).2) := by
  have h0 := h
  obtain ⟨dk, vr, pl, mg, sc, nx, dr, sn, tb⟩ := m
  obtain ⟨hI, sA, sB, pA, pB, h1, h2, h3, h4, h5, h6, h7, h8⟩ := h
  obtain ⟨k1, k2, k3, k4, k5, k6, k7, k8⟩ := k
  have hs := h1.2.2.2.2.2.2.1
  have hp := h1.2.2.2.2.2.2.2
  have c0 : g_is S 8 0 := hI.is (by decide) (by decide)
  have c1 : g_is S 0 1 := hI.is (by decide) (by decide)
  have c2 : g_is S 7 2 := hI.is (by decide) (by decide)
  have r0 : gfR S 512 0 = some 1 := hI.r (512, 0, 1) (by decide)
  have r1 : gfR S 513 0 = some 2 := hI.r (513, 0, 2) (by decide)
  have mA : MigAt S pA := hI.mig (by unfold isMig; omega)
  have aS : SchAt S sA := hI.sch (by unfold isSch; omega)
  unfold f_X8_letters mLetters
  simp only [g_cI, isCell_eq, Option.bind_some]
  by_cases bad : i < 0 ∨ 7 < i
  · rw [if_pos bad, if_pos bad, if_pos rfl]
    exact ⟨S, rfl, hI, Fr.refl, h0⟩
  · rw [if_neg bad, if_neg bad, if_neg (by decide)]
    obtain ⟨j, hj, rfl⟩ := cell_of bad
    rw [nI_clamp (by omega)]
    have r2 : gfR S 514 0 = some 204 := hI.r (514, 0, 204) (by decide)
    have d1 : gfR S 65 204 = some 206 := hI.r (65, 204, 206) (by decide)
    have i1 : g_is S 1 204 := hI.is (by decide) (by decide)
    have hT := (h5 j hj).2
    have hcnt : cntB (mJoin a b) 8 = (mB (mJoin a b)).length := (mBr_cnt _ 8).symm
    have hle : (mB (mJoin a b)).length ≤ 8 := mBr_len _ 8
    unfold f_X1_addLetters
    simp only [g_getR, g_cL, joined_eq, g_cVI, Nat.reduceMul, Nat.reduceAdd, g_ck_t c0, r2, Option.bind_some, g_ck_t i1]
    rw [show l_X1_addLetters_6 204 (nI j) (mJoin a b) 100 S 0 0 = l_X1_addLetters_6 204 (nI j) (mJoin a b) 100 S (nI (cntB (mJoin a b) 0)) (nI (8 * 0)) from rfl, addLetters_loop 8 100 0 (by omega) (by omega), hcnt]
    simp only [g_ck_t i1, letterCount_eq hI hj hT, Option.bind_some]
    rw [nI_add, show (24 : Int32) = nI 24 from rfl]
    have t2 := hT.2.1
    show COp S 0 237 _ (if 24 < (dr j).2.length + (mB (mJoin a b)).length then _ else _ : Int32 × mS).1 _
    by_cases hl : 24 < (dr j).2.length + (mB (mJoin a b)).length
    · rw [if_neg (by rw [nI_leI (by omega) (by omega)]; omega)]
      simp only [Option.bind_some, if_true]
      rw [show mDrf (dk, vr, pl, mg, sc, nx, dr, sn, tb) = dr from rfl]
      simp only [if_pos hl]
      exact ⟨S, rfl, hI, Fr.refl, h0⟩
    · rw [if_pos (by rw [nI_leI (by omega) (by omega)]; omega), d1, Option.bind_some]
      obtain ⟨w1, b1, b2, b3⟩ := appendLetters_eq (v := mJoin a b) hI.letters hj hT (by omega)
      unfold g_cVV
      rw [g_ck_t (hI.letters.1), b1]
      simp only [Option.bind_some]
      rw [if_neg (show ¬ (1 : Int32) = 0 by decide)]
      have hI1 : Imm (g_rL S 207 w1) := hI.of rfl rfl rfl rfl rfl
      have e : Fr 207 208 S (g_rL S 207 w1) := Fr.rL (by omega) (by omega)
      have hw : gaL (g_rL S 207 w1) 207 = w1 := by rw [q_rL_aL, g_row_s]
      rw [g_ck_t (hI1.is (show 0 < 265 by decide) (show K0 0 = 8 by decide)), show gfR (g_rL S 207 w1) 514 0 = some 204 from r2, Option.bind_some, g_ck_t (hI1.is (show 204 < 265 by decide) (show K0 204 = 1 by decide)), letterCount_eq (T := (dr j).2 ++ mB (mJoin a b)) hI1 hj (by rw [hw]; exact b3), Option.bind_some, List.length_append]
      rw [show mDrf (dk, vr, pl, mg, sc, nx, dr, sn, tb) = dr from rfl]
      simp only [if_neg hl]
      refine ⟨_, rfl, hI1, e.mono (by omega) (by omega), hI1, sA, sB, pA, pB, h1.fr (e 0 (by omega)), h2.fr (e 1 (by omega)), h3.fr k2.1 (fun a a1 a2 => e a (by omega)), h4.fr (fun a a1 a2 => e a (by omega)), ?_, h6.fr ((e 0 (by omega)).1 _) (fun a a1 a2 => e a (by omega)), h7.fr k5 (fun a a1 a2 => e a (by omega)), fun hr => ⟨(h8 hr).1.fr (fun a a1 a2 => e a (by omega)), (h8 hr).2.fr (k4 hr).1.1 (fun a a1 a2 => e a (by omega))⟩⟩
      intro q hq
      rw [hw]
      unfold drSet
      by_cases e : q = j
      · subst e
        rw [if_pos rfl]
        exact ⟨(h5 q hq).1, b3⟩
      · rw [if_neg e]
        exact ⟨(h5 q hq).1, (h5 q hq).2.only b2 e⟩
theorem mLetters_ok {m : mS} {i a b : Int32} (k : mOk m) : mOk (mLetters m i a b).2 := by
  unfold mLetters
  split
  · exact k
  · split
    · exact k
    · exact wDr_ok k
theorem mDraft_ok {m : mS} {i a b : Int32} (k : mOk m) : mOk (mDraft m i a b).2 := by
  unfold mDraft
  split
  · exact k
  · exact wDr_ok k
