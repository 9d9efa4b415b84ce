/-! ===== calls that touch little: scrap, crash, isDown, seen, restart, of the class ===== -/
def mScrap (m : mS) : Int32 × mS := match m with
  | (dk, vr, pl, mg, sc, nx, dr, sn, tb) => (nI pl.length, (dk, vr, [], mg, sc, nx, dr, sn, tb))
theorem scrap_C {S : gS} {m : mS} (h : RC S m) (k : mOk m) : COp S 0 237 (f_X8_scrap S 0) (mScrap m).1 (fun S1 => RC S1 (mScrap m).2) := by
  obtain ⟨dk, vr, pl, mg, sc, nx, dr, sn, tb⟩ := m
  obtain ⟨hI, sA, sB, pA, pB, h1, h2, h3, h4, h5, h6, h7, h8⟩ := h
  obtain ⟨k1, k2, k3, k4, k5, k6, k7, k8⟩ := k
  have hs := h1.2.2.2.2.2.2.1
  have hp := h1.2.2.2.2.2.2.2
  have c0 : g_is S 8 0 := hI.is (by decide) (by decide)
  have c1 : g_is S 0 1 := hI.is (by decide) (by decide)
  have c2 : g_is S 7 2 := hI.is (by decide) (by decide)
  have r0 : gfR S 512 0 = some 1 := hI.r (512, 0, 1) (by decide)
  have r1 : gfR S 513 0 = some 2 := hI.r (513, 0, 2) (by decide)
  have mA : MigAt S pA := hI.mig (by unfold isMig; omega)
  have aS : SchAt S sA := hI.sch (by unfold isSch; omega)
  unfold f_X8_scrap
  simp only [g_getI, g_getL, g_getR, g_putI, g_putZ, g_putL, g_putR, g_ldI, g_ldL, g_ldR, g_stI, g_stZ, g_stL, g_stR, g_alen, g_ldX, g_cVI, g_cVL, g_cVR, g_cVV, g_cI, g_cL, g_cN, g_lt, g_jn, g_cpI, g_cpL, g_z, Nat.reduceMul, Nat.reduceAdd, Option.bind_some, or_true, true_or, if_true, q_pI_fI, q_pI_fL, q_pI_fR, q_pI_aI, q_pI_aL, q_pI_aR, q_pI_K, q_pI_ln, q_pI_n, q_pI_sl, q_pI_is, q_pI_ck, q_pL_fI, q_pL_fL, q_pL_fR, q_pL_aI, q_pL_aL, q_pL_aR, q_pL_K, q_pL_ln, q_pL_n, q_pL_sl, q_pL_is, q_pL_ck, q_pR_fI, q_pR_fL, q_pR_fR, q_pR_aI, q_pR_aL, q_pR_aR, q_pR_K, q_pR_ln, q_pR_n, q_pR_sl, q_pR_is, q_pR_ck, q_rI_fI, q_rI_fL, q_rI_fR, q_rI_aI, q_rI_aL, q_rI_aR, q_rI_K, q_rI_ln, q_rI_n, q_rI_sl, q_rI_is, q_rI_ck, q_rL_fI, q_rL_fL, q_rL_fR, q_rL_aI, q_rL_aL, q_rL_aR, q_rL_K, q_rL_ln, q_rL_n, q_rL_sl, q_rL_is, q_rL_ck, q_rR_fI, q_rR_fL, q_rR_fR, q_rR_aI, q_rR_aL, q_rR_aR, q_rR_K, q_rR_ln, q_rR_n, q_rR_sl, q_rR_is, q_rR_ck, g_ck_t c0, h1.2.2.1, g_ck_t mA.1, h3.1]
  have e : Fr pA (pA + 1) S (g_pI S 193 pA 0) := Fr.pI (by omega) (by omega)
  refine ⟨_, rfl, hI.of rfl rfl rfl rfl rfl, e.mono (by omega) (by omega), hI.of rfl rfl rfl rfl rfl, sA, sB, pA, pB, h1.fr (e 0 (by omega)), h2.fr (e 1 (by omega)), ?_, h4.fr (fun a a1 a2 => e a (by omega)), h5.fr (e _ (by omega)) (e _ (by omega)), h6.fr ((e 0 (by omega)).1 _) (fun a a1 a2 => e a (by omega)), h7.fr k5 (fun a a1 a2 => e a (by omega)), fun hr => ⟨(h8 hr).1.fr (fun a a1 a2 => e a (by omega)), (h8 hr).2.fr (k4 hr).1.1 (fun a a1 a2 => e a (by omega))⟩⟩
  exact ⟨g_up_s, fun k st hk => by cases hk⟩
def mCrash (m : mS) (n : Int32) : Int32 × mS := match m with
  | (dk, vr, pl, mg, sc, nx, dr, sn, tb) => if n < 0 ∨ 1000 < n then (-1, m) else (1, ((dk.1, dk.2.1, n, dk.2.2.2), vr, pl, mg, sc, nx, dr, sn, tb))
theorem crash_C {S : gS} {m : mS} {n : Int32} (h : RC S m) (k : mOk m) : COp S 0 237 (f_X8_crash S 0 n) (mCrash m n).1 (fun S1 => RC S1 (mCrash m n).2) := by
  have h0 := h
  obtain ⟨dk, vr, pl, mg, sc, nx, dr, sn, tb⟩ := m
  obtain ⟨hI, sA, sB, pA, pB, h1, h2, h3, h4, h5, h6, h7, h8⟩ := h
  obtain ⟨k1, k2, k3, k4, k5, k6, k7, k8⟩ := k
  have hs := h1.2.2.2.2.2.2.1
  have hp := h1.2.2.2.2.2.2.2
  have c0 : g_is S 8 0 := hI.is (by decide) (by decide)
  have c1 : g_is S 0 1 := hI.is (by decide) (by decide)
  have c2 : g_is S 7 2 := hI.is (by decide) (by decide)
  have r0 : gfR S 512 0 = some 1 := hI.r (512, 0, 1) (by decide)
  have r1 : gfR S 513 0 = some 2 := hI.r (513, 0, 2) (by decide)
  have mA : MigAt S pA := hI.mig (by unfold isMig; omega)
  have aS : SchAt S sA := hI.sch (by unfold isSch; omega)
  unfold f_X8_crash mCrash
  dsimp only
  by_cases c1' : n < 0
  · rw [if_pos c1', if_pos (Or.inl c1')]
    exact ⟨S, rfl, hI, Fr.refl, h0⟩
  · rw [if_neg c1']
    by_cases c2' : 1000 < n
    · rw [if_neg (Int32.not_le.mpr c2'), if_pos (Or.inr c2')]
      exact ⟨S, rfl, hI, Fr.refl, h0⟩
    · rw [if_pos (Int32.not_lt.mp c2'), if_neg (fun q => q.elim c1' c2')]
      simp only [g_getI, g_getL, g_getR, g_putI, g_putZ, g_putL, g_putR, g_ldI, g_ldL, g_ldR, g_stI, g_stZ, g_stL, g_stR, g_alen, g_ldX, g_cVI, g_cVL, g_cVR, g_cVV, g_cI, g_cL, g_cN, g_lt, g_jn, g_cpI, g_cpL, g_z, Nat.reduceMul, Nat.reduceAdd, Option.bind_some, or_true, true_or, if_true, q_pI_fI, q_pI_fL, q_pI_fR, q_pI_aI, q_pI_aL, q_pI_aR, q_pI_K, q_pI_ln, q_pI_n, q_pI_sl, q_pI_is, q_pI_ck, q_pL_fI, q_pL_fL, q_pL_fR, q_pL_aI, q_pL_aL, q_pL_aR, q_pL_K, q_pL_ln, q_pL_n, q_pL_sl, q_pL_is, q_pL_ck, q_pR_fI, q_pR_fL, q_pR_fR, q_pR_aI, q_pR_aL, q_pR_aR, q_pR_K, q_pR_ln, q_pR_n, q_pR_sl, q_pR_is, q_pR_ck, q_rI_fI, q_rI_fL, q_rI_fR, q_rI_aI, q_rI_aL, q_rI_aR, q_rI_K, q_rI_ln, q_rI_n, q_rI_sl, q_rI_is, q_rI_ck, q_rL_fI, q_rL_fL, q_rL_fR, q_rL_aI, q_rL_aL, q_rL_aR, q_rL_K, q_rL_ln, q_rL_n, q_rL_sl, q_rL_is, q_rL_ck, q_rR_fI, q_rR_fL, q_rR_fR, q_rR_aI, q_rR_aL, q_rR_aR, q_rR_K, q_rR_ln, q_rR_n, q_rR_sl, q_rR_is, q_rR_ck, g_ck_t c0, r0, g_ck_t c1]
      have e : Fr 1 2 S (g_pI S 2 1 n) := Fr.pI (by omega) (by omega)
      refine ⟨_, rfl, hI.of rfl rfl rfl rfl rfl, e.mono (by omega) (by omega), hI.of rfl rfl rfl rfl rfl, sA, sB, pA, pB, h1.fr (e 0 (by omega)), ?_, h3.fr k2.1 (fun a a1 a2 => e a (by omega)), h4.fr (fun a a1 a2 => e a (by omega)), h5.fr (e _ (by omega)) (e _ (by omega)), h6.fr ((e 0 (by omega)).1 _) (fun a a1 a2 => e a (by omega)), h7.fr k5 (fun a a1 a2 => e a (by omega)), fun hr => ⟨(h8 hr).1.fr (fun a a1 a2 => e a (by omega)), (h8 hr).2.fr (k4 hr).1.1 (fun a a1 a2 => e a (by omega))⟩⟩
      obtain ⟨d1, d2, d3, d4, d5⟩ := h2
      simp [DiskC, q_pI_fI, q_pI_fL, q_pI_fR, q_pI_aI, q_pI_aL, q_pI_aR, q_pI_K, q_pI_ln, q_pI_n, q_pI_sl, q_pI_is, q_pI_ck, q_pL_fI, q_pL_fL, q_pL_fR, q_pL_aI, q_pL_aL, q_pL_aR, q_pL_K, q_pL_ln, q_pL_n, q_pL_sl, q_pL_is, q_pL_ck, q_pR_fI, q_pR_fL, q_pR_fR, q_pR_aI, q_pR_aL, q_pR_aR, q_pR_K, q_pR_ln, q_pR_n, q_pR_sl, q_pR_is, q_pR_ck, q_rI_fI, q_rI_fL, q_rI_fR, q_rI_aI, q_rI_aL, q_rI_aR, q_rI_K, q_rI_ln, q_rI_n, q_rI_sl, q_rI_is, q_rI_ck, q_rL_fI, q_rL_fL, q_rL_fR, q_rL_aI, q_rL_aL, q_rL_aR, q_rL_K, q_rL_ln, q_rL_n, q_rL_sl, q_rL_is, q_rL_ck, q_rR_fI, q_rR_fL, q_rR_fR, q_rR_aI, q_rR_aL, q_rR_aR, q_rR_K, q_rR_ln, q_rR_n, q_rR_sl, q_rR_is, q_rR_ck, g_up, d1, d2, d4, d5]
def mDown1 (m : mS) : Int32 := m.1.1
theorem isDown_C {S : gS} {m : mS} (h : RC S m) (k : mOk m) : COp S 0 237 (f_X8_isDown S 0) (mDown1 m) (fun S1 => RC S1 m) := by
  have h0 := h
  obtain ⟨dk, vr, pl, mg, sc, nx, dr, sn, tb⟩ := m
  obtain ⟨hI, sA, sB, pA, pB, h1, h2, h3, h4, h5, h6, h7, h8⟩ := h
  obtain ⟨k1, k2, k3, k4, k5, k6, k7, k8⟩ := k
  have hs := h1.2.2.2.2.2.2.1
  have hp := h1.2.2.2.2.2.2.2
  have c0 : g_is S 8 0 := hI.is (by decide) (by decide)
  have c1 : g_is S 0 1 := hI.is (by decide) (by decide)
  have c2 : g_is S 7 2 := hI.is (by decide) (by decide)
  have r0 : gfR S 512 0 = some 1 := hI.r (512, 0, 1) (by decide)
  have r1 : gfR S 513 0 = some 2 := hI.r (513, 0, 2) (by decide)
  have mA : MigAt S pA := hI.mig (by unfold isMig; omega)
  have aS : SchAt S sA := hI.sch (by unfold isSch; omega)
  unfold f_X8_isDown
  simp only [g_getI, g_getL, g_getR, g_putI, g_putZ, g_putL, g_putR, g_ldI, g_ldL, g_ldR, g_stI, g_stZ, g_stL, g_stR, g_alen, g_ldX, g_cVI, g_cVL, g_cVR, g_cVV, g_cI, g_cL, g_cN, g_lt, g_jn, g_cpI, g_cpL, g_z, Nat.reduceMul, Nat.reduceAdd, Option.bind_some, or_true, true_or, if_true, q_pI_fI, q_pI_fL, q_pI_fR, q_pI_aI, q_pI_aL, q_pI_aR, q_pI_K, q_pI_ln, q_pI_n, q_pI_sl, q_pI_is, q_pI_ck, q_pL_fI, q_pL_fL, q_pL_fR, q_pL_aI, q_pL_aL, q_pL_aR, q_pL_K, q_pL_ln, q_pL_n, q_pL_sl, q_pL_is, q_pL_ck, q_pR_fI, q_pR_fL, q_pR_fR, q_pR_aI, q_pR_aL, q_pR_aR, q_pR_K, q_pR_ln, q_pR_n, q_pR_sl, q_pR_is, q_pR_ck, q_rI_fI, q_rI_fL, q_rI_fR, q_rI_aI, q_rI_aL, q_rI_aR, q_rI_K, q_rI_ln, q_rI_n, q_rI_sl, q_rI_is, q_rI_ck, q_rL_fI, q_rL_fL, q_rL_fR, q_rL_aI, q_rL_aL, q_rL_aR, q_rL_K, q_rL_ln, q_rL_n, q_rL_sl, q_rL_is, q_rL_ck, q_rR_fI, q_rR_fL, q_rR_fR, q_rR_aI, q_rR_aL, q_rR_aR, q_rR_K, q_rR_ln, q_rR_n, q_rR_sl, q_rR_is, q_rR_ck, g_ck_t c0, r0, g_ck_t c1, h2.1]
  rw [if_pos k1.1]
  exact ⟨S, rfl, hI, Fr.refl, h0⟩
def mSeen (m : mS) : Int32 := match m.2.2.2.2.2.2.2.1 with
  | none => -1
  | some (ts, _) => nI ts.length
theorem seen_C {S : gS} {m : mS} (h : RC S m) (k : mOk m) : COp S 0 237 (f_X8_seen S 0) (mSeen m) (fun S1 => RC S1 m) := by
  have h0 := h
  obtain ⟨dk, vr, pl, mg, sc, nx, dr, sn, tb⟩ := m
  obtain ⟨hI, sA, sB, pA, pB, h1, h2, h3, h4, h5, h6, h7, h8⟩ := h
  obtain ⟨k1, k2, k3, k4, k5, k6, k7, k8⟩ := k
  have hs := h1.2.2.2.2.2.2.1
  have hp := h1.2.2.2.2.2.2.2
  have c0 : g_is S 8 0 := hI.is (by decide) (by decide)
  have c1 : g_is S 0 1 := hI.is (by decide) (by decide)
  have c2 : g_is S 7 2 := hI.is (by decide) (by decide)
  have r0 : gfR S 512 0 = some 1 := hI.r (512, 0, 1) (by decide)
  have r1 : gfR S 513 0 = some 2 := hI.r (513, 0, 2) (by decide)
  have mA : MigAt S pA := hI.mig (by unfold isMig; omega)
  have aS : SchAt S sA := hI.sch (by unfold isSch; omega)
  unfold f_X8_seen
  have r4 : gfR S 516 0 = some 210 := hI.r (516, 0, 210) (by decide)
  have a5 : g_is S 5 210 := hI.is (by decide) (by decide)
  simp only [g_getI, g_getL, g_getR, g_putI, g_putZ, g_putL, g_putR, g_ldI, g_ldL, g_ldR, g_stI, g_stZ, g_stL, g_stR, g_alen, g_ldX, g_cVI, g_cVL, g_cVR, g_cVV, g_cI, g_cL, g_cN, g_lt, g_jn, g_cpI, g_cpL, g_z, Nat.reduceMul, Nat.reduceAdd, Option.bind_some, or_true, true_or, if_true, q_pI_fI, q_pI_fL, q_pI_fR, q_pI_aI, q_pI_aL, q_pI_aR, q_pI_K, q_pI_ln, q_pI_n, q_pI_sl, q_pI_is, q_pI_ck, q_pL_fI, q_pL_fL, q_pL_fR, q_pL_aI, q_pL_aL, q_pL_aR, q_pL_K, q_pL_ln, q_pL_n, q_pL_sl, q_pL_is, q_pL_ck, q_pR_fI, q_pR_fL, q_pR_fR, q_pR_aI, q_pR_aL, q_pR_aR, q_pR_K, q_pR_ln, q_pR_n, q_pR_sl, q_pR_is, q_pR_ck, q_rI_fI, q_rI_fL, q_rI_fR, q_rI_aI, q_rI_aL, q_rI_aR, q_rI_K, q_rI_ln, q_rI_n, q_rI_sl, q_rI_is, q_rI_ck, q_rL_fI, q_rL_fL, q_rL_fR, q_rL_aI, q_rL_aL, q_rL_aR, q_rL_K, q_rL_ln, q_rL_n, q_rL_sl, q_rL_is, q_rL_ck, q_rR_fI, q_rR_fL, q_rR_fR, q_rR_aI, q_rR_aL, q_rR_aR, q_rR_K, q_rR_ln, q_rR_n, q_rR_sl, q_rR_is, q_rR_ck, g_ck_t c0, r4, g_ck_t a5]
  cases sn with
  | none =>
    rw [show gfI S 517 0 = 0 from h6, if_pos rfl]
    exact ⟨S, rfl, hI, Fr.refl, h0⟩
  | some q =>
    obtain ⟨ts, vs⟩ := q
    obtain ⟨g1, g2, -⟩ := h6
    rw [g1, if_neg (by decide), g2]
    exact ⟨S, rfl, hI, Fr.refl, h0⟩
/-- the call's own count of actions begins anew -/
def mStart (d : mDk) : mDk := (d.1, d.2.1, d.2.2.1, d.2.2.2.1, 0)
theorem mStart_ok {d : mDk} (h : dkOk d) : dkOk (mStart d) := h
theorem startCall_C {S : gS} {d : mDk} (hI : Imm S) (h : DiskC S d) : COv S 1 2 (f_X0_startCall S 1) (fun S1 => DiskC S1 (mStart d)) := by
  obtain ⟨d1, d2, d3, d4, d5⟩ := h
  unfold f_X0_startCall
  simp only [g_getI, g_getL, g_getR, g_putI, g_putZ, g_putL, g_putR, g_ldI, g_ldL, g_ldR, g_stI, g_stZ, g_stL, g_stR, g_alen, g_ldX, g_cVI, g_cVL, g_cVR, g_cVV, g_cI, g_cL, g_cN, g_lt, g_jn, g_cpI, g_cpL, g_z, Nat.reduceMul, Nat.reduceAdd, Option.bind_some, or_true, true_or, if_true, q_pI_fI, q_pI_fL, q_pI_fR, q_pI_aI, q_pI_aL, q_pI_aR, q_pI_K, q_pI_ln, q_pI_n, q_pI_sl, q_pI_is, q_pI_ck, q_pL_fI, q_pL_fL, q_pL_fR, q_pL_aI, q_pL_aL, q_pL_aR, q_pL_K, q_pL_ln, q_pL_n, q_pL_sl, q_pL_is, q_pL_ck, q_pR_fI, q_pR_fL, q_pR_fR, q_pR_aI, q_pR_aL, q_pR_aR, q_pR_K, q_pR_ln, q_pR_n, q_pR_sl, q_pR_is, q_pR_ck, q_rI_fI, q_rI_fL, q_rI_fR, q_rI_aI, q_rI_aL, q_rI_aR, q_rI_K, q_rI_ln, q_rI_n, q_rI_sl, q_rI_is, q_rI_ck, q_rL_fI, q_rL_fL, q_rL_fR, q_rL_aI, q_rL_aL, q_rL_aR, q_rL_K, q_rL_ln, q_rL_n, q_rL_sl, q_rL_is, q_rL_ck, q_rR_fI, q_rR_fL, q_rR_fR, q_rR_aI, q_rR_aL, q_rR_aR, q_rR_K, q_rR_ln, q_rR_n, q_rR_sl, q_rR_is, q_rR_ck, g_ck_t (hI.is (show 1 < 265 by decide) (show K0 1 = 0 by decide))]
  refine ⟨_, rfl, hI.of rfl rfl rfl rfl rfl, Fr.pI (by decide) (by decide), ?_⟩
  simp [DiskC, q_pI_fI, q_pI_fL, q_pI_fR, q_pI_aI, q_pI_aL, q_pI_aR, q_pI_K, q_pI_ln, q_pI_n, q_pI_sl, q_pI_is, q_pI_ck, q_pL_fI, q_pL_fL, q_pL_fR, q_pL_aI, q_pL_aL, q_pL_aR, q_pL_K, q_pL_ln, q_pL_n, q_pL_sl, q_pL_is, q_pL_ck, q_pR_fI, q_pR_fL, q_pR_fR, q_pR_aI, q_pR_aL, q_pR_aR, q_pR_K, q_pR_ln, q_pR_n, q_pR_sl, q_pR_is, q_pR_ck, q_rI_fI, q_rI_fL, q_rI_fR, q_rI_aI, q_rI_aL, q_rI_aR, q_rI_K, q_rI_ln, q_rI_n, q_rI_sl, q_rI_is, q_rI_ck, q_rL_fI, q_rL_fL, q_rL_fR, q_rL_aI, q_rL_aL, q_rL_aR, q_rL_K, q_rL_ln, q_rL_n, q_rL_sl, q_rL_is, q_rL_ck, q_rR_fI, q_rR_fL, q_rR_fR, q_rR_aI, q_rR_aL, q_rR_aR, q_rR_K, q_rR_ln, q_rR_n, q_rR_sl, q_rR_is, q_rR_ck, g_up, d1, d2, d3, d4, mStart]
/-- the model with another disk -/
def wDk (m : mS) (d : mDk) : mS := (d, m.2)
theorem RC.disk {S S1 : gS} {m : mS} {d : mDk} (h : RC S m) (k : mOk m) (hI : Imm S1) (e : Fr 1 2 S S1) (hd : DiskC S1 d) : RC S1 (wDk m d) := by
  obtain ⟨dk, vr, pl, mg, sc, nx, dr, sn, tb⟩ := m
  obtain ⟨-, sA, sB, pA, pB, h1, h2, h3, h4, h5, h6, h7, h8⟩ := h
  obtain ⟨k1, k2, k3, k4, k5, k6, k7, k8⟩ := k
  have hs := h1.2.2.2.2.2.2.1
  have hp := h1.2.2.2.2.2.2.2
  exact ⟨hI, sA, sB, pA, pB, h1.fr (e 0 (by omega)), hd, h3.fr k2.1 (fun a a1 a2 => e a (by omega)), h4.fr (fun a a1 a2 => e a (by omega)), h5.fr (e _ (by omega)) (e _ (by omega)), h6.fr ((e 0 (by omega)).1 _) (fun a a1 a2 => e a (by omega)), h7.fr k5 (fun a a1 a2 => e a (by omega)), fun hr => ⟨(h8 hr).1.fr (fun a a1 a2 => e a (by omega)), (h8 hr).2.fr (k4 hr).1.1 (fun a a1 a2 => e a (by omega))⟩⟩
theorem RC.dk {S : gS} {m : mS} (h : RC S m) : Imm S ∧ DiskC S m.1 := by
  obtain ⟨dk, vr, pl, mg, sc, nx, dr, sn, tb⟩ := m
  obtain ⟨hI, sA, sB, pA, pB, h1, h2, -⟩ := h
  exact ⟨hI, h2⟩
theorem mOk.disk {m : mS} {d : mDk} (k : mOk m) (hd : dkOk d) : mOk (wDk m d) := by
  obtain ⟨dk, vr, pl, mg, sc, nx, dr, sn, tb⟩ := m
  exact ⟨hd, k.2⟩
theorem mOk.dk {m : mS} (k : mOk m) : dkOk m.1 := by
  obtain ⟨dk, vr, pl, mg, sc, nx, dr, sn, tb⟩ := m
  exact k.1
theorem mNote_ok {d : mDk} (h : dkOk d) : dkOk (mNote d).2 := by
  have h1 : dkOk (d.1, 1, d.2.2) := ⟨h.1, Or.inr rfl, h.2.2⟩
  have h2 := mActs_ok 3 h1
  unfold mNote
  dsimp only
  split
  · exact ⟨h2.1, Or.inl rfl, h2.2.2⟩
  · exact h2
def mRestart (m : mS) : Int32 × mS := if (mStart m.1).1 = 0 then (-2, wDk m (mStart m.1)) else if (mStart m.1).2.1 = 0 then (1, wDk m (0, (mStart m.1).2)) else if (mNote (mStart m.1)).1 = true then (1, wDk m (0, (mNote (mStart m.1)).2.2)) else (-9, wDk m (mNote (mStart m.1)).2)
theorem restart_C {S : gS} {m : mS} (h : RC S m) (k : mOk m) : COp S 0 237 (f_X8_restart S 0) (mRestart m).1 (fun S1 => RC S1 (mRestart m).2) := by
  obtain ⟨hI, hD⟩ := h.dk
  have c0 : g_is S 8 0 := hI.is (by decide) (by decide)
  have r0 : gfR S 512 0 = some 1 := hI.r (512, 0, 1) (by decide)
  obtain ⟨S1, a1, a2, a3, a4⟩ := startCall_C hI hD
  unfold f_X8_restart
  simp only [g_getI, g_getL, g_getR, g_putI, g_putZ, g_putL, g_putR, g_ldI, g_ldL, g_ldR, g_stI, g_stZ, g_stL, g_stR, g_alen, g_ldX, g_cVI, g_cVL, g_cVR, g_cVV, g_cI, g_cL, g_cN, g_lt, g_jn, g_cpI, g_cpL, g_z, Nat.reduceMul, Nat.reduceAdd, Option.bind_some, or_true, true_or, if_true, g_ck_t c0, r0, g_ck_t (hI.is (show 1 < 265 by decide) (show K0 1 = 0 by decide)), a1]
  have c0' : g_is S1 8 0 := a2.is (by decide) (by decide)
  have c1' : g_is S1 0 1 := a2.is (by decide) (by decide)
  have r0' : gfR S1 512 0 = some 1 := a2.r (512, 0, 1) (by decide)
  simp only [g_ck_t c0', r0', g_ck_t c1', Option.bind_some]
  unfold mRestart
  rw [a4.1, a4.2.1]
  by_cases e1 : (mStart m.1).1 = 0
  · rw [if_pos e1, if_pos e1]
    exact ⟨S1, rfl, a2, a3.mono (by decide) (by decide), h.disk k a2 a3 a4⟩
  · rw [if_neg e1, if_neg e1]
    by_cases e2 : (mStart m.1).2.1 = 0
    · rw [if_pos e2, if_pos e2]
      have e : Fr 1 2 S1 (g_pI S1 0 1 0) := Fr.pI (by decide) (by decide)
      refine ⟨_, rfl, a2.of rfl rfl rfl rfl rfl, (a3.trans e).mono (by decide) (by decide), h.disk k (a2.of rfl rfl rfl rfl rfl) (a3.trans e) ?_⟩
      obtain ⟨d1, d2, d3, d4, d5⟩ := a4
      simp [DiskC, q_pI_fI, q_pI_fL, q_pI_fR, q_pI_aI, q_pI_aL, q_pI_aR, q_pI_K, q_pI_ln, q_pI_n, q_pI_sl, q_pI_is, q_pI_ck, q_pL_fI, q_pL_fL, q_pL_fR, q_pL_aI, q_pL_aL, q_pL_aR, q_pL_K, q_pL_ln, q_pL_n, q_pL_sl, q_pL_is, q_pL_ck, q_pR_fI, q_pR_fL, q_pR_fR, q_pR_aI, q_pR_aL, q_pR_aR, q_pR_K, q_pR_ln, q_pR_n, q_pR_sl, q_pR_is, q_pR_ck, q_rI_fI, q_rI_fL, q_rI_fR, q_rI_aI, q_rI_aL, q_rI_aR, q_rI_K, q_rI_ln, q_rI_n, q_rI_sl, q_rI_is, q_rI_ck, q_rL_fI, q_rL_fL, q_rL_fR, q_rL_aI, q_rL_aL, q_rL_aR, q_rL_K, q_rL_ln, q_rL_n, q_rL_sl, q_rL_is, q_rL_ck, q_rR_fI, q_rR_fL, q_rR_fR, q_rR_aI, q_rR_aL, q_rR_aR, q_rR_K, q_rR_ln, q_rR_n, q_rR_sl, q_rR_is, q_rR_ck, g_up, d2, d3, d4, d5]
    · rw [if_neg e2, if_neg e2]
      obtain ⟨S2, b1, b2, b3, b4⟩ := note_C a2 a4
      rw [b1, Option.bind_some]
      dsimp only
      by_cases e3 : (mNote (mStart m.1)).1 = true
      · rw [if_pos e3, show b32 (mNote (mStart m.1)).1 = 1 by rw [e3]; rfl, if_neg (by decide), g_ck_t (b2.is (show 0 < 265 by decide) (show K0 0 = 8 by decide)), b2.r (512, 0, 1) (by decide), Option.bind_some, g_ck_t (b2.is (show 1 < 265 by decide) (show K0 1 = 0 by decide))]
        have e : Fr 1 2 S2 (g_pI S2 0 1 0) := Fr.pI (by decide) (by decide)
        refine ⟨_, rfl, b2.of rfl rfl rfl rfl rfl, ((a3.trans b3).trans e).mono (by decide) (by decide), h.disk k (b2.of rfl rfl rfl rfl rfl) ((a3.trans b3).trans e) ?_⟩
        obtain ⟨d1, d2, d3, d4, d5⟩ := b4
        simp [DiskC, q_pI_fI, q_pI_fL, q_pI_fR, q_pI_aI, q_pI_aL, q_pI_aR, q_pI_K, q_pI_ln, q_pI_n, q_pI_sl, q_pI_is, q_pI_ck, q_pL_fI, q_pL_fL, q_pL_fR, q_pL_aI, q_pL_aL, q_pL_aR, q_pL_K, q_pL_ln, q_pL_n, q_pL_sl, q_pL_is, q_pL_ck, q_pR_fI, q_pR_fL, q_pR_fR, q_pR_aI, q_pR_aL, q_pR_aR, q_pR_K, q_pR_ln, q_pR_n, q_pR_sl, q_pR_is, q_pR_ck, q_rI_fI, q_rI_fL, q_rI_fR, q_rI_aI, q_rI_aL, q_rI_aR, q_rI_K, q_rI_ln, q_rI_n, q_rI_sl, q_rI_is, q_rI_ck, q_rL_fI, q_rL_fL, q_rL_fR, q_rL_aI, q_rL_aL, q_rL_aR, q_rL_K, q_rL_ln, q_rL_n, q_rL_sl, q_rL_is, q_rL_ck, q_rR_fI, q_rR_fL, q_rR_fR, q_rR_aI, q_rR_aL, q_rR_aR, q_rR_K, q_rR_ln, q_rR_n, q_rR_sl, q_rR_is, q_rR_ck, g_up, d2, d3, d4, d5]
      · have e4 : (mNote (mStart m.1)).1 = false := by simpa using e3
        rw [if_neg e3, show b32 (mNote (mStart m.1)).1 = 0 by rw [e4]; rfl, if_pos rfl]
        exact ⟨S2, rfl, b2, (a3.trans b3).mono (by decide) (by decide), h.disk k b2 (a3.trans b3) b4⟩
