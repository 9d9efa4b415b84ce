/-! ===== the same of the reference ===== -/
/-- only int fields lo .. hi of the reference's object change -/
def RF (lo hi : Nat) (S S1 : gS) : Prop := gfL S1 = gfL S ∧ gfR S1 = gfR S ∧ gaI S1 = gaI S ∧ gaL S1 = gaL S ∧ gaR S1 = gaR S ∧ gK S1 = gK S ∧ gln S1 = gln S ∧ gnn S1 = gnn S ∧ ∀ f a, ¬ (a = 237 ∧ lo ≤ f ∧ f < hi) → gfI S1 f a = gfI S f a
theorem RF.refl {lo hi : Nat} {S : gS} : RF lo hi S S := ⟨rfl, rfl, rfl, rfl, rfl, rfl, rfl, rfl, fun _ _ _ => rfl⟩
theorem RF.trans {lo hi : Nat} {S S1 S2 : gS} (h : RF lo hi S S1) (g : RF lo hi S1 S2) : RF lo hi S S2 := by
  obtain ⟨a1, a2, a3, a4, a5, a6, a7, a8, a9⟩ := h
  obtain ⟨b1, b2, b3, b4, b5, b6, b7, b8, b9⟩ := g
  exact ⟨b1.trans a1, b2.trans a2, b3.trans a3, b4.trans a4, b5.trans a5, b6.trans a6, b7.trans a7, b8.trans a8, fun f a h => (b9 f a h).trans (a9 f a h)⟩
theorem RF.pI {lo hi f : Nat} {S : gS} {v : Int32} (h1 : lo ≤ f) (h2 : f < hi) : RF lo hi S (g_pI S f 237 v) := by
  refine ⟨rfl, rfl, rfl, rfl, rfl, rfl, rfl, rfl, fun g a h => ?_⟩
  rw [q_pI_fI]
  unfold g_up
  rw [if_neg]
  intro q
  exact h ⟨q.2, by omega, by omega⟩
theorem RF.imm {lo hi : Nat} {S S1 : gS} (h : RF lo hi S S1) (hI : Imm S) : Imm S1 := hI.of h.2.2.2.2.2.1 h.2.2.2.2.2.2.1 h.2.2.2.2.2.2.2.1 h.2.1 h.2.2.2.2.1
theorem RF.fr {lo hi : Nat} {S S1 : gS} (h : RF lo hi S S1) : Fr 237 265 S S1 := by
  obtain ⟨a1, a2, a3, a4, a5, a6, a7, a8, a9⟩ := h
  intro a ha
  exact ⟨fun f => a9 f a (by omega), fun f => by rw [a1], fun f => by rw [a2], by rw [a3], by rw [a4], by rw [a5]⟩
theorem RF.mono {lo hi lo2 hi2 : Nat} {S S1 : gS} (h : RF lo hi S S1) (h1 : lo2 ≤ lo) (h2 : hi ≤ hi2) : RF lo2 hi2 S S1 := by
  obtain ⟨a1, a2, a3, a4, a5, a6, a7, a8, a9⟩ := h
  exact ⟨a1, a2, a3, a4, a5, a6, a7, a8, fun f a q => a9 f a (fun z => q ⟨z.1, by omega, by omega⟩)⟩
def ROpI {ρ : Type} (S : gS) (lo hi : Nat) (o : Option (ρ × gS)) (x : ρ) (P : gS → Prop) : Prop := ∃ S1, o = some (x, S1) ∧ RF lo hi S S1 ∧ P S1
theorem act_R {S : gS} {d : mDk} (hI : Imm S) (k : dkOk d) (h : DiskR S d) : ROpI S 605 609 (f_X9_act S 237) (b32 (mAct d).1) (fun S1 => DiskR S1 (mAct d).2) := by
  obtain ⟨h1, h2, h3, h4, h5⟩ := h
  obtain ⟨-, -, c, kc, kd⟩ := k
  have hd : g_is S 9 237 := hI.is (by decide) (by decide)
  unfold f_X9_act mAct
  simp only [g_getI, g_getL, g_getR, g_putI, g_putZ, g_putL, g_putR, g_ldI, g_ldL, g_ldR, g_stI, g_stZ, g_stL, g_stR, g_alen, g_ldX, g_cVI, g_cVL, g_cVR, g_cVV, g_cI, g_cL, g_cN, g_lt, g_jn, g_cpI, g_cpL, g_z, Nat.reduceMul, Nat.reduceAdd, Option.bind_some, or_true, true_or, if_true, q_pI_fI, q_pI_fL, q_pI_fR, q_pI_aI, q_pI_aL, q_pI_aR, q_pI_K, q_pI_ln, q_pI_n, q_pI_sl, q_pI_is, q_pI_ck, q_pL_fI, q_pL_fL, q_pL_fR, q_pL_aI, q_pL_aL, q_pL_aR, q_pL_K, q_pL_ln, q_pL_n, q_pL_sl, q_pL_is, q_pL_ck, q_pR_fI, q_pR_fL, q_pR_fR, q_pR_aI, q_pR_aL, q_pR_aR, q_pR_K, q_pR_ln, q_pR_n, q_pR_sl, q_pR_is, q_pR_ck, q_rI_fI, q_rI_fL, q_rI_fR, q_rI_aI, q_rI_aL, q_rI_aR, q_rI_K, q_rI_ln, q_rI_n, q_rI_sl, q_rI_is, q_rI_ck, q_rL_fI, q_rL_fL, q_rL_fR, q_rL_aI, q_rL_aL, q_rL_aR, q_rL_K, q_rL_ln, q_rL_n, q_rL_sl, q_rL_is, q_rL_ck, q_rR_fI, q_rR_fL, q_rR_fR, q_rR_aI, q_rR_aL, q_rR_aR, q_rR_K, q_rR_ln, q_rR_n, q_rR_sl, q_rR_is, q_rR_ck, g_ck_t hd, h3]
  by_cases e : d.2.2.1 = 1
  · rw [if_pos e, if_neg (show ¬ d.2.2.1 ≤ 0 by rw [e]; decide), if_pos (show g_up (gfI S) 607 237 (d.2.2.1 - 1) 607 237 = 0 by rw [g_up_s, e]; decide)]
    refine ⟨_, rfl, (RF.pI (by decide) (by decide)).trans (RF.pI (by decide) (by decide)), ?_⟩
    simp [DiskR, q_pI_fI, q_pI_fL, q_pI_fR, q_pI_aI, q_pI_aL, q_pI_aR, q_pI_K, q_pI_ln, q_pI_n, q_pI_sl, q_pI_is, q_pI_ck, q_pL_fI, q_pL_fL, q_pL_fR, q_pL_aI, q_pL_aL, q_pL_aR, q_pL_K, q_pL_ln, q_pL_n, q_pL_sl, q_pL_is, q_pL_ck, q_pR_fI, q_pR_fL, q_pR_fR, q_pR_aI, q_pR_aL, q_pR_aR, q_pR_K, q_pR_ln, q_pR_n, q_pR_sl, q_pR_is, q_pR_ck, q_rI_fI, q_rI_fL, q_rI_fR, q_rI_aI, q_rI_aL, q_rI_aR, q_rI_K, q_rI_ln, q_rI_n, q_rI_sl, q_rI_is, q_rI_ck, q_rL_fI, q_rL_fL, q_rL_fR, q_rL_aI, q_rL_aL, q_rL_aR, q_rL_K, q_rL_ln, q_rL_n, q_rL_sl, q_rL_is, q_rL_ck, q_rR_fI, q_rR_fL, q_rR_fR, q_rR_aI, q_rR_aL, q_rR_aR, q_rR_K, q_rR_ln, q_rR_n, q_rR_sl, q_rR_is, q_rR_ck, g_up, h2, h4, h5, e]
  · rw [if_neg e]
    by_cases g : d.2.2.1 ≤ 0
    · rw [if_pos g, if_pos g]
      refine ⟨_, rfl, (RF.pI (by decide) (by decide)).trans (RF.pI (by decide) (by decide)), ?_⟩
      simp [DiskR, q_pI_fI, q_pI_fL, q_pI_fR, q_pI_aI, q_pI_aL, q_pI_aR, q_pI_K, q_pI_ln, q_pI_n, q_pI_sl, q_pI_is, q_pI_ck, q_pL_fI, q_pL_fL, q_pL_fR, q_pL_aI, q_pL_aL, q_pL_aR, q_pL_K, q_pL_ln, q_pL_n, q_pL_sl, q_pL_is, q_pL_ck, q_pR_fI, q_pR_fL, q_pR_fR, q_pR_aI, q_pR_aL, q_pR_aR, q_pR_K, q_pR_ln, q_pR_n, q_pR_sl, q_pR_is, q_pR_ck, q_rI_fI, q_rI_fL, q_rI_fR, q_rI_aI, q_rI_aL, q_rI_aR, q_rI_K, q_rI_ln, q_rI_n, q_rI_sl, q_rI_is, q_rI_ck, q_rL_fI, q_rL_fL, q_rL_fR, q_rL_aI, q_rL_aL, q_rL_aR, q_rL_K, q_rL_ln, q_rL_n, q_rL_sl, q_rL_is, q_rL_ck, q_rR_fI, q_rR_fL, q_rR_fR, q_rR_aI, q_rR_aL, q_rR_aR, q_rR_K, q_rR_ln, q_rR_n, q_rR_sl, q_rR_is, q_rR_ck, g_up, h1, h2, h3, h4, h5]
    · have hne : ¬ d.2.2.1 - 1 = 0 := by
        intro z
        apply e
        rw [kd] at z g ⊢
        have hc : 0 < c := by
          rcases Nat.eq_zero_or_pos c with q | q
          · subst q; exact absurd (by decide) g
          · exact q
        rw [show (1 : Int32) = nI 1 from rfl, sub_nI (by omega)] at z
        have := (nI_eq0 (by omega)).mp z
        rw [show c = 1 by omega]
        rfl
      rw [if_neg g, if_neg g, if_neg (show ¬ g_up (gfI S) 607 237 (d.2.2.1 - 1) 607 237 = 0 by rw [g_up_s]; exact hne)]
      refine ⟨_, rfl, ((RF.pI (by decide) (by decide)).trans (RF.pI (by decide) (by decide))).trans (RF.pI (by decide) (by decide)), ?_⟩
      simp [DiskR, q_pI_fI, q_pI_fL, q_pI_fR, q_pI_aI, q_pI_aL, q_pI_aR, q_pI_K, q_pI_ln, q_pI_n, q_pI_sl, q_pI_is, q_pI_ck, q_pL_fI, q_pL_fL, q_pL_fR, q_pL_aI, q_pL_aL, q_pL_aR, q_pL_K, q_pL_ln, q_pL_n, q_pL_sl, q_pL_is, q_pL_ck, q_pR_fI, q_pR_fL, q_pR_fR, q_pR_aI, q_pR_aL, q_pR_aR, q_pR_K, q_pR_ln, q_pR_n, q_pR_sl, q_pR_is, q_pR_ck, q_rI_fI, q_rI_fL, q_rI_fR, q_rI_aI, q_rI_aL, q_rI_aR, q_rI_K, q_rI_ln, q_rI_n, q_rI_sl, q_rI_is, q_rI_ck, q_rL_fI, q_rL_fL, q_rL_fR, q_rL_aI, q_rL_aL, q_rL_aR, q_rL_K, q_rL_ln, q_rL_n, q_rL_sl, q_rL_is, q_rL_ck, q_rR_fI, q_rR_fL, q_rR_fR, q_rR_aI, q_rR_aL, q_rR_aR, q_rR_K, q_rR_ln, q_rR_n, q_rR_sl, q_rR_is, q_rR_ck, g_up, h1, h2, h4, h5]
theorem acts_loop : ∀ (n fu k N : Nat) (S : gS) (d : mDk), k + n = N → n < fu → N < 1000 → Imm S → dkOk d → DiskR S d → ROpI S 605 609 (l_X9_acts_2 237 (nI N) fu S (nI k)) (nI (k + (mActs n d).1)) (fun S1 => DiskR S1 (mActs n d).2) := by
  intro n
  induction n with
  | zero =>
    intro fu k N S d hk hf hN hI kd h
    obtain ⟨fu, rfl⟩ : ∃ m, fu = m + 1 := ⟨fu - 1, by omega⟩
    rw [l_X9_acts_2, if_pos (nI_le (by omega) (by omega))]
    exact ⟨S, rfl, RF.refl, h⟩
  | succ n ih =>
    intro fu k N S d hk hf hN hI kd h
    obtain ⟨fu, rfl⟩ : ∃ m, fu = m + 1 := ⟨fu - 1, by omega⟩
    rw [l_X9_acts_2, if_neg (by rw [nI_leI (by omega) (by omega)]; omega)]
    obtain ⟨S1, a1, a3, a4⟩ := act_R hI kd h
    unfold g_cVI
    rw [g_ck_t (hI.is (by decide) (by decide)), a1, Option.bind_some]
    dsimp only
    unfold mActs
    by_cases e : (mAct d).1 = true
    · rw [if_pos e, show b32 (mAct d).1 = 1 by rw [e]; rfl, if_neg (by decide), add1]
      obtain ⟨S2, b1, b3, b4⟩ := ih fu (k + 1) N S1 (mAct d).2 (by omega) (by omega) hN (a3.imm hI) (mAct_ok kd) a4
      refine ⟨S2, ?_, a3.trans b3, b4⟩
      rw [b1]
      congr 3
      dsimp only
      omega
    · have e2 : (mAct d).1 = false := by simpa using e
      rw [if_neg e, show b32 (mAct d).1 = 0 by rw [e2]; rfl, if_pos rfl]
      exact ⟨S1, rfl, a3, a4⟩
theorem acts_R {S : gS} {d : mDk} {n : Nat} (hn : n < 90) (hI : Imm S) (kd : dkOk d) (h : DiskR S d) : ROpI S 605 609 (f_X9_acts S 237 (nI n)) (nI (mActs n d).1) (fun S1 => DiskR S1 (mActs n d).2) := by
  have := acts_loop n 100 0 n S d (by omega) (by omega) (by omega) hI kd h
  rw [Nat.zero_add] at this
  exact this
/-- the reference's other parts stay when only fields of the disk change -/
theorem RR.disk {S S1 : gS} {m : mS} {d : mDk} (h : RR S m) (e : RF 605 610 S S1) (hd : DiskR S1 d) : RR S1 (wDk m d) := by
  obtain ⟨dk, vr, pl, mg, sc, nx, dr, sn, tb⟩ := m
  obtain ⟨hI, h2, h3, h4, h5, h6, h7, h8, h9, h10⟩ := h
  have hI1 := e.imm hI
  obtain ⟨a1, a2, a3, a4, a5, a6, a7, a8, a9⟩ := e
  have ef : ∀ f, (f < 605 ∨ 610 ≤ f) → gfI S1 f 237 = gfI S f 237 := fun f hf => a9 f 237 (by omega)
  have hF : ∀ s ts vs, FormR S s ts vs → FormR S1 s ts vs := by
    intro s ts vs hf
    unfold FormR
    rw [a3, a4]
    exact hf
  refine ⟨hI1, hd, (ef _ (by omega)).trans h3, (ef _ (by omega)).trans h4, ⟨(ef _ (by omega)).trans h5.1, ?_⟩, ?_, ?_, ?_, ?_, fun hr => ⟨?_, (ef _ (by omega)).trans (h10 hr).2.1, ?_⟩⟩
  · unfold PlanR; rw [a3]; exact h5.2
  · unfold SchR; rw [a3]; exact h6
  · unfold DraftR; rw [a3]; exact h7
  · cases sn with
    | none => exact (ef _ (by omega)).trans h8
    | some q =>
      obtain ⟨ts, vs⟩ := q
      exact ⟨(ef _ (by omega)).trans h8.1, by rw [a3]; exact h8.2.1, hF _ _ _ h8.2.2⟩
  · unfold TableR
    rw [ef 582 (by omega), a3]
    refine ⟨h9.1, h9.2.1, h9.2.2.1, fun i r hi => ?_⟩
    obtain ⟨r1, ⟨s, r2, r3, r4, r5, r6⟩, r7⟩ := h9.2.2.2 i r hi
    unfold RowR
    rw [a3]
    exact ⟨r1, ⟨s, r2, r3, r4, hF _ _ _ r5, fun hr => hF _ _ _ (r6 hr)⟩, r7⟩
  · unfold SchR; rw [a3]; exact (h10 hr).1
  · unfold PlanR; rw [a3]; exact (h10 hr).2.2
theorem RR.dk {S : gS} {m : mS} (h : RR S m) : Imm S ∧ DiskR S m.1 := by
  obtain ⟨dk, vr, pl, mg, sc, nx, dr, sn, tb⟩ := m
  exact ⟨h.1, h.2.1⟩
theorem scrap_R {S : gS} {m : mS} (h : RR S m) (k : mOk m) : COp S 237 265 (f_X9_scrap S 237) (mScrap m).1 (fun S1 => RR S1 (mScrap m).2) := by
  obtain ⟨dk, vr, pl, mg, sc, nx, dr, sn, tb⟩ := m
  obtain ⟨hI, h2, h3, h4, h5, h6, h7, h8, h9, h10⟩ := h
  obtain ⟨k1, k2, k3, k4, k5, k6, k7, k8⟩ := k
  have hR := hI.ref
  unfold f_X9_scrap
  simp only [g_getI, g_getL, g_getR, g_putI, g_putZ, g_putL, g_putR, g_ldI, g_ldL, g_ldR, g_stI, g_stZ, g_stL, g_stR, g_alen, g_ldX, g_cVI, g_cVL, g_cVR, g_cVV, g_cI, g_cL, g_cN, g_lt, g_jn, g_cpI, g_cpL, g_z, Nat.reduceMul, Nat.reduceAdd, Option.bind_some, or_true, true_or, if_true, q_pI_fI, q_pI_fL, q_pI_fR, q_pI_aI, q_pI_aL, q_pI_aR, q_pI_K, q_pI_ln, q_pI_n, q_pI_sl, q_pI_is, q_pI_ck, q_pL_fI, q_pL_fL, q_pL_fR, q_pL_aI, q_pL_aL, q_pL_aR, q_pL_K, q_pL_ln, q_pL_n, q_pL_sl, q_pL_is, q_pL_ck, q_pR_fI, q_pR_fL, q_pR_fR, q_pR_aI, q_pR_aL, q_pR_aR, q_pR_K, q_pR_ln, q_pR_n, q_pR_sl, q_pR_is, q_pR_ck, q_rI_fI, q_rI_fL, q_rI_fR, q_rI_aI, q_rI_aL, q_rI_aR, q_rI_K, q_rI_ln, q_rI_n, q_rI_sl, q_rI_is, q_rI_ck, q_rL_fI, q_rL_fL, q_rL_fR, q_rL_aI, q_rL_aL, q_rL_aR, q_rL_K, q_rL_ln, q_rL_n, q_rL_sl, q_rL_is, q_rL_ck, q_rR_fI, q_rR_fL, q_rR_fR, q_rR_aI, q_rR_aL, q_rR_aR, q_rR_K, q_rR_ln, q_rR_n, q_rR_sl, q_rR_is, q_rR_ck, ck9 hR, h5.1]
  have e : RF 597 598 S (g_pI S 597 237 0) := RF.pI (by decide) (by decide)
  have ef : ∀ f, f ≠ 597 → gfI (g_pI S 597 237 0) f 237 = gfI S f 237 := fun f hf => by rw [q_pI_fI]; exact g_up_f hf
  refine ⟨_, rfl, e.imm hI, e.fr, e.imm hI, ?_, (ef _ (by decide)).trans h3, (ef _ (by decide)).trans h4, ⟨(show gfI (g_pI S 597 237 0) 597 237 = nI 0 by rw [q_pI_fI]; exact g_up_s), fun k st hk => (by cases hk)⟩, h6, h7, ?_, ?_, fun hr => ⟨(h10 hr).1, (ef _ (by decide)).trans (h10 hr).2.1, (h10 hr).2.2⟩⟩
  · unfold DiskR; rw [ef _ (by decide), ef _ (by decide), ef _ (by decide), ef _ (by decide), ef _ (by decide)]; exact h2
  · cases sn with
    | none => exact (ef _ (by decide)).trans h8
    | some q => exact ⟨(ef _ (by decide)).trans h8.1, h8.2⟩
  · exact ⟨(ef _ (by decide)).trans h9.1, h9.2⟩
theorem crash_R {S : gS} {m : mS} {n : Int32} (h : RR S m) (k : mOk m) : COp S 237 265 (f_X9_crash S 237 n) (mCrash m n).1 (fun S1 => RR S1 (mCrash m n).2) := by
  have h0 := h
  obtain ⟨hI, hD⟩ := h.dk
  unfold f_X9_crash g_cI
  rw [isIn_eq, Option.bind_some]
  dsimp only
  obtain ⟨dk, vr, pl, mg, sc, nx, dr, sn, tb⟩ := m
  unfold mCrash
  dsimp only
  by_cases e : n < 0 ∨ 1000 < n
  · rw [if_pos e, if_pos e, if_pos rfl]
    exact ⟨S, rfl, hI, Fr.refl, h0⟩
  · rw [if_neg e, if_neg e, if_neg (by decide)]
    simp only [g_getI, g_getL, g_getR, g_putI, g_putZ, g_putL, g_putR, g_ldI, g_ldL, g_ldR, g_stI, g_stZ, g_stL, g_stR, g_alen, g_ldX, g_cVI, g_cVL, g_cVR, g_cVV, g_cI, g_cL, g_cN, g_lt, g_jn, g_cpI, g_cpL, g_z, Nat.reduceMul, Nat.reduceAdd, Option.bind_some, or_true, true_or, if_true, q_pI_fI, q_pI_fL, q_pI_fR, q_pI_aI, q_pI_aL, q_pI_aR, q_pI_K, q_pI_ln, q_pI_n, q_pI_sl, q_pI_is, q_pI_ck, q_pL_fI, q_pL_fL, q_pL_fR, q_pL_aI, q_pL_aL, q_pL_aR, q_pL_K, q_pL_ln, q_pL_n, q_pL_sl, q_pL_is, q_pL_ck, q_pR_fI, q_pR_fL, q_pR_fR, q_pR_aI, q_pR_aL, q_pR_aR, q_pR_K, q_pR_ln, q_pR_n, q_pR_sl, q_pR_is, q_pR_ck, q_rI_fI, q_rI_fL, q_rI_fR, q_rI_aI, q_rI_aL, q_rI_aR, q_rI_K, q_rI_ln, q_rI_n, q_rI_sl, q_rI_is, q_rI_ck, q_rL_fI, q_rL_fL, q_rL_fR, q_rL_aI, q_rL_aL, q_rL_aR, q_rL_K, q_rL_ln, q_rL_n, q_rL_sl, q_rL_is, q_rL_ck, q_rR_fI, q_rR_fL, q_rR_fR, q_rR_aI, q_rR_aL, q_rR_aR, q_rR_K, q_rR_ln, q_rR_n, q_rR_sl, q_rR_is, q_rR_ck, ck9 hI.ref]
    have q : RF 605 610 S (g_pI S 607 237 n) := RF.pI (by decide) (by decide)
    refine ⟨_, rfl, q.imm hI, q.fr, RR.disk h0 q ?_⟩
    obtain ⟨d1, d2, d3, d4, d5⟩ := hD
    simp [DiskR, q_pI_fI, q_pI_fL, q_pI_fR, q_pI_aI, q_pI_aL, q_pI_aR, q_pI_K, q_pI_ln, q_pI_n, q_pI_sl, q_pI_is, q_pI_ck, q_pL_fI, q_pL_fL, q_pL_fR, q_pL_aI, q_pL_aL, q_pL_aR, q_pL_K, q_pL_ln, q_pL_n, q_pL_sl, q_pL_is, q_pL_ck, q_pR_fI, q_pR_fL, q_pR_fR, q_pR_aI, q_pR_aL, q_pR_aR, q_pR_K, q_pR_ln, q_pR_n, q_pR_sl, q_pR_is, q_pR_ck, q_rI_fI, q_rI_fL, q_rI_fR, q_rI_aI, q_rI_aL, q_rI_aR, q_rI_K, q_rI_ln, q_rI_n, q_rI_sl, q_rI_is, q_rI_ck, q_rL_fI, q_rL_fL, q_rL_fR, q_rL_aI, q_rL_aL, q_rL_aR, q_rL_K, q_rL_ln, q_rL_n, q_rL_sl, q_rL_is, q_rL_ck, q_rR_fI, q_rR_fL, q_rR_fR, q_rR_aI, q_rR_aL, q_rR_aR, q_rR_K, q_rR_ln, q_rR_n, q_rR_sl, q_rR_is, q_rR_ck, g_up] at d1 d2 d4 d5 ⊢
    exact ⟨d1, d2, d4, d5⟩
theorem isDown_R {S : gS} {m : mS} (h : RR S m) (k : mOk m) : COp S 237 265 (f_X9_isDown S 237) (mDown1 m) (fun S1 => RR S1 m) := by
  obtain ⟨hI, hD⟩ := h.dk
  unfold f_X9_isDown
  simp only [g_getI, g_getL, g_getR, g_putI, g_putZ, g_putL, g_putR, g_ldI, g_ldL, g_ldR, g_stI, g_stZ, g_stL, g_stR, g_alen, g_ldX, g_cVI, g_cVL, g_cVR, g_cVV, g_cI, g_cL, g_cN, g_lt, g_jn, g_cpI, g_cpL, g_z, Nat.reduceMul, Nat.reduceAdd, Option.bind_some, or_true, true_or, if_true, q_pI_fI, q_pI_fL, q_pI_fR, q_pI_aI, q_pI_aL, q_pI_aR, q_pI_K, q_pI_ln, q_pI_n, q_pI_sl, q_pI_is, q_pI_ck, q_pL_fI, q_pL_fL, q_pL_fR, q_pL_aI, q_pL_aL, q_pL_aR, q_pL_K, q_pL_ln, q_pL_n, q_pL_sl, q_pL_is, q_pL_ck, q_pR_fI, q_pR_fL, q_pR_fR, q_pR_aI, q_pR_aL, q_pR_aR, q_pR_K, q_pR_ln, q_pR_n, q_pR_sl, q_pR_is, q_pR_ck, q_rI_fI, q_rI_fL, q_rI_fR, q_rI_aI, q_rI_aL, q_rI_aR, q_rI_K, q_rI_ln, q_rI_n, q_rI_sl, q_rI_is, q_rI_ck, q_rL_fI, q_rL_fL, q_rL_fR, q_rL_aI, q_rL_aL, q_rL_aR, q_rL_K, q_rL_ln, q_rL_n, q_rL_sl, q_rL_is, q_rL_ck, q_rR_fI, q_rR_fL, q_rR_fR, q_rR_aI, q_rR_aL, q_rR_aR, q_rR_K, q_rR_ln, q_rR_n, q_rR_sl, q_rR_is, q_rR_ck, ck9 hI.ref, hD.1]
  rw [if_pos k.dk.1]
  exact ⟨S, rfl, hI, Fr.refl, h⟩
theorem seen_R {S : gS} {m : mS} (h : RR S m) (k : mOk m) : COp S 237 265 (f_X9_seen S 237) (mSeen m) (fun S1 => RR S1 m) := by
  have h0 := h
  obtain ⟨dk, vr, pl, mg, sc, nx, dr, sn, tb⟩ := m
  obtain ⟨hI, h2, h3, h4, h5, h6, h7, h8, h9, h10⟩ := h
  obtain ⟨k1, k2, k3, k4, k5, k6, k7, k8⟩ := k
  have hR := hI.ref
  unfold f_X9_seen
  simp only [g_getI, g_getL, g_getR, g_putI, g_putZ, g_putL, g_putR, g_ldI, g_ldL, g_ldR, g_stI, g_stZ, g_stL, g_stR, g_alen, g_ldX, g_cVI, g_cVL, g_cVR, g_cVV, g_cI, g_cL, g_cN, g_lt, g_jn, g_cpI, g_cpL, g_z, Nat.reduceMul, Nat.reduceAdd, Option.bind_some, or_true, true_or, if_true, q_pI_fI, q_pI_fL, q_pI_fR, q_pI_aI, q_pI_aL, q_pI_aR, q_pI_K, q_pI_ln, q_pI_n, q_pI_sl, q_pI_is, q_pI_ck, q_pL_fI, q_pL_fL, q_pL_fR, q_pL_aI, q_pL_aL, q_pL_aR, q_pL_K, q_pL_ln, q_pL_n, q_pL_sl, q_pL_is, q_pL_ck, q_pR_fI, q_pR_fL, q_pR_fR, q_pR_aI, q_pR_aL, q_pR_aR, q_pR_K, q_pR_ln, q_pR_n, q_pR_sl, q_pR_is, q_pR_ck, q_rI_fI, q_rI_fL, q_rI_fR, q_rI_aI, q_rI_aL, q_rI_aR, q_rI_K, q_rI_ln, q_rI_n, q_rI_sl, q_rI_is, q_rI_ck, q_rL_fI, q_rL_fL, q_rL_fR, q_rL_aI, q_rL_aL, q_rL_aR, q_rL_K, q_rL_ln, q_rL_n, q_rL_sl, q_rL_is, q_rL_ck, q_rR_fI, q_rR_fL, q_rR_fR, q_rR_aI, q_rR_aL, q_rR_aR, q_rR_K, q_rR_ln, q_rR_n, q_rR_sl, q_rR_is, q_rR_ck, ck9 hR]
  refine ⟨S, ?_, hI, Fr.refl, h0⟩
  congr 2
  cases sn with
  | none => exact h8
  | some q => exact h8.1
theorem mActs_noted : ∀ (n : Nat) (d : mDk) (x : Int32), mActs n (d.1, x, d.2.2) = ((mActs n d).1, ((mActs n d).2.1, x, (mActs n d).2.2.2)) := by
  intro n
  induction n with
  | zero => intro d x; rfl
  | succ n ih =>
    intro d x
    unfold mActs
    have e1 : (mAct (d.1, x, d.2.2)).1 = (mAct d).1 := by unfold mAct; dsimp only; split <;> rfl
    have e2 : (mAct (d.1, x, d.2.2)).2 = ((mAct d).2.1, x, (mAct d).2.2.2) := by unfold mAct; dsimp only; split <;> rfl
    rw [e1, e2]
    by_cases h : (mAct d).1 = true
    · rw [if_pos h, if_pos h, ih]
    · rw [if_neg h, if_neg h]
theorem restart_R {S : gS} {m : mS} (h : RR S m) (k : mOk m) : COp S 237 265 (f_X9_restart S 237) (mRestart m).1 (fun S1 => RR S1 (mRestart m).2) := by
  obtain ⟨hI, hD⟩ := h.dk
  have kd := k.dk
  generalize hd : m.1 = d at hD kd
  have a3 : RF 605 610 S (g_pI S 606 237 0) := RF.pI (by decide) (by decide)
  have a4 : DiskR (g_pI S 606 237 0) (mStart d) := by
    obtain ⟨d1, d2, d3, d4, d5⟩ := hD
    simp [DiskR, q_pI_fI, q_pI_fL, q_pI_fR, q_pI_aI, q_pI_aL, q_pI_aR, q_pI_K, q_pI_ln, q_pI_n, q_pI_sl, q_pI_is, q_pI_ck, q_pL_fI, q_pL_fL, q_pL_fR, q_pL_aI, q_pL_aL, q_pL_aR, q_pL_K, q_pL_ln, q_pL_n, q_pL_sl, q_pL_is, q_pL_ck, q_pR_fI, q_pR_fL, q_pR_fR, q_pR_aI, q_pR_aL, q_pR_aR, q_pR_K, q_pR_ln, q_pR_n, q_pR_sl, q_pR_is, q_pR_ck, q_rI_fI, q_rI_fL, q_rI_fR, q_rI_aI, q_rI_aL, q_rI_aR, q_rI_K, q_rI_ln, q_rI_n, q_rI_sl, q_rI_is, q_rI_ck, q_rL_fI, q_rL_fL, q_rL_fR, q_rL_aI, q_rL_aL, q_rL_aR, q_rL_K, q_rL_ln, q_rL_n, q_rL_sl, q_rL_is, q_rL_ck, q_rR_fI, q_rR_fL, q_rR_fR, q_rR_aI, q_rR_aL, q_rR_aR, q_rR_K, q_rR_ln, q_rR_n, q_rR_sl, q_rR_is, q_rR_ck, g_up, d1, d2, d3, d4, mStart]
  unfold f_X9_restart mRestart
  rw [hd]
  simp only [g_putI, g_getI, Nat.reduceMul, Nat.reduceAdd, ck9 hI.ref]
  generalize g_pI S 606 237 0 = S1 at a3 a4 ⊢
  have hI1 := a3.imm hI
  rw [ck9 hI1.ref, ck9 hI1.ref, a4.1, a4.2.1]
  have ks : dkOk (mStart d) := mStart_ok kd
  generalize mStart d = q at a4 ks ⊢
  by_cases e1 : q.1 = 0
  · rw [if_pos e1, if_pos e1]
    exact ⟨S1, rfl, hI1, a3.fr, h.disk a3 a4⟩
  · rw [if_neg e1, if_neg e1]
    have fin : ∀ (S2 : gS) (q2 : mDk), RF 605 610 S S2 → DiskR S2 q2 → COp S 237 265 (g_putZ S2 9 33 237 0 fun S6 => g_putZ S6 9 32 237 0 fun S7 => some ((1 : Int32), S7)) 1 (fun S3 => RR S3 (wDk m (0, 0, q2.2.2))) := by
      intro S2 q2 b3 b4
      have hI2 := b3.imm hI
      simp only [g_getI, g_getL, g_getR, g_putI, g_putZ, g_putL, g_putR, g_ldI, g_ldL, g_ldR, g_stI, g_stZ, g_stL, g_stR, g_alen, g_ldX, g_cVI, g_cVL, g_cVR, g_cVV, g_cI, g_cL, g_cN, g_lt, g_jn, g_cpI, g_cpL, g_z, Nat.reduceMul, Nat.reduceAdd, Option.bind_some, or_true, true_or, if_true, q_pI_fI, q_pI_fL, q_pI_fR, q_pI_aI, q_pI_aL, q_pI_aR, q_pI_K, q_pI_ln, q_pI_n, q_pI_sl, q_pI_is, q_pI_ck, q_pL_fI, q_pL_fL, q_pL_fR, q_pL_aI, q_pL_aL, q_pL_aR, q_pL_K, q_pL_ln, q_pL_n, q_pL_sl, q_pL_is, q_pL_ck, q_pR_fI, q_pR_fL, q_pR_fR, q_pR_aI, q_pR_aL, q_pR_aR, q_pR_K, q_pR_ln, q_pR_n, q_pR_sl, q_pR_is, q_pR_ck, q_rI_fI, q_rI_fL, q_rI_fR, q_rI_aI, q_rI_aL, q_rI_aR, q_rI_K, q_rI_ln, q_rI_n, q_rI_sl, q_rI_is, q_rI_ck, q_rL_fI, q_rL_fL, q_rL_fR, q_rL_aI, q_rL_aL, q_rL_aR, q_rL_K, q_rL_ln, q_rL_n, q_rL_sl, q_rL_is, q_rL_ck, q_rR_fI, q_rR_fL, q_rR_fR, q_rR_aI, q_rR_aL, q_rR_aR, q_rR_K, q_rR_ln, q_rR_n, q_rR_sl, q_rR_is, q_rR_ck, ck9 hI2.ref]
      have e : RF 605 610 S (g_pI (g_pI S2 609 237 0) 608 237 0) := (b3.trans (RF.pI (by decide) (by decide))).trans (RF.pI (by decide) (by decide))
      refine ⟨_, rfl, e.imm hI, e.fr, h.disk e ?_⟩
      obtain ⟨d1, d2, d3, d4, d5⟩ := b4
      simp [DiskR, q_pI_fI, q_pI_fL, q_pI_fR, q_pI_aI, q_pI_aL, q_pI_aR, q_pI_K, q_pI_ln, q_pI_n, q_pI_sl, q_pI_is, q_pI_ck, q_pL_fI, q_pL_fL, q_pL_fR, q_pL_aI, q_pL_aL, q_pL_aR, q_pL_K, q_pL_ln, q_pL_n, q_pL_sl, q_pL_is, q_pL_ck, q_pR_fI, q_pR_fL, q_pR_fR, q_pR_aI, q_pR_aL, q_pR_aR, q_pR_K, q_pR_ln, q_pR_n, q_pR_sl, q_pR_is, q_pR_ck, q_rI_fI, q_rI_fL, q_rI_fR, q_rI_aI, q_rI_aL, q_rI_aR, q_rI_K, q_rI_ln, q_rI_n, q_rI_sl, q_rI_is, q_rI_ck, q_rL_fI, q_rL_fL, q_rL_fR, q_rL_aI, q_rL_aL, q_rL_aR, q_rL_K, q_rL_ln, q_rL_n, q_rL_sl, q_rL_is, q_rL_ck, q_rR_fI, q_rR_fL, q_rR_fR, q_rR_aI, q_rR_aL, q_rR_aR, q_rR_K, q_rR_ln, q_rR_n, q_rR_sl, q_rR_is, q_rR_ck, g_up, d3, d4, d5]
    dsimp only [g_jn]
    by_cases e2 : q.2.1 = 0
    · rw [if_pos e2, if_pos e2]
      have := fin S1 q a3 a4
      rw [show ((0 : Int32), (0 : Int32), q.2.2) = ((0 : Int32), q.2) from by rw [← e2]] at this
      exact this
    · rw [if_neg e2, if_neg e2]
      obtain ⟨S2, b1, b3, b4⟩ := acts_R (n := 3) (by decide) hI1 ks a4
      have b3' : RF 605 610 S S2 := a3.trans (b3.mono (by decide) (by decide))
      unfold g_cVI
      rw [ck9 hI1.ref, show (3 : Int32) = nI 3 from rfl, b1, Option.bind_some]
      dsimp only
      have hn := mActs_noted 3 q 1
      have hle := mActs_le 3 q
      have k1 : q.2.1 = 1 := ks.2.1.resolve_left e2
      have hq1 : (q.1, (1 : Int32), q.2.2) = q := by rw [← k1]
      unfold mNote
      rw [hq1]
      dsimp only
      by_cases e3 : (mActs 3 q).1 = 3
      · rw [if_pos (show nI 3 ≤ nI (mActs 3 q).1 by rw [e3]; decide), if_pos (decide_eq_true e3), if_pos e3]
        exact fin S2 _ b3' b4
      · rw [if_neg (show ¬ nI 3 ≤ nI (mActs 3 q).1 by rw [nI_leI (by omega) (by omega)]; omega), if_neg (show ¬ decide ((mActs 3 q).1 = 3) = true by simpa using e3), if_neg e3]
        exact ⟨S2, rfl, b3'.imm hI, b3'.fr, h.disk b3' b4⟩
