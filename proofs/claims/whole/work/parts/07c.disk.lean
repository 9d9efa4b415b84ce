/-! ===== what stays on the other side ===== -/
theorem DiskC.fr {S S1 : gS} {d : mDk} (h : DiskC S d) (e : EqA S S1 1) : DiskC S1 d := by
  unfold DiskC
  rw [e.1, e.1, e.1, e.1, e.1]
  exact h
theorem PlanC.fr {S S1 : gS} {p : Nat} {l : List mStep} (h : PlanC S p l) (hl : l.length ≤ 6) (e : ∀ a, p ≤ a → a < p + 9 → EqA S S1 a) : PlanC S1 p l := by
  refine ⟨by rw [(e p (by omega) (by omega)).1]; exact h.1, fun k st hk => ?_⟩
  have hlt : k < l.length := (List.getElem?_eq_some_iff.mp hk).1
  have ee := e (p + 3 + k) (by omega) (by omega)
  rw [ee.1, ee.1, ee.1, ee.2.1]
  exact h.2 k st hk
theorem SchC.fr {S S1 : gS} {s : Nat} {l : List mCol} (h : SchC S s l) (e : ∀ a, s ≤ a → a < s + 3 → EqA S S1 a) : SchC S1 s l := by
  refine ⟨by rw [(e s (by omega) (by omega)).1]; exact h.1, fun i c hi => ?_⟩
  rw [(e (s + 1) (by omega) (by omega)).2.2.2.1, (e (s + 2) (by omega) (by omega)).2.2.2.1]
  exact h.2 i c hi
theorem DraftC.fr {S S1 : gS} {d : mDr} (h : DraftC S d) (e1 : EqA S S1 205) (e2 : EqA S S1 207) : DraftC S1 d := by
  intro i hi
  rw [e1.2.2.2.2.1, e2.2.2.2.2.1]
  exact h i hi
theorem SeenC.fr {S S1 : gS} {sn : mSn} (h : SeenC S sn) (h0 : gfI S1 517 0 = gfI S 517 0) (e : ∀ a, 208 ≤ a → a < 213 → EqA S S1 a) : SeenC S1 sn := by
  cases sn with
  | none => exact h0.trans h
  | some q =>
    obtain ⟨ts, vs⟩ := q
    obtain ⟨h1, h2, h3, h4⟩ := h
    refine ⟨h0.trans h1, by rw [(e 210 (by decide) (by decide)).1]; exact h2, fun i t hi => ?_, ?_⟩
    · rw [(e 212 (by decide) (by decide)).2.2.2.1]; exact h3 i t hi
    · rw [(e 209 (by decide) (by decide)).2.2.2.2.1]; exact h4
theorem HouseC.fr {S S1 : gS} {sA sB pA pB : Nat} {vr : Int32 × Bool} (h : HouseC S sA sB pA pB vr) (e : EqA S S1 0) : HouseC S1 sA sB pA pB vr := by
  unfold HouseC
  rw [e.2.2.1, e.2.2.1, e.2.2.1, e.2.2.1, e.1, e.1]
  exact h
theorem RowSw.fr {S S1 : gS} {p fp ff : Nat} (h : RowSw S p fp ff) (e : EqA S S1 (4 + 5 * p)) : RowSw S1 p fp ff := by
  unfold RowSw
  rw [e.2.2.1, e.2.2.1]
  exact h
theorem RowC.fr {S S1 : gS} {p : Nat} {r : mRow} {sc nx : List mCol} {run : Bool} (h : RowC S p r sc nx run) (e : ∀ a, 4 + 5 * p ≤ a → a < 9 + 5 * p → EqA S S1 a) : RowC S1 p r sc nx run := by
  obtain ⟨h1, h2, h3, fp, ff, h4, h5, h6⟩ := h
  have e0 := e (4 + 5 * p) (by omega) (by omega)
  refine ⟨by rw [e0.1]; exact h1, by rw [e0.1]; exact h2, by rw [e0.1]; exact h3, fp, ff, h4.fr e0, ?_, fun hr => ?_⟩
  · rw [(e (fp + 1) (by rcases h4.2.2 with g | g <;> omega) (by rcases h4.2.2 with g | g <;> omega)).2.2.2.2.1]; exact h5
  · rw [(e (ff + 1) (by rcases h4.2.2 with g | g <;> omega) (by rcases h4.2.2 with g | g <;> omega)).2.2.2.2.1]; exact h6 hr
theorem PermC.fr {S S1 : gS} {q : Nat → Nat} (h : PermC S q) (e : EqA S S1 3) : PermC S1 q := ⟨h.1, h.2.1, fun i hi => by rw [e.2.2.2.2.2]; exact h.2.2 i hi⟩
theorem TableC.fr {S S1 : gS} {tb : List mRow} {sc nx : List mCol} {run : Bool} (h : TableC S tb sc nx run) (hl : tb.length ≤ 40) (e : ∀ a, 2 ≤ a → a < 204 → EqA S S1 a) : TableC S1 tb sc nx run := by
  obtain ⟨h1, q, h2, h3, h4⟩ := h
  refine ⟨by rw [(e 2 (by decide) (by decide)).1]; exact h1, q, h2.fr (e 3 (by decide) (by decide)), fun p hp => ?_, fun i r hi => ?_⟩
  · obtain ⟨fp, ff, g⟩ := h3 p hp
    exact ⟨fp, ff, g.fr (e _ (by omega) (by omega))⟩
  · have hlt : i < tb.length := (List.getElem?_eq_some_iff.mp hi).1
    have hq := h2.1 i (by omega)
    exact (h4 i r hi).fr fun a a1 a2 => e a (by omega) (by omega)
theorem MigC.fr {S S1 : gS} {p : Nat} {l : List mStep} {sc : List mCol} (h : MigC S p l sc) (hl : l.length ≤ 6) (e : ∀ a, p ≤ a → a < p + 9 → EqA S S1 a) : MigC S1 p l sc := by
  refine ⟨h.1.fr hl e, fun k st hk => ?_⟩
  have hlt : k < l.length := (List.getElem?_eq_some_iff.mp hk).1
  have ee := e (p + 3 + k) (by omega) (by omega)
  rw [ee.1, ee.1]
  exact h.2 k st hk
/-- the class's side stays when only the reference's cells change -/
theorem RC.fr {S S1 : gS} {m : mS} (h : RC S m) (hk : mOk m) (hI : Imm S1) (e : Fr 237 265 S S1) : RC S1 m := by
  obtain ⟨dk, vr, pl, mg, sc, nx, dr, sn, tb⟩ := m
  obtain ⟨-, sA, sB, pA, pB, h1, h2, h3, h4, h5, h6, h7, h8⟩ := h
  obtain ⟨-, k2, -, k4, k5, -⟩ := hk
  have hs := h1.2.2.2.2.2.2.1
  have hp := h1.2.2.2.2.2.2.2
  refine ⟨hI, sA, sB, pA, pB, h1.fr (e 0 (by omega)), h2.fr (e 1 (by omega)), h3.fr k2.1 (fun a a1 a2 => e a (by omega)), h4.fr (fun a a1 a2 => e a (by omega)), h5.fr (e _ (by omega)) (e _ (by omega)), h6.fr ((e 0 (by omega)).1 _) (fun a a1 a2 => e a (by omega)), h7.fr k5 (fun a a1 a2 => e a (by omega)), fun hr => ?_⟩
  exact ⟨(h8 hr).1.fr (fun a a1 a2 => e a (by omega)), (h8 hr).2.fr (k4 hr).1.1 (fun a a1 a2 => e a (by omega))⟩
/-- the reference's side stays when only the class's cells change -/
theorem RR.fr {S S1 : gS} {m : mS} (h : RR S m) (hI : Imm S1) (e : Fr 0 237 S S1) : RR S1 m := by
  obtain ⟨dk, vr, pl, mg, sc, nx, dr, sn, tb⟩ := m
  have e0 := (e 237 (by omega)).1
  have eI : ∀ a, 237 ≤ a → gaI S1 a = gaI S a := fun a ha => (e a (by omega)).2.2.2.1
  have eL : gaL S1 238 = gaL S 238 := (e 238 (by omega)).2.2.2.2.1
  have hF : ∀ s ts vs, FormR S s ts vs → FormR S1 s ts vs := by
    intro s ts vs hf
    unfold FormR
    rw [eL, eI 239 (by decide), eI 240 (by decide)]
    exact hf
  obtain ⟨-, h2, h3, h4, h5, h6, h7, h8, h9, h10⟩ := h
  refine ⟨hI, ?_, (e0 _).trans h3, (e0 _).trans h4, ⟨(e0 _).trans h5.1, ?_⟩, ?_, ?_, ?_, ?_, fun hr => ⟨?_, (e0 _).trans (h10 hr).2.1, ?_⟩⟩
  · unfold DiskR; rw [e0, e0, e0, e0, e0]; exact h2
  · unfold PlanR; rw [eI 251 (by decide), eI 252 (by decide), eI 253 (by decide), eI 254 (by decide), eI 255 (by decide)]; exact h5.2
  · unfold SchR; rw [eI 250 (by decide), eI 248 (by decide), eI 249 (by decide)]; exact h6
  · unfold DraftR; rw [eI 256 (by decide), eI 257 (by decide), eI 258 (by decide), eI 259 (by decide)]; exact h7
  · cases sn with
    | none => exact (e0 _).trans h8
    | some q =>
      obtain ⟨ts, vs⟩ := q
      exact ⟨(e0 _).trans h8.1, by rw [eI 260 (by decide)]; exact h8.2.1, hF _ _ _ h8.2.2⟩
  · unfold TableR
    rw [e0, eI 243 (by decide), eI 247 (by decide), eI 245 (by decide), eI 246 (by decide)]
    refine ⟨h9.1, h9.2.1, h9.2.2.1, fun i r hi => ?_⟩
    obtain ⟨r1, ⟨s, r2, r3, r4, r5, r6⟩, r7⟩ := h9.2.2.2 i r hi
    unfold RowR
    rw [eI 242 (by decide), eI 243 (by decide), eI 247 (by decide), eI 245 (by decide), eI 246 (by decide), eI 244 (by decide)]
    exact ⟨r1, ⟨s, r2, r3, r4, hF _ _ _ r5, fun hr => hF _ _ _ (r6 hr)⟩, r7⟩
  · unfold SchR; rw [eI 250 (by decide), eI 248 (by decide), eI 249 (by decide)]; exact (h10 hr).1
  · unfold PlanR; rw [eI 251 (by decide), eI 252 (by decide), eI 253 (by decide), eI 254 (by decide), eI 255 (by decide)]; exact (h10 hr).2.2
/-! ===== the disk ===== -/
def COp {ρ : Type} (S : gS) (lo hi : Nat) (o : Option (ρ × gS)) (x : ρ) (P : gS → Prop) : Prop := ∃ S1, o = some (x, S1) ∧ Imm S1 ∧ Fr lo hi S S1 ∧ P S1
def COv (S : gS) (lo hi : Nat) (o : Option gS) (P : gS → Prop) : Prop := ∃ S1, o = some S1 ∧ Imm S1 ∧ Fr lo hi S S1 ∧ P S1
def mAct (d : mDk) : Bool × mDk := if d.2.2.1 = 1 then (false, (1, d.2.1, 0, d.2.2.2.1, d.2.2.2.2)) else (true, (d.1, d.2.1, if d.2.2.1 ≤ 0 then d.2.2.1 else d.2.2.1 - 1, d.2.2.2.1 + 1, d.2.2.2.2 + 1))
def b32 (b : Bool) : Int32 := if b = true then 1 else 0
theorem mAct_ok {d : mDk} (h : dkOk d) : dkOk (mAct d).2 := by
  obtain ⟨h1, h2, c, h3, h4⟩ := h
  unfold mAct
  by_cases e : d.2.2.1 = 1
  · rw [if_pos e]
    exact ⟨Or.inr rfl, h2, 0, by omega, rfl⟩
  · rw [if_neg e]
    refine ⟨h1, h2, ?_⟩
    dsimp only
    by_cases g : d.2.2.1 ≤ 0
    · rw [if_pos g]; exact ⟨c, h3, h4⟩
    · rw [if_neg g, h4]
      have : 0 < c := by
        rcases Nat.eq_zero_or_pos c with z | z
        · subst z; rw [h4] at g; exact absurd (by decide) g
        · exact z
      exact ⟨c - 1, by omega, by rw [show (1 : Int32) = nI 1 from rfl, sub_nI (by omega)]⟩
theorem up_at {f g a : Nat} {h : Nat → Nat → Int32} {v : Int32} (e : g ≠ f) : g_up h f a v g a = h g a := g_up_f e
theorem act_C {S : gS} {d : mDk} (hI : Imm S) (h : DiskC S d) : COp S 1 2 (f_X0_act S 1) (b32 (mAct d).1) (fun S1 => DiskC S1 (mAct d).2) := by
  obtain ⟨h1, h2, h3, h4, h5⟩ := h
  have hd : g_is S 0 1 := hI.is (by decide) (by decide)
  unfold f_X0_act mAct
  simp only [g_getI, g_getL, g_getR, g_putI, g_putZ, g_putL, g_putR, g_ldI, g_ldL, g_ldR, g_stI, g_stZ, g_stL, g_stR, g_alen, g_ldX, g_cVI, g_cVL, g_cVR, g_cVV, g_cI, g_cL, g_cN, g_lt, g_jn, g_cpI, g_cpL, g_z, Nat.reduceMul, Nat.reduceAdd, Option.bind_some, or_true, true_or, if_true, q_pI_fI, q_pI_fL, q_pI_fR, q_pI_aI, q_pI_aL, q_pI_aR, q_pI_K, q_pI_ln, q_pI_n, q_pI_sl, q_pI_is, q_pI_ck, q_pL_fI, q_pL_fL, q_pL_fR, q_pL_aI, q_pL_aL, q_pL_aR, q_pL_K, q_pL_ln, q_pL_n, q_pL_sl, q_pL_is, q_pL_ck, q_pR_fI, q_pR_fL, q_pR_fR, q_pR_aI, q_pR_aL, q_pR_aR, q_pR_K, q_pR_ln, q_pR_n, q_pR_sl, q_pR_is, q_pR_ck, q_rI_fI, q_rI_fL, q_rI_fR, q_rI_aI, q_rI_aL, q_rI_aR, q_rI_K, q_rI_ln, q_rI_n, q_rI_sl, q_rI_is, q_rI_ck, q_rL_fI, q_rL_fL, q_rL_fR, q_rL_aI, q_rL_aL, q_rL_aR, q_rL_K, q_rL_ln, q_rL_n, q_rL_sl, q_rL_is, q_rL_ck, q_rR_fI, q_rR_fL, q_rR_fR, q_rR_aI, q_rR_aL, q_rR_aR, q_rR_K, q_rR_ln, q_rR_n, q_rR_sl, q_rR_is, q_rR_ck, g_ck_t hd, h3]
  by_cases e : d.2.2.1 = 1
  · rw [if_pos e, if_pos e]
    refine ⟨_, rfl, hI.of rfl rfl rfl rfl rfl, (Fr.pI (by decide) (by decide)).trans (Fr.pI (by decide) (by decide)), ?_⟩
    simp [DiskC, q_pI_fI, q_pI_fL, q_pI_fR, q_pI_aI, q_pI_aL, q_pI_aR, q_pI_K, q_pI_ln, q_pI_n, q_pI_sl, q_pI_is, q_pI_ck, q_pL_fI, q_pL_fL, q_pL_fR, q_pL_aI, q_pL_aL, q_pL_aR, q_pL_K, q_pL_ln, q_pL_n, q_pL_sl, q_pL_is, q_pL_ck, q_pR_fI, q_pR_fL, q_pR_fR, q_pR_aI, q_pR_aL, q_pR_aR, q_pR_K, q_pR_ln, q_pR_n, q_pR_sl, q_pR_is, q_pR_ck, q_rI_fI, q_rI_fL, q_rI_fR, q_rI_aI, q_rI_aL, q_rI_aR, q_rI_K, q_rI_ln, q_rI_n, q_rI_sl, q_rI_is, q_rI_ck, q_rL_fI, q_rL_fL, q_rL_fR, q_rL_aI, q_rL_aL, q_rL_aR, q_rL_K, q_rL_ln, q_rL_n, q_rL_sl, q_rL_is, q_rL_ck, q_rR_fI, q_rR_fL, q_rR_fR, q_rR_aI, q_rR_aL, q_rR_aR, q_rR_K, q_rR_ln, q_rR_n, q_rR_sl, q_rR_is, q_rR_ck, g_up, h2, h4, h5]
  · rw [if_neg e, if_neg e]
    by_cases g : d.2.2.1 ≤ 0
    · rw [if_pos g, if_pos g]
      refine ⟨_, rfl, hI.of rfl rfl rfl rfl rfl, (Fr.pI (by decide) (by decide)).trans (Fr.pI (by decide) (by decide)), ?_⟩
      simp [DiskC, q_pI_fI, q_pI_fL, q_pI_fR, q_pI_aI, q_pI_aL, q_pI_aR, q_pI_K, q_pI_ln, q_pI_n, q_pI_sl, q_pI_is, q_pI_ck, q_pL_fI, q_pL_fL, q_pL_fR, q_pL_aI, q_pL_aL, q_pL_aR, q_pL_K, q_pL_ln, q_pL_n, q_pL_sl, q_pL_is, q_pL_ck, q_pR_fI, q_pR_fL, q_pR_fR, q_pR_aI, q_pR_aL, q_pR_aR, q_pR_K, q_pR_ln, q_pR_n, q_pR_sl, q_pR_is, q_pR_ck, q_rI_fI, q_rI_fL, q_rI_fR, q_rI_aI, q_rI_aL, q_rI_aR, q_rI_K, q_rI_ln, q_rI_n, q_rI_sl, q_rI_is, q_rI_ck, q_rL_fI, q_rL_fL, q_rL_fR, q_rL_aI, q_rL_aL, q_rL_aR, q_rL_K, q_rL_ln, q_rL_n, q_rL_sl, q_rL_is, q_rL_ck, q_rR_fI, q_rR_fL, q_rR_fR, q_rR_aI, q_rR_aL, q_rR_aR, q_rR_K, q_rR_ln, q_rR_n, q_rR_sl, q_rR_is, q_rR_ck, g_up, h1, h2, h3, h4, h5]
    · rw [if_neg g, if_neg g]
      refine ⟨_, rfl, hI.of rfl rfl rfl rfl rfl, ((Fr.pI (by decide) (by decide)).trans (Fr.pI (by decide) (by decide))).trans (Fr.pI (by decide) (by decide)), ?_⟩
      simp [DiskC, q_pI_fI, q_pI_fL, q_pI_fR, q_pI_aI, q_pI_aL, q_pI_aR, q_pI_K, q_pI_ln, q_pI_n, q_pI_sl, q_pI_is, q_pI_ck, q_pL_fI, q_pL_fL, q_pL_fR, q_pL_aI, q_pL_aL, q_pL_aR, q_pL_K, q_pL_ln, q_pL_n, q_pL_sl, q_pL_is, q_pL_ck, q_pR_fI, q_pR_fL, q_pR_fR, q_pR_aI, q_pR_aL, q_pR_aR, q_pR_K, q_pR_ln, q_pR_n, q_pR_sl, q_pR_is, q_pR_ck, q_rI_fI, q_rI_fL, q_rI_fR, q_rI_aI, q_rI_aL, q_rI_aR, q_rI_K, q_rI_ln, q_rI_n, q_rI_sl, q_rI_is, q_rI_ck, q_rL_fI, q_rL_fL, q_rL_fR, q_rL_aI, q_rL_aL, q_rL_aR, q_rL_K, q_rL_ln, q_rL_n, q_rL_sl, q_rL_is, q_rL_ck, q_rR_fI, q_rR_fL, q_rR_fR, q_rR_aI, q_rR_aL, q_rR_aR, q_rR_K, q_rR_ln, q_rR_n, q_rR_sl, q_rR_is, q_rR_ck, g_up, h1, h2, h4, h5]
/-- some actions, one behind the other: how many are done -/
def mActs : Nat → mDk → Nat × mDk
  | 0, d => (0, d)
  | n + 1, d => if (mAct d).1 = true then ((mActs n (mAct d).2).1 + 1, (mActs n (mAct d).2).2) else (0, (mAct d).2)
theorem mActs_ok : ∀ (n : Nat) {d : mDk}, dkOk d → dkOk (mActs n d).2 := by
  intro n
  induction n with
  | zero => intro d h; exact h
  | succ n ih =>
    intro d h
    unfold mActs
    split
    · exact ih (mAct_ok h)
    · exact mAct_ok h
theorem mActs_le : ∀ (n : Nat) (d : mDk), (mActs n d).1 ≤ n := by
  intro n
  induction n with
  | zero => intro d; exact Nat.le_refl _
  | succ n ih =>
    intro d
    unfold mActs
    split
    · have := ih (mAct d).2
      dsimp only
      omega
    · exact Nat.zero_le _
theorem actTimes_loop : ∀ (n fu k N : Nat) (S : gS) (d : mDk), k + n = N → n < fu → N < 1000 → Imm S → DiskC S d → COp S 1 2 (l_X0_actTimes_2 1 (nI N) fu S (nI k)) (b32 (decide ((mActs n d).1 = n))) (fun S1 => DiskC S1 (mActs n d).2) := by
  intro n
  induction n with
  | zero =>
    intro fu k N S d hk hf hN hI h
    obtain ⟨fu, rfl⟩ : ∃ m, fu = m + 1 := ⟨fu - 1, by omega⟩
    rw [l_X0_actTimes_2, if_pos (nI_le (by omega) (by omega))]
    exact ⟨S, rfl, hI, Fr.refl, h⟩
  | succ n ih =>
    intro fu k N S d hk hf hN hI h
    obtain ⟨fu, rfl⟩ : ∃ m, fu = m + 1 := ⟨fu - 1, by omega⟩
    rw [l_X0_actTimes_2, if_neg (by rw [nI_leI (by omega) (by omega)]; omega)]
    obtain ⟨S1, a1, a2, a3, a4⟩ := act_C hI h
    unfold g_cVI
    rw [g_ck_t (hI.is (by decide) (by decide)), a1, Option.bind_some]
    dsimp only
    unfold mActs
    by_cases e : (mAct d).1 = true
    · rw [if_pos e, show b32 (mAct d).1 = 1 by rw [e]; rfl, if_neg (by decide), add1]
      obtain ⟨S2, b1, b2, b3, b4⟩ := ih fu (k + 1) N S1 (mAct d).2 (by omega) (by omega) hN a2 a4
      refine ⟨S2, ?_, b2, a3.trans b3, b4⟩
      rw [b1]
      simp
    · have e2 : (mAct d).1 = false := by simpa using e
      rw [if_neg e, show b32 (mAct d).1 = 0 by rw [e2]; rfl, if_pos rfl]
      exact ⟨S1, rfl, a2, a3, a4⟩
theorem actTimes_C {S : gS} {d : mDk} {n : Nat} (hn : n < 90) (hI : Imm S) (h : DiskC S d) : COp S 1 2 (f_X0_actTimes S 1 (nI n)) (b32 (decide ((mActs n d).1 = n))) (fun S1 => DiskC S1 (mActs n d).2) :=
  actTimes_loop n 100 0 n S d (by omega) (by omega) (by omega) hI h
/-- the note is carried out: three actions; it stays on the disk if one is not done -/
def mNote (d : mDk) : Bool × mDk := (decide ((mActs 3 (d.1, 1, d.2.2)).1 = 3), if (mActs 3 (d.1, 1, d.2.2)).1 = 3 then ((mActs 3 (d.1, 1, d.2.2)).2.1, 0, (mActs 3 (d.1, 1, d.2.2)).2.2.2) else (mActs 3 (d.1, 1, d.2.2)).2)
theorem note_C {S : gS} {d : mDk} (hI : Imm S) (h : DiskC S d) : COp S 1 2 (f_X0_carryOutNote S 1) (b32 (mNote d).1) (fun S1 => DiskC S1 (mNote d).2) := by
  have hd : g_is S 0 1 := hI.is (by decide) (by decide)
  obtain ⟨h1, h2, h3, h4, h5⟩ := h
  unfold f_X0_carryOutNote
  simp only [g_putZ, g_cVI, Nat.reduceMul, Nat.reduceAdd, g_ck_t hd, or_true, true_or, if_true]
  have hI1 : Imm (g_pI S 1 1 1) := hI.of rfl rfl rfl rfl rfl
  have hD1 : DiskC (g_pI S 1 1 1) (d.1, 1, d.2.2) := by simp [DiskC, q_pI_fI, q_pI_fL, q_pI_fR, q_pI_aI, q_pI_aL, q_pI_aR, q_pI_K, q_pI_ln, q_pI_n, q_pI_sl, q_pI_is, q_pI_ck, q_pL_fI, q_pL_fL, q_pL_fR, q_pL_aI, q_pL_aL, q_pL_aR, q_pL_K, q_pL_ln, q_pL_n, q_pL_sl, q_pL_is, q_pL_ck, q_pR_fI, q_pR_fL, q_pR_fR, q_pR_aI, q_pR_aL, q_pR_aR, q_pR_K, q_pR_ln, q_pR_n, q_pR_sl, q_pR_is, q_pR_ck, q_rI_fI, q_rI_fL, q_rI_fR, q_rI_aI, q_rI_aL, q_rI_aR, q_rI_K, q_rI_ln, q_rI_n, q_rI_sl, q_rI_is, q_rI_ck, q_rL_fI, q_rL_fL, q_rL_fR, q_rL_aI, q_rL_aL, q_rL_aR, q_rL_K, q_rL_ln, q_rL_n, q_rL_sl, q_rL_is, q_rL_ck, q_rR_fI, q_rR_fL, q_rR_fR, q_rR_aI, q_rR_aL, q_rR_aR, q_rR_K, q_rR_ln, q_rR_n, q_rR_sl, q_rR_is, q_rR_ck, g_up, h1, h3, h4, h5]
  obtain ⟨S2, b1, b2, b3, b4⟩ := actTimes_C (n := 3) (by decide) hI1 hD1
  rw [q_pI_ck, g_ck_t hd, show (3 : Int32) = nI 3 from rfl, b1, Option.bind_some]
  dsimp only
  have hF : Fr 1 2 S S2 := (Fr.pI (by decide) (by decide)).trans b3
  unfold mNote
  by_cases e : (mActs 3 (d.1, 1, d.2.2)).1 = 3
  · rw [if_pos e, show b32 (decide ((mActs 3 (d.1, 1, d.2.2)).1 = 3)) = 1 by rw [decide_eq_true e]; rfl, if_neg (by decide), g_ck_t (b2.is (by decide) (by decide))]
    obtain ⟨c1, c2, c3, c4, c5⟩ := b4
    refine ⟨_, rfl, b2.of rfl rfl rfl rfl rfl, hF.trans (Fr.pI (by decide) (by decide)), ?_⟩
    simp [DiskC, q_pI_fI, q_pI_fL, q_pI_fR, q_pI_aI, q_pI_aL, q_pI_aR, q_pI_K, q_pI_ln, q_pI_n, q_pI_sl, q_pI_is, q_pI_ck, q_pL_fI, q_pL_fL, q_pL_fR, q_pL_aI, q_pL_aL, q_pL_aR, q_pL_K, q_pL_ln, q_pL_n, q_pL_sl, q_pL_is, q_pL_ck, q_pR_fI, q_pR_fL, q_pR_fR, q_pR_aI, q_pR_aL, q_pR_aR, q_pR_K, q_pR_ln, q_pR_n, q_pR_sl, q_pR_is, q_pR_ck, q_rI_fI, q_rI_fL, q_rI_fR, q_rI_aI, q_rI_aL, q_rI_aR, q_rI_K, q_rI_ln, q_rI_n, q_rI_sl, q_rI_is, q_rI_ck, q_rL_fI, q_rL_fL, q_rL_fR, q_rL_aI, q_rL_aL, q_rL_aR, q_rL_K, q_rL_ln, q_rL_n, q_rL_sl, q_rL_is, q_rL_ck, q_rR_fI, q_rR_fL, q_rR_fR, q_rR_aI, q_rR_aL, q_rR_aR, q_rR_K, q_rR_ln, q_rR_n, q_rR_sl, q_rR_is, q_rR_ck, g_up, c1, c3, c4, c5]
  · rw [if_neg e, show b32 (decide ((mActs 3 (d.1, 1, d.2.2)).1 = 3)) = 0 by rw [decide_eq_false e]; rfl, if_pos rfl]
    exact ⟨S2, rfl, b2, hF, b4⟩
