/-! ===== copies of forms and schemas; read ===== -/
theorem TxW.eq {w w1 : Nat → Int64} {i : Nat} {T : List Nat} (h : TxW w i T) (e : ∀ j, 4 * i ≤ j → j < 4 * i + 4 → w1 j = w j) : TxW w1 i T := by
  obtain ⟨h1, h2, h3, h4⟩ := h
  refine ⟨(e _ (by omega) (by omega)).trans h1, h2, h3, fun q hq => ?_⟩
  rw [e _ (by omega) (by omega)]
  exact h4 q hq
theorem CVw.eq {t : Int32} {w w1 : Nat → Int64} {i : Nat} {x : mV} (h : CVw t w i x) (e : ∀ j, 4 * i ≤ j → j < 4 * i + 4 → w1 j = w j) : CVw t w1 i x := by
  unfold CVw at h ⊢
  by_cases ht : t = 4
  · rw [if_pos ht] at h ⊢; exact h.eq e
  · rw [if_neg ht] at h ⊢; exact (e _ (by omega) (by omega)).trans h
/-- the column i holds what the column k of w held -/
theorem CVw.at {t : Int32} {w w1 : Nat → Int64} {i k : Nat} {x : mV} (h : CVw t w k x) (e : ∀ j, j < 4 → w1 (4 * i + j) = w (4 * k + j)) : CVw t w1 i x := by
  unfold CVw at h ⊢
  by_cases ht : t = 4
  · rw [if_pos ht] at h ⊢
    obtain ⟨h1, h2, h3, h4⟩ := h
    refine ⟨(e 0 (by omega)).trans h1, h2, h3, fun q hq => ?_⟩
    rw [show 4 * i + 1 + q / 8 = 4 * i + (1 + q / 8) by omega, e _ (by omega), show 4 * k + (1 + q / 8) = 4 * k + 1 + q / 8 by omega]
    exact h4 q hq
  · rw [if_neg ht] at h ⊢
    exact (e 0 (by omega)).trans h
theorem FormC.eq {w w1 : Nat → Int64} {ts : List Int32} {vs : List mV} (h : FormC w ts vs) (hl : ts.length ≤ 8) (e : ∀ j, j < 32 → w1 j = w j) : FormC w1 ts vs :=
  ⟨h.1, fun i t x ht hx => (h.2 i t x ht hx).eq fun j _ _ => e j (by have := lt_of_some ht; omega)⟩
theorem g_rg_t {α : Type} {sp dp n n0 n1 : Nat} {o : Option α} (h1 : sp + n ≤ n0) (h2 : dp + n ≤ n1) (h3 : n0 < 2 ^ 31) (h4 : n1 < 2 ^ 31) : g_rg (nI sp) (nI dp) (nI n) n0 n1 o = o := by
  unfold g_rg
  rw [nI_clamp (by omega), nI_clamp (by omega), nI_clamp (by omega), if_neg]
  rintro (q | q | q | q | q)
  · exact nI_pos (by omega) q
  · exact nI_pos (by omega) q
  · exact nI_pos (by omega) q
  · omega
  · omega
theorem copyFrom_C {S : gS} {f w g u : Nat} (h : FormAt S f w) (h2 : FormAt S g u) : f_X2_copyFrom S f g = some (g_rL S w (va_cpy (gaL S u) (gaL S w) 0 0 32)) := by
  obtain ⟨a1, a2, a3, a4⟩ := h
  obtain ⟨b1, b2, b3, b4⟩ := h2
  unfold f_X2_copyFrom
  simp only [g_getI, g_getL, g_getR, g_putI, g_putZ, g_putL, g_putR, g_ldI, g_ldL, g_ldR, g_stI, g_stZ, g_stL, g_stR, g_alen, g_ldX, g_cVI, g_cVL, g_cVR, g_cVV, g_cI, g_cL, g_cN, g_lt, g_jn, g_cpI, g_cpL, g_z, Nat.reduceMul, Nat.reduceAdd, Option.bind_some, or_true, true_or, if_true, g_ck_t a1, a2, g_ck_t a3, a4, g_ck_t b1, b2, g_ck_t b3, b4]
  rw [show (0 : Int32) = nI 0 from rfl, show Int32.ofNat 32 = nI 32 from rfl, g_rg_t (by omega) (by omega) (by omega) (by omega)]
  rfl
theorem cpy_at {α : Type} {f g : Nat → α} {n j : Nat} (h : j < n) : va_cpy f g 0 0 n j = f j := by
  rw [pk_cpy_in (by omega) (by omega), Nat.zero_add, Nat.sub_zero]
theorem FormC.cpy {w u : Nat → Int64} {ts : List Int32} {vs : List mV} (h : FormC u ts vs) (hl : ts.length ≤ 8) : FormC (va_cpy u w 0 0 32) ts vs := h.eq hl fun j hj => cpy_at hj
/-- a schema copied whole -/
theorem copySch_C {S : gS} {d s : Nat} (hI : Imm S) (hd : SchAt S d) (hs : SchAt S s) (hne : d ≠ s ∧ d ≠ s + 1 ∧ d ≠ s + 2 ∧ d + 1 ≠ s + 2 ∧ d + 1 ≠ s + 1 ∧ d + 1 ≠ s ∧ d + 2 ≠ s ∧ d + 2 ≠ s + 1 ∧ d + 2 ≠ s + 2) {l : List mCol} (h : SchC S s l) (hl : l.length ≤ 8) : COv S d (d + 3) (f_X5_copyFrom S d s) (fun S1 => SchC S1 d l) := by
  obtain ⟨a1, a2, a3, a4, a5, a6, a7⟩ := hd
  obtain ⟨b1, b2, b3, b4, b5, b6, b7⟩ := hs
  unfold f_X5_copyFrom
  simp only [g_getI, g_getL, g_getR, g_putI, g_putZ, g_putL, g_putR, g_ldI, g_ldL, g_ldR, g_stI, g_stZ, g_stL, g_stR, g_alen, g_ldX, g_cVI, g_cVL, g_cVR, g_cVV, g_cI, g_cL, g_cN, g_lt, g_jn, g_cpI, g_cpL, g_z, Nat.reduceMul, Nat.reduceAdd, Option.bind_some, or_true, true_or, if_true, q_pI_fI, q_pI_fL, q_pI_fR, q_pI_aI, q_pI_aL, q_pI_aR, q_pI_K, q_pI_ln, q_pI_n, q_pI_sl, q_pI_is, q_pI_ck, q_pL_fI, q_pL_fL, q_pL_fR, q_pL_aI, q_pL_aL, q_pL_aR, q_pL_K, q_pL_ln, q_pL_n, q_pL_sl, q_pL_is, q_pL_ck, q_pR_fI, q_pR_fL, q_pR_fR, q_pR_aI, q_pR_aL, q_pR_aR, q_pR_K, q_pR_ln, q_pR_n, q_pR_sl, q_pR_is, q_pR_ck, q_rI_fI, q_rI_fL, q_rI_fR, q_rI_aI, q_rI_aL, q_rI_aR, q_rI_K, q_rI_ln, q_rI_n, q_rI_sl, q_rI_is, q_rI_ck, q_rL_fI, q_rL_fL, q_rL_fR, q_rL_aI, q_rL_aL, q_rL_aR, q_rL_K, q_rL_ln, q_rL_n, q_rL_sl, q_rL_is, q_rL_ck, q_rR_fI, q_rR_fL, q_rR_fR, q_rR_aI, q_rR_aL, q_rR_aR, q_rR_K, q_rR_ln, q_rR_n, q_rR_sl, q_rR_is, q_rR_ck, g_ck_t a1, a2, a3, g_ck_t a4, a5, g_ck_t a6, a7, g_ck_t b1, b2, b3, g_ck_t b4, b5, g_ck_t b6, b7]
  rw [show (0 : Int32) = nI 0 from rfl, show (8 : Int32) = nI 8 from rfl, g_rg_t (by omega) (by omega) (by omega) (by omega), g_rg_t (by omega) (by omega) (by omega) (by omega)]
  refine ⟨_, rfl, hI.of rfl rfl rfl rfl rfl, ((Fr.rI (by omega) (by omega)).trans (Fr.rI (by omega) (by omega))).trans (Fr.pI (by omega) (by omega)), ?_, ?_⟩
  · simp only [q_pI_fI, q_pI_fL, q_pI_fR, q_pI_aI, q_pI_aL, q_pI_aR, q_pI_K, q_pI_ln, q_pI_n, q_pI_sl, q_pI_is, q_pI_ck, q_pL_fI, q_pL_fL, q_pL_fR, q_pL_aI, q_pL_aL, q_pL_aR, q_pL_K, q_pL_ln, q_pL_n, q_pL_sl, q_pL_is, q_pL_ck, q_pR_fI, q_pR_fL, q_pR_fR, q_pR_aI, q_pR_aL, q_pR_aR, q_pR_K, q_pR_ln, q_pR_n, q_pR_sl, q_pR_is, q_pR_ck, q_rI_fI, q_rI_fL, q_rI_fR, q_rI_aI, q_rI_aL, q_rI_aR, q_rI_K, q_rI_ln, q_rI_n, q_rI_sl, q_rI_is, q_rI_ck, q_rL_fI, q_rL_fL, q_rL_fR, q_rL_aI, q_rL_aL, q_rL_aR, q_rL_K, q_rL_ln, q_rL_n, q_rL_sl, q_rL_is, q_rL_ck, q_rR_fI, q_rR_fL, q_rR_fR, q_rR_aI, q_rR_aL, q_rR_aR, q_rR_K, q_rR_ln, q_rR_n, q_rR_sl, q_rR_is, q_rR_ck]
    rw [g_up_s]
    exact h.1
  · intro i c hc
    have hi := lt_of_some hc
    simp only [q_pI_fI, q_pI_fL, q_pI_fR, q_pI_aI, q_pI_aL, q_pI_aR, q_pI_K, q_pI_ln, q_pI_n, q_pI_sl, q_pI_is, q_pI_ck, q_pL_fI, q_pL_fL, q_pL_fR, q_pL_aI, q_pL_aL, q_pL_aR, q_pL_K, q_pL_ln, q_pL_n, q_pL_sl, q_pL_is, q_pL_ck, q_pR_fI, q_pR_fL, q_pR_fR, q_pR_aI, q_pR_aL, q_pR_aR, q_pR_K, q_pR_ln, q_pR_n, q_pR_sl, q_pR_is, q_pR_ck, q_rI_fI, q_rI_fL, q_rI_fR, q_rI_aI, q_rI_aL, q_rI_aR, q_rI_K, q_rI_ln, q_rI_n, q_rI_sl, q_rI_is, q_rI_ck, q_rL_fI, q_rL_fL, q_rL_fR, q_rL_aI, q_rL_aL, q_rL_aR, q_rL_K, q_rL_ln, q_rL_n, q_rL_sl, q_rL_is, q_rL_ck, q_rR_fI, q_rR_fL, q_rR_fR, q_rR_aI, q_rR_aL, q_rR_aR, q_rR_K, q_rR_ln, q_rR_n, q_rR_sl, q_rR_is, q_rR_ck]
    rw [g_row_n (show d + 1 ≠ d + 2 by omega), g_row_s, g_row_s, g_row_n (show s + 2 ≠ d + 1 by omega)]
    show va_cpy _ _ 0 0 8 i = _ ∧ va_cpy _ _ 0 0 8 i = _
    rw [cpy_at (by omega), cpy_at (by omega)]
    exact h.2 i c hc
def wSn (m : mS) (sn : mSn) : mS := match m with
  | (dk, vr, pl, mg, sc, nx, dr, _, tb) => (dk, vr, pl, mg, sc, nx, dr, sn, tb)
def mRead (m : mS) (key f : Int32) : Int32 × mS := match m with
  | (dk, vr, pl, mg, sc, nx, dr, sn, tb) => if dk.1 = 0 then (if f ≠ 0 ∧ vr.2 = false then (-2, m) else match mFnd tb key with
    | none => (0, (dk, vr, pl, mg, sc, nx, dr, none, tb))
    | some i => (1, (dk, vr, pl, mg, sc, nx, dr, some (tys (if f = 0 then sc else nx), if f = 0 then (tb.getD i (0, 0, 0, [], [])).2.2.2.1 else (tb.getD i (0, 0, 0, [], [])).2.2.2.2), tb))) else (-8, m)
theorem RC.seen {S S1 : gS} {m : mS} {sn : mSn} (h : RC S m) (k : mOk m) (hI : Imm S1) (e : ∀ a, (1 ≤ a ∧ a < 208) ∨ 213 ≤ a → EqA S S1 a) (e0 : ∀ f, f ≠ 517 → gfI S1 f 0 = gfI S f 0) (e1 : ∀ f, gfR S1 f 0 = gfR S f 0) (hs : SeenC S1 sn) : RC S1 (wSn m sn) := by
  obtain ⟨dk, vr, pl, mg, sc, nx, dr, sn0, tb⟩ := m
  obtain ⟨-, sA, sB, pA, pB, h1, h2, h3, h4, h5, h6, h7, h8⟩ := h
  obtain ⟨k1, k2, k3, k4, k5, k6, k7, k8⟩ := k
  have hs1 := h1.2.2.2.2.2.2.1
  have hp := h1.2.2.2.2.2.2.2
  have h1' : HouseC S1 sA sB pA pB vr := by
    unfold HouseC
    rw [e1, e1, e1, e1, e0 523 (by decide), e0 522 (by decide)]
    exact h1
  exact ⟨hI, sA, sB, pA, pB, h1', h2.fr (e 1 (by omega)), h3.fr k2.1 (fun a a1 a2 => e a (by omega)), h4.fr (fun a a1 a2 => e a (by omega)), h5.fr (e _ (by omega)) (e _ (by omega)), hs, h7.fr k5 (fun a a1 a2 => e a (by omega)), fun hr => ⟨(h8 hr).1.fr (fun a a1 a2 => e a (by omega)), (h8 hr).2.fr (k4 hr).1.1 (fun a a1 a2 => e a (by omega))⟩⟩
theorem Imm.fm {S : gS} (h : Imm S) {p g : Nat} (hp : p < 40) (hg : g = 5 + 5 * p ∨ g = 7 + 5 * p) : FormAt S g (g + 1) := by
  rcases hg with q | q
  · rw [show g + 1 = 6 + 5 * p by omega, q]; exact h.fa hp
  · rw [show g + 1 = 8 + 5 * p by omega, q]; exact h.fb hp
/-- what read does once the row is known, of the class -/
theorem readRow_C {S : gS} {dk : mDk} {vr : Int32 × Bool} {pl mg : List mStep} {sc nx : List mCol} {dr : mDr} {sn : mSn} {tb : List mRow} (h0 : RC S (dk, vr, pl, mg, sc, nx, dr, sn, tb)) (k0 : mOk (dk, vr, pl, mg, sc, nx, dr, sn, tb)) {g s rs p : Nat} {l : List mCol} {vs : List mV} (p1 : p < 40) (hg : g = 5 + 5 * p ∨ g = 7 + 5 * p) (hss : s = 213 ∨ s = 216) (hrs : gfR S rs 0 = some s) (hsl : SchC S s l) (hll : l.length ≤ 8) (hfv : FormC (gaL S (g + 1)) (tys l) vs) : COp S 0 237 ((f_X2_copyFrom (g_pI S 517 0 1) 208 g).bind fun S21 => g_ck S21 8 0 ((gfR S21 516 0).bind fun a22 => g_ck S21 8 0 ((gfR S21 rs 0).bind fun a28 => g_ck S21 5 a22 ((f_X5_copyFrom S21 a22 a28).bind fun S27 => some ((1 : Int32), S27))))) 1 (fun S1 => RC S1 (dk, vr, pl, mg, sc, nx, dr, some (tys l, vs), tb)) := by
  have hI : Imm S := h0.1
  have hI1 : Imm (g_pI S 517 0 1) := hI.of rfl rfl rfl rfl rfl
  have fg : FormAt (g_pI S 517 0 1) g (g + 1) := hI1.fm p1 hg
  rw [copyFrom_C hI1.seenF fg, Option.bind_some]
  generalize hS2 : g_rL (g_pI S 517 0 1) 209 (va_cpy (gaL (g_pI S 517 0 1) (g + 1)) (gaL (g_pI S 517 0 1) 209) 0 0 32) = S2
  have hI2 : Imm S2 := by rw [← hS2]; exact hI.of rfl rfl rfl rfl rfl
  have hR2 : gfR S2 = gfR S := by rw [← hS2]; rfl
  have e2 : Fr 0 210 S S2 := by rw [← hS2]; exact (Fr.pI (by omega) (by omega)).trans (Fr.rL (by omega) (by omega))
  have hss2 : isSch s := by unfold isSch; omega
  have hs2 : SchC S2 s l := hsl.fr fun a a1 a2 => e2 a (by omega)
  rw [g_ck_t (hI2.is (show 0 < 265 by decide) (show K0 0 = 8 by decide)), hR2, hI.r (516, 0, 210) (by decide), hrs, Option.bind_some, Option.bind_some, g_ck_t (hI2.is (show 0 < 265 by decide) (show K0 0 = 8 by decide)), g_ck_t (hI2.is (show 210 < 265 by decide) (show K0 210 = 5 by decide))]
  obtain ⟨S3, b1, b2, b3, b4⟩ := copySch_C hI2 (hI2.sch (s := 210) (Or.inl rfl)) (hI2.sch hss2) (by omega) hs2 hll
  rw [b1, Option.bind_some]
  refine ⟨S3, rfl, b2, (e2.mono (by omega) (by omega)).trans (b3.mono (by omega) (by omega)), h0.seen (sn := some (tys l, vs)) k0 b2 (fun a ha => ?_) (fun f hf => ?_) (fun f => ?_) ?_⟩
  · refine EqA.trans ?_ (b3 a (by omega))
    rw [← hS2]
    exact (EqA.pI (by omega)).trans (EqA.rL (by omega))
  · rw [(b3 0 (by omega)).1, ← hS2]
    simp only [q_pI_fI, q_pI_fL, q_pI_fR, q_pI_aI, q_pI_aL, q_pI_aR, q_pI_K, q_pI_ln, q_pI_n, q_pI_sl, q_pI_is, q_pI_ck, q_pL_fI, q_pL_fL, q_pL_fR, q_pL_aI, q_pL_aL, q_pL_aR, q_pL_K, q_pL_ln, q_pL_n, q_pL_sl, q_pL_is, q_pL_ck, q_pR_fI, q_pR_fL, q_pR_fR, q_pR_aI, q_pR_aL, q_pR_aR, q_pR_K, q_pR_ln, q_pR_n, q_pR_sl, q_pR_is, q_pR_ck, q_rI_fI, q_rI_fL, q_rI_fR, q_rI_aI, q_rI_aL, q_rI_aR, q_rI_K, q_rI_ln, q_rI_n, q_rI_sl, q_rI_is, q_rI_ck, q_rL_fI, q_rL_fL, q_rL_fR, q_rL_aI, q_rL_aL, q_rL_aR, q_rL_K, q_rL_ln, q_rL_n, q_rL_sl, q_rL_is, q_rL_ck, q_rR_fI, q_rR_fL, q_rR_fR, q_rR_aI, q_rR_aL, q_rR_aR, q_rR_K, q_rR_ln, q_rR_n, q_rR_sl, q_rR_is, q_rR_ck]
    exact g_up_f hf
  · rw [(b3 0 (by omega)).2.2.1, hR2]
  · refine ⟨?_, ?_, fun i t ht => ?_, ?_⟩
    · rw [(b3 0 (by omega)).1, ← hS2]
      simp only [q_pI_fI, q_pI_fL, q_pI_fR, q_pI_aI, q_pI_aL, q_pI_aR, q_pI_K, q_pI_ln, q_pI_n, q_pI_sl, q_pI_is, q_pI_ck, q_pL_fI, q_pL_fL, q_pL_fR, q_pL_aI, q_pL_aL, q_pL_aR, q_pL_K, q_pL_ln, q_pL_n, q_pL_sl, q_pL_is, q_pL_ck, q_pR_fI, q_pR_fL, q_pR_fR, q_pR_aI, q_pR_aL, q_pR_aR, q_pR_K, q_pR_ln, q_pR_n, q_pR_sl, q_pR_is, q_pR_ck, q_rI_fI, q_rI_fL, q_rI_fR, q_rI_aI, q_rI_aL, q_rI_aR, q_rI_K, q_rI_ln, q_rI_n, q_rI_sl, q_rI_is, q_rI_ck, q_rL_fI, q_rL_fL, q_rL_fR, q_rL_aI, q_rL_aL, q_rL_aR, q_rL_K, q_rL_ln, q_rL_n, q_rL_sl, q_rL_is, q_rL_ck, q_rR_fI, q_rR_fL, q_rR_fR, q_rR_aI, q_rR_aL, q_rR_aR, q_rR_K, q_rR_ln, q_rR_n, q_rR_sl, q_rR_is, q_rR_ck]
      exact g_up_s
    · rw [b4.1]; unfold tys; rw [List.length_map]
    · unfold tys at ht
      rw [List.getElem?_map] at ht
      cases hc : l[i]? with
      | none => rw [hc] at ht; cases ht
      | some c =>
        rw [hc] at ht
        cases ht
        exact (b4.2 i c hc).2
    · rw [(b3 209 (by omega)).2.2.2.2.1, ← hS2]
      simp only [q_pI_fI, q_pI_fL, q_pI_fR, q_pI_aI, q_pI_aL, q_pI_aR, q_pI_K, q_pI_ln, q_pI_n, q_pI_sl, q_pI_is, q_pI_ck, q_pL_fI, q_pL_fL, q_pL_fR, q_pL_aI, q_pL_aL, q_pL_aR, q_pL_K, q_pL_ln, q_pL_n, q_pL_sl, q_pL_is, q_pL_ck, q_pR_fI, q_pR_fL, q_pR_fR, q_pR_aI, q_pR_aL, q_pR_aR, q_pR_K, q_pR_ln, q_pR_n, q_pR_sl, q_pR_is, q_pR_ck, q_rI_fI, q_rI_fL, q_rI_fR, q_rI_aI, q_rI_aL, q_rI_aR, q_rI_K, q_rI_ln, q_rI_n, q_rI_sl, q_rI_is, q_rI_ck, q_rL_fI, q_rL_fL, q_rL_fR, q_rL_aI, q_rL_aL, q_rL_aR, q_rL_K, q_rL_ln, q_rL_n, q_rL_sl, q_rL_is, q_rL_ck, q_rR_fI, q_rR_fL, q_rR_fR, q_rR_aI, q_rR_aL, q_rR_aR, q_rR_K, q_rR_ln, q_rR_n, q_rR_sl, q_rR_is, q_rR_ck]
      rw [g_row_s]
      exact hfv.cpy (by unfold tys; rw [List.length_map]; exact hll)
theorem read_C {S : gS} {m : mS} {key f : Int32} (h : RC S m) (k : mOk m) : COp S 0 237 (f_X8_read S 0 key f) (mRead m key f).1 (fun S1 => RC S1 (mRead m key f).2) := by
  have h0 := h
  have k0 := k
  obtain ⟨dk, vr, pl, mg, sc, nx, dr, sn, tb⟩ := m
  obtain ⟨hI, sA, sB, pA, pB, h1, h2, h3, h4, h5, h6, h7, h8⟩ := h
  obtain ⟨k1, k2, k3, k4, k5, k6, k7, k8⟩ := k
  have hs := h1.2.2.2.2.2.2.1
  have hp := h1.2.2.2.2.2.2.2
  have c0 : g_is S 8 0 := hI.is (by decide) (by decide)
  have c1 : g_is S 0 1 := hI.is (by decide) (by decide)
  have c2 : g_is S 7 2 := hI.is (by decide) (by decide)
  have r0 : gfR S 512 0 = some 1 := hI.r (512, 0, 1) (by decide)
  have r1 : gfR S 513 0 = some 2 := hI.r (513, 0, 2) (by decide)
  have mA : MigAt S pA := hI.mig (by unfold isMig; omega)
  have aS : SchAt S sA := hI.sch (by unfold isSch; omega)
  obtain ⟨t1, t2, t3, t4⟩ := hI.tab
  have pu := placeUnder_C h7 hI k5 k7 key
  unfold mRead
  dsimp only
  by_cases e : dk.1 = 0
  · rw [if_pos e]
    have run : f ≠ 0 → ¬ (f ≠ 0 ∧ vr.2 = false) → vr.2 = true := fun a b => by
      cases hv : vr.2 with
      | true => rfl
      | false => exact absurd ⟨a, hv⟩ b
    by_cases c : f ≠ 0 ∧ vr.2 = false
    · rw [if_pos c]
      unfold f_X8_read
      simp only [g_getI, g_getL, g_getR, g_putI, g_putZ, g_putL, g_putR, g_ldI, g_ldL, g_ldR, g_stI, g_stZ, g_stL, g_stR, g_alen, g_ldX, g_cVI, g_cVL, g_cVR, g_cVV, g_cI, g_cL, g_cN, g_lt, g_jn, g_cpI, g_cpL, g_z, Nat.reduceMul, Nat.reduceAdd, Option.bind_some, or_true, true_or, if_true, q_pI_fI, q_pI_fL, q_pI_fR, q_pI_aI, q_pI_aL, q_pI_aR, q_pI_K, q_pI_ln, q_pI_n, q_pI_sl, q_pI_is, q_pI_ck, q_pL_fI, q_pL_fL, q_pL_fR, q_pL_aI, q_pL_aL, q_pL_aR, q_pL_K, q_pL_ln, q_pL_n, q_pL_sl, q_pL_is, q_pL_ck, q_pR_fI, q_pR_fL, q_pR_fR, q_pR_aI, q_pR_aL, q_pR_aR, q_pR_K, q_pR_ln, q_pR_n, q_pR_sl, q_pR_is, q_pR_ck, q_rI_fI, q_rI_fL, q_rI_fR, q_rI_aI, q_rI_aL, q_rI_aR, q_rI_K, q_rI_ln, q_rI_n, q_rI_sl, q_rI_is, q_rI_ck, q_rL_fI, q_rL_fL, q_rL_fR, q_rL_aI, q_rL_aL, q_rL_aR, q_rL_K, q_rL_ln, q_rL_n, q_rL_sl, q_rL_is, q_rL_ck, q_rR_fI, q_rR_fL, q_rR_fR, q_rR_aI, q_rR_aL, q_rR_aR, q_rR_K, q_rR_ln, q_rR_n, q_rR_sl, q_rR_is, q_rR_ck, g_ck_t c0, r0, r1, g_ck_t c1, g_ck_t c2, h2.1, e, c.1, h1.2.2.2.2.2.1, c.2, if_false, Bool.false_eq_true]
      exact ⟨S, rfl, hI, Fr.refl, h0⟩
    · rw [if_neg c]
      cases hq : mFnd tb key with
      | none =>
        rw [hq] at pu
        have hX : f_X8_read S 0 key f = some (0, g_pI S 517 0 0) := by
          unfold f_X8_read
          simp only [g_getI, g_getL, g_getR, g_putI, g_putZ, g_putL, g_putR, g_ldI, g_ldL, g_ldR, g_stI, g_stZ, g_stL, g_stR, g_alen, g_ldX, g_cVI, g_cVL, g_cVR, g_cVV, g_cI, g_cL, g_cN, g_lt, g_jn, g_cpI, g_cpL, g_z, Nat.reduceMul, Nat.reduceAdd, Option.bind_some, or_true, true_or, if_true, q_pI_fI, q_pI_fL, q_pI_fR, q_pI_aI, q_pI_aL, q_pI_aR, q_pI_K, q_pI_ln, q_pI_n, q_pI_sl, q_pI_is, q_pI_ck, q_pL_fI, q_pL_fL, q_pL_fR, q_pL_aI, q_pL_aL, q_pL_aR, q_pL_K, q_pL_ln, q_pL_n, q_pL_sl, q_pL_is, q_pL_ck, q_pR_fI, q_pR_fL, q_pR_fR, q_pR_aI, q_pR_aL, q_pR_aR, q_pR_K, q_pR_ln, q_pR_n, q_pR_sl, q_pR_is, q_pR_ck, q_rI_fI, q_rI_fL, q_rI_fR, q_rI_aI, q_rI_aL, q_rI_aR, q_rI_K, q_rI_ln, q_rI_n, q_rI_sl, q_rI_is, q_rI_ck, q_rL_fI, q_rL_fL, q_rL_fR, q_rL_aI, q_rL_aL, q_rL_aR, q_rL_K, q_rL_ln, q_rL_n, q_rL_sl, q_rL_is, q_rL_ck, q_rR_fI, q_rR_fL, q_rR_fR, q_rR_aI, q_rR_aL, q_rR_aR, q_rR_K, q_rR_ln, q_rR_n, q_rR_sl, q_rR_is, q_rR_ck, g_ck_t c0, r0, r1, g_ck_t c1, g_ck_t c2, h2.1, e, pu, h1.2.2.2.2.2.1, ixO]
          by_cases d : f = 0
          · rw [if_pos d]; rfl
          · rw [if_neg d, if_neg (show ¬ (if vr.2 = true then (1 : Int32) else 0) = 0 by rw [if_pos (run d c)]; decide)]; rfl
        rw [hX]
        have hz : Imm (g_pI S 517 0 0) := hI.of rfl rfl rfl rfl rfl
        have e1 : Fr 0 1 S (g_pI S 517 0 0) := Fr.pI (by omega) (by omega)
        refine ⟨_, rfl, hz, e1.mono (by omega) (by omega), h0.seen (sn := none) k0 hz (fun a ha => e1 a (by omega)) (fun f hf => ?_) (fun _ => rfl) ?_⟩
        · rw [q_pI_fI]; exact g_up_f hf
        · show gfI (g_pI S 517 0 0) 517 0 = 0
          rw [q_pI_fI]; exact g_up_s
      | some i =>
        rw [hq] at pu
        have hi := mFnd_lt hq
        have hr := getD_some (d := ((0, 0, 0, [], []) : mRow)) hi
        obtain ⟨p, p1, p2, p3, p4⟩ := h7.at hI k5 hr
        obtain ⟨-, -, -, fp, ff, sw, f1, f2⟩ := p4
        unfold f_X8_read
        simp only [g_getI, g_getL, g_getR, g_putI, g_putZ, g_putL, g_putR, g_ldI, g_ldL, g_ldR, g_stI, g_stZ, g_stL, g_stR, g_alen, g_ldX, g_cVI, g_cVL, g_cVR, g_cVV, g_cI, g_cL, g_cN, g_lt, g_jn, g_cpI, g_cpL, g_z, Nat.reduceMul, Nat.reduceAdd, Option.bind_some, or_true, true_or, if_true, q_pI_fI, q_pI_fL, q_pI_fR, q_pI_aI, q_pI_aL, q_pI_aR, q_pI_K, q_pI_ln, q_pI_n, q_pI_sl, q_pI_is, q_pI_ck, q_pL_fI, q_pL_fL, q_pL_fR, q_pL_aI, q_pL_aL, q_pL_aR, q_pL_K, q_pL_ln, q_pL_n, q_pL_sl, q_pL_is, q_pL_ck, q_pR_fI, q_pR_fL, q_pR_fR, q_pR_aI, q_pR_aL, q_pR_aR, q_pR_K, q_pR_ln, q_pR_n, q_pR_sl, q_pR_is, q_pR_ck, q_rI_fI, q_rI_fL, q_rI_fR, q_rI_aI, q_rI_aL, q_rI_aR, q_rI_K, q_rI_ln, q_rI_n, q_rI_sl, q_rI_is, q_rI_ck, q_rL_fI, q_rL_fL, q_rL_fR, q_rL_aI, q_rL_aL, q_rL_aR, q_rL_K, q_rL_ln, q_rL_n, q_rL_sl, q_rL_is, q_rL_ck, q_rR_fI, q_rR_fL, q_rR_fR, q_rR_aI, q_rR_aL, q_rR_aR, q_rR_K, q_rR_ln, q_rR_n, q_rR_sl, q_rR_is, q_rR_ck, g_ck_t c0, r0, r1, g_ck_t c1, g_ck_t c2, h2.1, e, pu, h1.2.2.2.2.2.1, ixO, t2, g_ck_t t3, t4, hI.r (515, 0, 208) (by decide), g_ck_t hI.seenF.1]
        rw [if_neg (show ¬ nI i < 0 from nI_pos (by omega)), if_pos (show (0 : Int32) ≤ nI i from nI_le (a := 0) (by omega) (by omega)), g_ix_t (by omega) (by decide), nI_clamp (by omega), p2, Option.bind_some, g_ck_t p3, sw.1, sw.2.1, Option.bind_some, Option.bind_some]
        have sw3 := sw.2.2
        have w1 : g_is S 2 fp ∧ g_is S 2 ff := by
          rcases sw3 with q | q
          · rw [q.1, q.2]; exact ⟨(hI.fa p1).1, (hI.fb p1).1⟩
          · rw [q.1, q.2]; exact ⟨(hI.fb p1).1, (hI.fa p1).1⟩
        by_cases d : f = 0
        · simp only [if_pos d]
          exact readRow_C h0 k0 p1 (g := fp) (s := sA) (by omega) (by omega) h1.1 h4 k3.1 f1
        · have rr := run d c
          simp only [if_neg d]
          rw [if_neg (show ¬ (if vr.2 = true then (1 : Int32) else 0) = 0 by rw [if_pos rr]; decide), g_ck_t p3]
          exact readRow_C h0 k0 p1 (g := ff) (s := sB) (by omega) (by omega) h1.2.1 (h8 rr).1 (k4 rr).2.1.1 (f2 rr)
  · rw [if_neg e]
    unfold f_X8_read
    simp only [g_getI, g_getL, g_getR, g_putI, g_putZ, g_putL, g_putR, g_ldI, g_ldL, g_ldR, g_stI, g_stZ, g_stL, g_stR, g_alen, g_ldX, g_cVI, g_cVL, g_cVR, g_cVV, g_cI, g_cL, g_cN, g_lt, g_jn, g_cpI, g_cpL, g_z, Nat.reduceMul, Nat.reduceAdd, Option.bind_some, or_true, true_or, if_true, q_pI_fI, q_pI_fL, q_pI_fR, q_pI_aI, q_pI_aL, q_pI_aR, q_pI_K, q_pI_ln, q_pI_n, q_pI_sl, q_pI_is, q_pI_ck, q_pL_fI, q_pL_fL, q_pL_fR, q_pL_aI, q_pL_aL, q_pL_aR, q_pL_K, q_pL_ln, q_pL_n, q_pL_sl, q_pL_is, q_pL_ck, q_pR_fI, q_pR_fL, q_pR_fR, q_pR_aI, q_pR_aL, q_pR_aR, q_pR_K, q_pR_ln, q_pR_n, q_pR_sl, q_pR_is, q_pR_ck, q_rI_fI, q_rI_fL, q_rI_fR, q_rI_aI, q_rI_aL, q_rI_aR, q_rI_K, q_rI_ln, q_rI_n, q_rI_sl, q_rI_is, q_rI_ck, q_rL_fI, q_rL_fL, q_rL_fR, q_rL_aI, q_rL_aL, q_rL_aR, q_rL_K, q_rL_ln, q_rL_n, q_rL_sl, q_rL_is, q_rL_ck, q_rR_fI, q_rR_fL, q_rR_fR, q_rR_aI, q_rR_aL, q_rR_aR, q_rR_K, q_rR_ln, q_rR_n, q_rR_sl, q_rR_is, q_rR_ck, g_ck_t c0, r0, g_ck_t c1, h2.1]
    rw [if_neg e]
    exact ⟨S, rfl, hI, Fr.refl, h0⟩
theorem form_R {S : gS} {i s b : Nat} (hI : Imm S) (hi : i < 40) (h : gaI S 243 i = nI s) : f_X9_form S 237 (nI i) (nI b) = some (nI (16 * s + 8 * b), S) := by
  have hR := hI.ref
  unfold f_X9_form
  simp only [g_getI, g_getL, g_getR, g_putI, g_putZ, g_putL, g_putR, g_ldI, g_ldL, g_ldR, g_stI, g_stZ, g_stL, g_stR, g_alen, g_ldX, g_cVI, g_cVL, g_cVR, g_cVV, g_cI, g_cL, g_cN, g_lt, g_jn, g_cpI, g_cpL, g_z, Nat.reduceMul, Nat.reduceAdd, Option.bind_some, or_true, true_or, if_true, ck9 hR, rf_slots hR, g_ck_t (ri_slots hR), rl_slots hR]
  rw [g_ix_t (by omega) (by decide), nI_clamp (by omega), h, show (16 : Int32) = nI 16 from rfl, show (8 : Int32) = nI 8 from rfl, pk_mul, pk_mul, nI_add]
theorem read_loop {b : Nat} (hb : b < 2) {p1 p2 x5 : Int32} : ∀ (d fu k : Nat) (S : gS), k + d = 8 → d < fu → Imm S → l_X9_read_80 237 p1 p2 x5 (nI b) fu S (nI k) = some (1, g_rI S 260 (fun q => if k ≤ q ∧ q < 8 then gaI S 249 (8 * b + q) else gaI S 260 q)) := by
  intro d
  induction d with
  | zero =>
    intro fu k S hk hf hI
    obtain ⟨fu, rfl⟩ : ∃ m, fu = m + 1 := ⟨fu - 1, by omega⟩
    have : k = 8 := by omega
    subst this
    rw [l_X9_read_80, if_pos (by decide), show (fun q => if 8 ≤ q ∧ q < 8 then gaI S 249 (8 * b + q) else gaI S 260 q) = gaI S 260 from funext fun q => if_neg (by omega), g_rI_id]
  | succ d ih =>
    intro fu k S hk hf hI
    obtain ⟨fu, rfl⟩ : ∃ m, fu = m + 1 := ⟨fu - 1, by omega⟩
    have hR := hI.ref
    rw [l_X9_read_80, show (8 : Int32) = nI 8 from rfl, if_neg (nI_ge (by omega) (by omega))]
    simp only [g_getI, g_getL, g_getR, g_putI, g_putZ, g_putL, g_putR, g_ldI, g_ldL, g_ldR, g_stI, g_stZ, g_stL, g_stR, g_alen, g_ldX, g_cVI, g_cVL, g_cVR, g_cVV, g_cI, g_cL, g_cN, g_lt, g_jn, g_cpI, g_cpL, g_z, Nat.reduceMul, Nat.reduceAdd, Option.bind_some, or_true, true_or, if_true, ck9 hR, rf_seenTypes hR, g_ck_t (ri_seenTypes hR), rl_seenTypes hR, rf_types hR, g_ck_t (ri_types hR), rl_types hR, pk_mul, nI_add, add1]
    simp (disch := omega) only [g_ix_t, nI_clamp]
    rw [ih fu (k + 1) (g_rI S 260 (upd (gaI S 260) k (gaI S 249 (8 * b + k)))) (by omega) (by omega) (hI.of rfl rfl rfl rfl rfl), g_rI_rI]
    congr 3
    funext q
    simp only [q_pI_fI, q_pI_fL, q_pI_fR, q_pI_aI, q_pI_aL, q_pI_aR, q_pI_K, q_pI_ln, q_pI_n, q_pI_sl, q_pI_is, q_pI_ck, q_pL_fI, q_pL_fL, q_pL_fR, q_pL_aI, q_pL_aL, q_pL_aR, q_pL_K, q_pL_ln, q_pL_n, q_pL_sl, q_pL_is, q_pL_ck, q_pR_fI, q_pR_fL, q_pR_fR, q_pR_aI, q_pR_aL, q_pR_aR, q_pR_K, q_pR_ln, q_pR_n, q_pR_sl, q_pR_is, q_pR_ck, q_rI_fI, q_rI_fL, q_rI_fR, q_rI_aI, q_rI_aL, q_rI_aR, q_rI_K, q_rI_ln, q_rI_n, q_rI_sl, q_rI_is, q_rI_ck, q_rL_fI, q_rL_fL, q_rL_fR, q_rL_aI, q_rL_aL, q_rL_aR, q_rL_K, q_rL_ln, q_rL_n, q_rL_sl, q_rL_is, q_rL_ck, q_rR_fI, q_rR_fL, q_rR_fR, q_rR_aI, q_rR_aL, q_rR_aR, q_rR_K, q_rR_ln, q_rR_n, q_rR_sl, q_rR_is, q_rR_ck, g_row, Nat.reduceEqDiff, reduceIte]
    by_cases a : q = k
    · rw [if_neg (by omega), if_pos (by omega), a, pk_us]
    · rw [pk_un a]
      by_cases c : k + 1 ≤ q ∧ q < 8
      · rw [if_pos c, if_pos (by omega)]
      · rw [if_neg c, if_neg (by omega)]
theorem readRow_R {S : gS} {dk : mDk} {vr : Int32 × Bool} {pl mg : List mStep} {sc nx : List mCol} {dr : mDr} {sn : mSn} {tb : List mRow} (h : RR S (dk, vr, pl, mg, sc, nx, dr, sn, tb)) (k : mOk (dk, vr, pl, mg, sc, nx, dr, sn, tb)) {b s i : Nat} {l : List mCol} {vs : List mV} (hb : b < 2) (hi : i < 40) (hs : s < 40) (hsi : gaI S 243 i = nI s) (hsl : SchR S b l) (hll : l.length ≤ 8) (hfv : FormR S (16 * s + 8 * b) (tys l) vs) {x1 x2 : Int32} : COp S 237 265 ((gfR S 589 237).bind fun a10 => g_ck S 10 a10 (g_ix (gln S a10) (nI b) ((f_X9_form (g_pI (g_pI S 603 237 (-1)) 603 237 (gaI S a10 (nI b).toNatClampNeg)) 237 (nI i) (nI b)).bind fun z => g_ck z.2 9 237 ((f_X9_copyForm z.2 237 z.1 640).bind fun S15 => l_X9_read_80 237 x1 x2 (nI i) (nI b) 100 S15 0)))) 1 (fun S1 => RR S1 (dk, vr, pl, mg, sc, nx, dr, some (tys l, vs), tb)) := by
  obtain ⟨hI, h2, h3, h4, h5, h6, h7, h8, h9, h10⟩ := h
  obtain ⟨k1, k2, k3, k4, k5, k6, k7, k8⟩ := k
  have hR := hI.ref
  rw [rf_columns hR, Option.bind_some, g_ck_t (ri_columns hR), rl_columns hR, g_ix_t (by omega) (by decide), nI_clamp (by omega), hsl.1]
  generalize hS1 : g_pI (g_pI S 603 237 (-1)) 603 237 (nI l.length) = S1
  have b2 : RE [238, 239, 240, 241, 260] [603] S S1 := by rw [← hS1]; exact (RE.pI (by decide)).trans (RE.pI (by decide))
  have hI1 := b2.imm hI
  have b3 : ∀ k, SlotEq S S1 k := by rw [← hS1]; exact fun k => ⟨rfl, rfl, fun _ _ => rfl⟩
  rw [form_R hI1 hi (s := s) (by rw [b2.aI (by decide)]; exact hsi), Option.bind_some]
  dsimp only
  obtain ⟨S2, d1, d2, d3, d4⟩ := copyForm_V (S := S1) (s := 16 * s + 8 * b) (d := 640) hI1 (by omega) (by omega) (by omega)
  rw [ck9 hI1.ref, show (640 : Int32) = nI 640 from rfl, d1, Option.bind_some]
  have hI2 := d2.imm hI1
  have hlp := read_loop hb (p1 := x1) (p2 := x2) (x5 := nI i) 8 100 0 S2 (by omega) (by omega) hI2
  rw [show (0 : Int32) = nI 0 from rfl, hlp]
  generalize hr : (fun q => if 0 ≤ q ∧ q < 8 then gaI S2 249 (8 * b + q) else gaI S2 260 q) = r
  have e : RE [238, 239, 240, 241, 260] [603] S (g_rI S2 260 r) := (b2.trans (d2.mono (by decide) (by decide))).trans (RE.rI (by decide))
  have s2 : ∀ k, SlotEq S2 (g_rI S2 260 r) k := fun k => ⟨rfl, by simp only [q_pI_fI, q_pI_fL, q_pI_fR, q_pI_aI, q_pI_aL, q_pI_aR, q_pI_K, q_pI_ln, q_pI_n, q_pI_sl, q_pI_is, q_pI_ck, q_pL_fI, q_pL_fL, q_pL_fR, q_pL_aI, q_pL_aL, q_pL_aR, q_pL_K, q_pL_ln, q_pL_n, q_pL_sl, q_pL_is, q_pL_ck, q_pR_fI, q_pR_fL, q_pR_fR, q_pR_aI, q_pR_aL, q_pR_aR, q_pR_K, q_pR_ln, q_pR_n, q_pR_sl, q_pR_is, q_pR_ck, q_rI_fI, q_rI_fL, q_rI_fR, q_rI_aI, q_rI_aL, q_rI_aR, q_rI_K, q_rI_ln, q_rI_n, q_rI_sl, q_rI_is, q_rI_ck, q_rL_fI, q_rL_fL, q_rL_fR, q_rL_aI, q_rL_aL, q_rL_aR, q_rL_K, q_rL_ln, q_rL_n, q_rL_sl, q_rL_is, q_rL_ck, q_rR_fI, q_rR_fL, q_rR_fR, q_rR_aI, q_rR_aL, q_rR_aR, q_rR_K, q_rR_ln, q_rR_n, q_rR_sl, q_rR_is, q_rR_ck, g_row, Nat.reduceEqDiff, reduceIte], fun _ _ => by simp only [q_pI_fI, q_pI_fL, q_pI_fR, q_pI_aI, q_pI_aL, q_pI_aR, q_pI_K, q_pI_ln, q_pI_n, q_pI_sl, q_pI_is, q_pI_ck, q_pL_fI, q_pL_fL, q_pL_fR, q_pL_aI, q_pL_aL, q_pL_aR, q_pL_K, q_pL_ln, q_pL_n, q_pL_sl, q_pL_is, q_pL_ck, q_pR_fI, q_pR_fL, q_pR_fR, q_pR_aI, q_pR_aL, q_pR_aR, q_pR_K, q_pR_ln, q_pR_n, q_pR_sl, q_pR_is, q_pR_ck, q_rI_fI, q_rI_fL, q_rI_fR, q_rI_aI, q_rI_aL, q_rI_aR, q_rI_K, q_rI_ln, q_rI_n, q_rI_sl, q_rI_is, q_rI_ck, q_rL_fI, q_rL_fL, q_rL_fR, q_rL_aI, q_rL_aL, q_rL_aR, q_rL_K, q_rL_ln, q_rL_n, q_rL_sl, q_rL_is, q_rL_ck, q_rR_fI, q_rR_fL, q_rR_fR, q_rR_aI, q_rR_aL, q_rR_aR, q_rR_K, q_rR_ln, q_rR_n, q_rR_sl, q_rR_is, q_rR_ck, g_row, Nat.reduceEqDiff, reduceIte]⟩
  have w : ∀ k, k < 640 → SlotEq S (g_rI S2 260 r) k := fun k hk => ((b3 k).trans (d3 k (by omega))).trans (s2 k)
  refine ⟨_, rfl, e.imm hI, e.fr (by decide), e.imm hI, h2.e e (by decide), (e.fI (by decide)).trans h3, (e.fI (by decide)).trans h4, ⟨(e.fI (by decide)).trans h5.1, h5.2.e e (by decide)⟩, h6.e e (by decide), h7.e e (by decide), ⟨?_, ?_, ?_⟩, h9.e e (by decide) (by decide) k3.1 (fun hr => (k4 hr).2.1.1) w, fun hr => ⟨(h10 hr).1.e e (by decide), (e.fI (by decide)).trans (h10 hr).2.1, (h10 hr).2.2.e e (by decide)⟩⟩
  · rw [q_rI_fI, d2.fI (by decide), ← hS1, q_pI_fI, g_up_s]
    unfold tys; rw [List.length_map]
  · intro i t ht
    have hti := lt_of_some ht
    unfold tys at ht hti
    rw [List.length_map] at hti
    rw [List.getElem?_map] at ht
    simp only [q_pI_fI, q_pI_fL, q_pI_fR, q_pI_aI, q_pI_aL, q_pI_aR, q_pI_K, q_pI_ln, q_pI_n, q_pI_sl, q_pI_is, q_pI_ck, q_pL_fI, q_pL_fL, q_pL_fR, q_pL_aI, q_pL_aL, q_pL_aR, q_pL_K, q_pL_ln, q_pL_n, q_pL_sl, q_pL_is, q_pL_ck, q_pR_fI, q_pR_fL, q_pR_fR, q_pR_aI, q_pR_aL, q_pR_aR, q_pR_K, q_pR_ln, q_pR_n, q_pR_sl, q_pR_is, q_pR_ck, q_rI_fI, q_rI_fL, q_rI_fR, q_rI_aI, q_rI_aL, q_rI_aR, q_rI_K, q_rI_ln, q_rI_n, q_rI_sl, q_rI_is, q_rI_ck, q_rL_fI, q_rL_fL, q_rL_fR, q_rL_aI, q_rL_aL, q_rL_aR, q_rL_K, q_rL_ln, q_rL_n, q_rL_sl, q_rL_is, q_rL_ck, q_rR_fI, q_rR_fL, q_rR_fR, q_rR_aI, q_rR_aL, q_rR_aR, q_rR_K, q_rR_ln, q_rR_n, q_rR_sl, q_rR_is, q_rR_ck, g_row, Nat.reduceEqDiff, reduceIte]
    rw [← hr]
    dsimp only
    rw [if_pos (by omega), d2.aI (by decide), b2.aI (by decide)]
    cases hc : l[i]? with
    | none => rw [hc] at ht; cases ht
    | some c =>
      rw [hc] at ht
      cases ht
      exact (hsl.2 i c hc).2
  · have f1 : FormR S1 (16 * s + 8 * b) (tys l) vs := hfv.slots fun k _ _ => b3 k
    have f2 := f1.cp (by unfold tys; rw [List.length_map]; exact hll) d4
    exact f2.slots fun k _ _ => s2 k
theorem read_R {S : gS} {m : mS} {key f : Int32} (h : RR S m) (k : mOk m) : COp S 237 265 (f_X9_read S 237 key f) (mRead m key f).1 (fun S1 => RR S1 (mRead m key f).2) := by
  have h0 := h
  have k0 := k
  obtain ⟨dk, vr, pl, mg, sc, nx, dr, sn, tb⟩ := m
  obtain ⟨hI, h2, h3, h4, h5, h6, h7, h8, h9, h10⟩ := h
  obtain ⟨k1, k2, k3, k4, k5, k6, k7, k8⟩ := k
  have hR := hI.ref
  have pu := find_R h9 hI k5 k7 key
  unfold mRead
  dsimp only
  by_cases e : dk.1 = 0
  · rw [if_pos e]
    have run : f ≠ 0 → ¬ (f ≠ 0 ∧ vr.2 = false) → vr.2 = true := fun a b => by
      cases hv : vr.2 with
      | true => rfl
      | false => exact absurd ⟨a, hv⟩ b
    by_cases c : f ≠ 0 ∧ vr.2 = false
    · rw [if_pos c]
      unfold f_X9_read
      simp only [g_getI, g_getL, g_getR, g_putI, g_putZ, g_putL, g_putR, g_ldI, g_ldL, g_ldR, g_stI, g_stZ, g_stL, g_stR, g_alen, g_ldX, g_cVI, g_cVL, g_cVR, g_cVV, g_cI, g_cL, g_cN, g_lt, g_jn, g_cpI, g_cpL, g_z, Nat.reduceMul, Nat.reduceAdd, Option.bind_some, or_true, true_or, if_true, q_pI_fI, q_pI_fL, q_pI_fR, q_pI_aI, q_pI_aL, q_pI_aR, q_pI_K, q_pI_ln, q_pI_n, q_pI_sl, q_pI_is, q_pI_ck, q_pL_fI, q_pL_fL, q_pL_fR, q_pL_aI, q_pL_aL, q_pL_aR, q_pL_K, q_pL_ln, q_pL_n, q_pL_sl, q_pL_is, q_pL_ck, q_pR_fI, q_pR_fL, q_pR_fR, q_pR_aI, q_pR_aL, q_pR_aR, q_pR_K, q_pR_ln, q_pR_n, q_pR_sl, q_pR_is, q_pR_ck, q_rI_fI, q_rI_fL, q_rI_fR, q_rI_aI, q_rI_aL, q_rI_aR, q_rI_K, q_rI_ln, q_rI_n, q_rI_sl, q_rI_is, q_rI_ck, q_rL_fI, q_rL_fL, q_rL_fR, q_rL_aI, q_rL_aL, q_rL_aR, q_rL_K, q_rL_ln, q_rL_n, q_rL_sl, q_rL_is, q_rL_ck, q_rR_fI, q_rR_fL, q_rR_fR, q_rR_aI, q_rR_aL, q_rR_aR, q_rR_K, q_rR_ln, q_rR_n, q_rR_sl, q_rR_is, q_rR_ck, ck9 hR, h2.1, e, c.1, h4, c.2, if_false, Bool.false_eq_true]
      exact ⟨S, rfl, hI, Fr.refl, h0⟩
    · rw [if_neg c]
      cases hq : mFnd tb key with
      | none =>
        rw [hq] at pu
        have hX : f_X9_read S 237 key f = some (0, g_pI S 603 237 (-1)) := by
          unfold f_X9_read
          simp only [g_getI, g_getL, g_getR, g_putI, g_putZ, g_putL, g_putR, g_ldI, g_ldL, g_ldR, g_stI, g_stZ, g_stL, g_stR, g_alen, g_ldX, g_cVI, g_cVL, g_cVR, g_cVV, g_cI, g_cL, g_cN, g_lt, g_jn, g_cpI, g_cpL, g_z, Nat.reduceMul, Nat.reduceAdd, Option.bind_some, or_true, true_or, if_true, q_pI_fI, q_pI_fL, q_pI_fR, q_pI_aI, q_pI_aL, q_pI_aR, q_pI_K, q_pI_ln, q_pI_n, q_pI_sl, q_pI_is, q_pI_ck, q_pL_fI, q_pL_fL, q_pL_fR, q_pL_aI, q_pL_aL, q_pL_aR, q_pL_K, q_pL_ln, q_pL_n, q_pL_sl, q_pL_is, q_pL_ck, q_pR_fI, q_pR_fL, q_pR_fR, q_pR_aI, q_pR_aL, q_pR_aR, q_pR_K, q_pR_ln, q_pR_n, q_pR_sl, q_pR_is, q_pR_ck, q_rI_fI, q_rI_fL, q_rI_fR, q_rI_aI, q_rI_aL, q_rI_aR, q_rI_K, q_rI_ln, q_rI_n, q_rI_sl, q_rI_is, q_rI_ck, q_rL_fI, q_rL_fL, q_rL_fR, q_rL_aI, q_rL_aL, q_rL_aR, q_rL_K, q_rL_ln, q_rL_n, q_rL_sl, q_rL_is, q_rL_ck, q_rR_fI, q_rR_fL, q_rR_fR, q_rR_aI, q_rR_aL, q_rR_aR, q_rR_K, q_rR_ln, q_rR_n, q_rR_sl, q_rR_is, q_rR_ck, ck9 hR, h2.1, e, pu, h4, ixO]
          by_cases d : f = 0
          · rw [if_pos d]; rfl
          · rw [if_neg d, if_neg (show ¬ (if vr.2 = true then (1 : Int32) else 0) = 0 by rw [if_pos (run d c)]; decide)]; rfl
        rw [hX]
        have e : RE [] [603] S (g_pI S 603 237 (-1)) := RE.pI (by decide)
        have ws : ∀ k, k < 648 → SlotEq S (g_pI S 603 237 (-1)) k := fun k _ => e.slot (by decide) (by decide) (by decide)
        refine ⟨_, rfl, e.imm hI, e.fr (by decide), e.imm hI, h2.e e (by decide), (e.fI (by decide)).trans h3, (e.fI (by decide)).trans h4, ⟨(e.fI (by decide)).trans h5.1, h5.2.e e (by decide)⟩, h6.e e (by decide), h7.e e (by decide), ?_, h9.e e (by decide) (by decide) k3.1 (fun hr => (k4 hr).2.1.1) (fun k hk => ws k (by omega)), fun hr => ⟨(h10 hr).1.e e (by decide), (e.fI (by decide)).trans (h10 hr).2.1, (h10 hr).2.2.e e (by decide)⟩⟩
        show gfI (g_pI S 603 237 (-1)) 603 237 = -1
        rw [q_pI_fI]; exact g_up_s
      | some i =>
        rw [hq] at pu
        have hi := mFnd_lt hq
        have hr := getD_some (d := ((0, 0, 0, [], []) : mRow)) hi
        obtain ⟨-, ⟨s, u1, u2, u3, u4, u5⟩, -⟩ := h9.2.2.2 i _ hr
        unfold f_X9_read
        simp only [g_getI, g_getL, g_getR, g_putI, g_putZ, g_putL, g_putR, g_ldI, g_ldL, g_ldR, g_stI, g_stZ, g_stL, g_stR, g_alen, g_ldX, g_cVI, g_cVL, g_cVR, g_cVV, g_cI, g_cL, g_cN, g_lt, g_jn, g_cpI, g_cpL, g_z, Nat.reduceMul, Nat.reduceAdd, Option.bind_some, or_true, true_or, if_true, q_pI_fI, q_pI_fL, q_pI_fR, q_pI_aI, q_pI_aL, q_pI_aR, q_pI_K, q_pI_ln, q_pI_n, q_pI_sl, q_pI_is, q_pI_ck, q_pL_fI, q_pL_fL, q_pL_fR, q_pL_aI, q_pL_aL, q_pL_aR, q_pL_K, q_pL_ln, q_pL_n, q_pL_sl, q_pL_is, q_pL_ck, q_pR_fI, q_pR_fL, q_pR_fR, q_pR_aI, q_pR_aL, q_pR_aR, q_pR_K, q_pR_ln, q_pR_n, q_pR_sl, q_pR_is, q_pR_ck, q_rI_fI, q_rI_fL, q_rI_fR, q_rI_aI, q_rI_aL, q_rI_aR, q_rI_K, q_rI_ln, q_rI_n, q_rI_sl, q_rI_is, q_rI_ck, q_rL_fI, q_rL_fL, q_rL_fR, q_rL_aI, q_rL_aL, q_rL_aR, q_rL_K, q_rL_ln, q_rL_n, q_rL_sl, q_rL_is, q_rL_ck, q_rR_fI, q_rR_fL, q_rR_fR, q_rR_aI, q_rR_aL, q_rR_aR, q_rR_K, q_rR_ln, q_rR_n, q_rR_sl, q_rR_is, q_rR_ck, ck9 hR, h2.1, e, pu, h4, ixO]
        rw [if_pos (show (0 : Int32) ≤ nI i from nI_le (a := 0) (by omega) (by omega))]
        by_cases d : f = 0
        · simp only [if_pos d]
          exact readRow_R h0 k0 (b := 0) (by omega) (by omega) u1 u2 h6 k3.1 (by rw [Nat.mul_zero, Nat.add_zero]; exact u4)
        · have rr := run d c
          simp only [if_neg d]
          rw [if_neg (show ¬ (if vr.2 = true then (1 : Int32) else 0) = 0 by rw [if_pos rr]; decide)]
          exact readRow_R h0 k0 (b := 1) (by omega) (by omega) u1 u2 (h10 rr).1 (k4 rr).2.1.1 (u5 rr)
  · rw [if_neg e]
    unfold f_X9_read
    simp only [g_getI, g_getL, g_getR, g_putI, g_putZ, g_putL, g_putR, g_ldI, g_ldL, g_ldR, g_stI, g_stZ, g_stL, g_stR, g_alen, g_ldX, g_cVI, g_cVL, g_cVR, g_cVV, g_cI, g_cL, g_cN, g_lt, g_jn, g_cpI, g_cpL, g_z, Nat.reduceMul, Nat.reduceAdd, Option.bind_some, or_true, true_or, if_true, q_pI_fI, q_pI_fL, q_pI_fR, q_pI_aI, q_pI_aL, q_pI_aR, q_pI_K, q_pI_ln, q_pI_n, q_pI_sl, q_pI_is, q_pI_ck, q_pL_fI, q_pL_fL, q_pL_fR, q_pL_aI, q_pL_aL, q_pL_aR, q_pL_K, q_pL_ln, q_pL_n, q_pL_sl, q_pL_is, q_pL_ck, q_pR_fI, q_pR_fL, q_pR_fR, q_pR_aI, q_pR_aL, q_pR_aR, q_pR_K, q_pR_ln, q_pR_n, q_pR_sl, q_pR_is, q_pR_ck, q_rI_fI, q_rI_fL, q_rI_fR, q_rI_aI, q_rI_aL, q_rI_aR, q_rI_K, q_rI_ln, q_rI_n, q_rI_sl, q_rI_is, q_rI_ck, q_rL_fI, q_rL_fL, q_rL_fR, q_rL_aI, q_rL_aL, q_rL_aR, q_rL_K, q_rL_ln, q_rL_n, q_rL_sl, q_rL_is, q_rL_ck, q_rR_fI, q_rR_fL, q_rR_fR, q_rR_aI, q_rR_aL, q_rR_aR, q_rR_K, q_rR_ln, q_rR_n, q_rR_sl, q_rR_is, q_rR_ck, ck9 hR, h2.1]
    rw [if_neg e]
    exact ⟨S, rfl, hI, Fr.refl, h0⟩
theorem tys_ok {l : List mCol} (h : scOk l) : (tys l).length ≤ 8 ∧ ∀ t ∈ tys l, isTy t := by
  unfold tys
  rw [List.length_map]
  refine ⟨h.1, fun t ht => ?_⟩
  obtain ⟨c, c1, c2⟩ := List.mem_map.mp ht
  rw [← c2]
  exact h.2.1 c c1
theorem mRead_ok {m : mS} {key f : Int32} (k : mOk m) : mOk (mRead m key f).2 := by
  have k0 := k
  obtain ⟨dk, vr, pl, mg, sc, nx, dr, sn, tb⟩ := m
  obtain ⟨k1, k2, k3, k4, k5, k6, k7, k8⟩ := k
  unfold mRead
  dsimp only
  by_cases e : dk.1 = 0
  · rw [if_pos e]
    by_cases c : f ≠ 0 ∧ vr.2 = false
    · rw [if_pos c]; exact k0
    · rw [if_neg c]
      cases hq : mFnd tb key with
      | none => exact ⟨k1, k2, k3, k4, k5, k6, k7, fun ts vs q => by cases q⟩
      | some i =>
        refine ⟨k1, k2, k3, k4, k5, k6, k7, fun ts vs q => ?_⟩
        cases q
        by_cases d : f = 0
        · rw [if_pos d]; exact tys_ok k3
        · rw [if_neg d]
          have : vr.2 = true := by
            cases hv : vr.2 with
            | true => rfl
            | false => exact absurd ⟨d, hv⟩ c
          exact tys_ok (k4 this).2.1
  · rw [if_neg e]; exact k0
