/-! ===== remove ===== -/
theorem g_rR_rR {S : gS} {a : Nat} {r1 r2 : Nat → Option Nat} : g_rR (g_rR S a r1) a r2 = g_rR S a r2 := by
  have : g_row (gaR (g_rR S a r1)) a r2 = g_row (gaR S) a r2 := g_row_row
  unfold g_rR at this ⊢
  rw [this]
  rfl
theorem g_rR_id {S : gS} {a : Nat} : g_rR S a (gaR S a) = S := by
  have : g_row (gaR S) a (gaR S a) = gaR S := by
    funext b
    unfold g_row
    by_cases h : b = a
    · subst h; simp
    · simp [h]
  unfold g_rR
  rw [this]
  rfl
/-- the array of the rows holds rows -/
def RwA (S : gS) : Prop := ∀ j, j < 40 → ∃ p, p < 40 ∧ gaR S 3 j = some (4 + 5 * p)
theorem PermC.rw {S : gS} {q : Nat → Nat} (h : PermC S q) : RwA S := fun j hj => ⟨q j, h.1 j hj, h.2.2 j hj⟩
theorem Imm.row {S : gS} (h : Imm S) {p : Nat} (hp : p < 40) : g_is S 4 (4 + 5 * p) := h.is (by omega) (K0_row _ hp).1
theorem takeOut_loop {n : Nat} {p1 : Int32} {u : Nat} {K : gS → Int32 → Option gS} (hn : 0 < n) (hn2 : n ≤ 40) : ∀ (d fu k : Nat) (S : gS), k + d = n - 1 → d < fu → Imm S → gfI S 449 2 = nI n → RwA S → l_X7_takeOut_9 2 p1 u fu S (nI k) K = K (g_rR S 3 (fun j => if k ≤ j ∧ j + 1 < n then gaR S 3 (j + 1) else gaR S 3 j)) (nI (n - 1)) := by
  intro d
  induction d with
  | zero =>
    intro fu k S hk hf hI hc hA
    obtain ⟨fu, rfl⟩ : ∃ m, fu = m + 1 := ⟨fu - 1, by omega⟩
    obtain ⟨t1, t2, t3, t4⟩ := hI.tab
    have : k = n - 1 := by omega
    subst this
    rw [l_X7_takeOut_9]
    simp only [g_getI, g_getL, g_getR, g_putI, g_putZ, g_putL, g_putR, g_ldI, g_ldL, g_ldR, g_stI, g_stZ, g_stL, g_stR, g_alen, g_ldX, g_cVI, g_cVL, g_cVR, g_cVV, g_cI, g_cL, g_cN, g_lt, g_jn, g_cpI, g_cpL, g_z, Nat.reduceMul, Nat.reduceAdd, Option.bind_some, or_true, true_or, if_true, g_ck_t t1, hc, show (1 : Int32) = nI 1 from rfl]
    rw [sub_nI (by omega), if_pos (nI_le (by omega) (by omega)), show (fun j => if n - 1 ≤ j ∧ j + 1 < n then gaR S 3 (j + 1) else gaR S 3 j) = gaR S 3 from funext fun q => if_neg (by omega), g_rR_id]
  | succ d ih =>
    intro fu k S hk hf hI hc hA
    obtain ⟨fu, rfl⟩ : ∃ m, fu = m + 1 := ⟨fu - 1, by omega⟩
    obtain ⟨t1, t2, t3, t4⟩ := hI.tab
    obtain ⟨p, a1, a2⟩ := hA (k + 1) (by omega)
    rw [l_X7_takeOut_9]
    simp only [g_getI, g_getL, g_getR, g_putI, g_putZ, g_putL, g_putR, g_ldI, g_ldL, g_ldR, g_stI, g_stZ, g_stL, g_stR, g_alen, g_ldX, g_cVI, g_cVL, g_cVR, g_cVV, g_cI, g_cL, g_cN, g_lt, g_jn, g_cpI, g_cpL, g_z, Nat.reduceMul, Nat.reduceAdd, Option.bind_some, or_true, true_or, if_true, g_ck_t t1, hc, t2, g_ck_t t3, t4, show (1 : Int32) = nI 1 from rfl]
    rw [sub_nI (by omega), if_neg (nI_ge (by omega) (by omega)), nI_add, g_ix_t (by omega) (by decide), nI_clamp (by omega), a2, Option.bind_some, g_ck_t (hI.row a1), g_ix_t (by omega) (by decide), nI_clamp (by omega)]
    have hA2 : RwA (g_rR S 3 (va_up (gaR S 3) k (some (4 + 5 * p)))) := by
      intro j hj
      rw [q_rR_aR, g_row_s]
      unfold va_up
      by_cases e : j = k
      · rw [if_pos e]; exact ⟨p, a1, rfl⟩
      · rw [if_neg e]; exact hA j hj
    rw [ih fu (k + 1) (g_rR S 3 (va_up (gaR S 3) k (some (4 + 5 * p)))) (by omega) (by omega) hI.rR hc hA2, g_rR_rR]
    congr 2
    funext j
    rw [q_rR_aR, g_row_s]
    unfold va_up
    by_cases e : j = k
    · rw [if_neg (by omega), if_pos e, if_pos (by omega), e, a2]
    · by_cases c : k + 1 ≤ j ∧ j + 1 < n
      · rw [if_pos c, if_neg (by omega), if_pos (by omega)]
      · rw [if_neg c, if_neg e, if_neg (by omega)]
theorem takeOut_C {S : gS} {tb : List mRow} {sc nx : List mCol} {run : Bool} {i : Nat} (h : TableC S tb sc nx run) (hI : Imm S) (hl : tb.length ≤ 40) (hi : i < tb.length) : COv S 2 4 (f_X7_takeOut S 2 (nI i)) (fun S1 => TableC S1 (tb.eraseIdx i) sc nx run) := by
  obtain ⟨h1, q, h2, h3, h4⟩ := h
  obtain ⟨t1, t2, t3, t4⟩ := hI.tab
  unfold f_X7_takeOut
  simp only [g_getR, g_ldR, Nat.reduceMul, Nat.reduceAdd, g_ck_t t1, t2, Option.bind_some, g_ck_t t3, t4]
  rw [g_ix_t (by omega) (by decide), nI_clamp (by omega), h2.2.2 i (by omega), Option.bind_some, takeOut_loop (n := tb.length) (by omega) hl (tb.length - 1 - i) 100 i S (by omega) (by omega) hI h1 h2.rw]
  generalize hr : (fun j => if i ≤ j ∧ j + 1 < tb.length then gaR S 3 (j + 1) else gaR S 3 j) = r
  have hI1 : Imm (g_rR S 3 r) := hI.rR
  simp only [g_getI, g_getL, g_getR, g_putI, g_putZ, g_putL, g_putR, g_ldI, g_ldL, g_ldR, g_stI, g_stZ, g_stL, g_stR, g_alen, g_ldX, g_cVI, g_cVL, g_cVR, g_cVV, g_cI, g_cL, g_cN, g_lt, g_jn, g_cpI, g_cpL, g_z, Nat.reduceMul, Nat.reduceAdd, Option.bind_some, or_true, true_or, if_true, q_pI_fI, q_pI_fL, q_pI_fR, q_pI_aI, q_pI_aL, q_pI_aR, q_pI_K, q_pI_ln, q_pI_n, q_pI_sl, q_pI_is, q_pI_ck, q_pL_fI, q_pL_fL, q_pL_fR, q_pL_aI, q_pL_aL, q_pL_aR, q_pL_K, q_pL_ln, q_pL_n, q_pL_sl, q_pL_is, q_pL_ck, q_pR_fI, q_pR_fL, q_pR_fR, q_pR_aI, q_pR_aL, q_pR_aR, q_pR_K, q_pR_ln, q_pR_n, q_pR_sl, q_pR_is, q_pR_ck, q_rI_fI, q_rI_fL, q_rI_fR, q_rI_aI, q_rI_aL, q_rI_aR, q_rI_K, q_rI_ln, q_rI_n, q_rI_sl, q_rI_is, q_rI_ck, q_rL_fI, q_rL_fL, q_rL_fR, q_rL_aI, q_rL_aL, q_rL_aR, q_rL_K, q_rL_ln, q_rL_n, q_rL_sl, q_rL_is, q_rL_ck, q_rR_fI, q_rR_fL, q_rR_fR, q_rR_aI, q_rR_aL, q_rR_aR, q_rR_K, q_rR_ln, q_rR_n, q_rR_sl, q_rR_is, q_rR_ck, g_ck_t t1, t2, g_ck_t t3, t4, h1, show (1 : Int32) = nI 1 from rfl]
  rw [sub_nI (by omega), g_up_s, g_ck_t (hI.row (h2.1 i (by omega))), g_ix_t (by omega) (by decide), nI_clamp (by omega)]
  have e : Fr 2 4 S (g_rR (g_pI (g_rR S 3 r) 449 2 (nI (tb.length - 1))) 3 (va_up (g_row (gaR S) 3 r 3) (tb.length - 1) (some (4 + 5 * q i)))) := ((Fr.rR (by omega) (by omega)).trans (Fr.pI (by omega) (by omega))).trans (Fr.rR (by omega) (by omega))
  have hI2 : Imm (g_rR (g_pI (g_rR S 3 r) 449 2 (nI (tb.length - 1))) 3 (va_up (g_row (gaR S) 3 r 3) (tb.length - 1) (some (4 + 5 * q i)))) := Imm.rR (Imm.of hI1 rfl rfl rfl rfl rfl)
  refine ⟨_, rfl, hI2, e, ?_, fun j => if j < i then q j else if j + 1 < tb.length then q (j + 1) else if j + 1 = tb.length then q i else q j, ⟨?_, ?_, ?_⟩, fun p hp => ?_, fun j rw_ hj => ?_⟩
  · simp only [q_pI_fI, q_pI_fL, q_pI_fR, q_pI_aI, q_pI_aL, q_pI_aR, q_pI_K, q_pI_ln, q_pI_n, q_pI_sl, q_pI_is, q_pI_ck, q_pL_fI, q_pL_fL, q_pL_fR, q_pL_aI, q_pL_aL, q_pL_aR, q_pL_K, q_pL_ln, q_pL_n, q_pL_sl, q_pL_is, q_pL_ck, q_pR_fI, q_pR_fL, q_pR_fR, q_pR_aI, q_pR_aL, q_pR_aR, q_pR_K, q_pR_ln, q_pR_n, q_pR_sl, q_pR_is, q_pR_ck, q_rI_fI, q_rI_fL, q_rI_fR, q_rI_aI, q_rI_aL, q_rI_aR, q_rI_K, q_rI_ln, q_rI_n, q_rI_sl, q_rI_is, q_rI_ck, q_rL_fI, q_rL_fL, q_rL_fR, q_rL_aI, q_rL_aL, q_rL_aR, q_rL_K, q_rL_ln, q_rL_n, q_rL_sl, q_rL_is, q_rL_ck, q_rR_fI, q_rR_fL, q_rR_fR, q_rR_aI, q_rR_aL, q_rR_aR, q_rR_K, q_rR_ln, q_rR_n, q_rR_sl, q_rR_is, q_rR_ck]
    rw [g_up_s, List.length_eraseIdx_of_lt hi]
  · intro j hj
    dsimp only
    split
    · exact h2.1 j hj
    · split
      · exact h2.1 _ (by omega)
      · split
        · exact h2.1 i (by omega)
        · exact h2.1 j hj
  · intro a b ha hb hab
    dsimp only at hab
    have inj := h2.2.1
    have l1 : ∀ x y, x < 40 → y < 40 → x ≠ y → q x ≠ q y := fun x y hx hy hxy hq => hxy (inj x y hx hy hq)
    by_cases c : a = b
    · exact c
    · exfalso
      by_cases a1 : a < i
      · rw [if_pos a1] at hab
        by_cases b1 : b < i
        · rw [if_pos b1] at hab; exact l1 _ _ (by omega) (by omega) (by omega) hab
        · rw [if_neg b1] at hab
          by_cases b2 : b + 1 < tb.length
          · rw [if_pos b2] at hab; exact l1 _ _ (by omega) (by omega) (by omega) hab
          · rw [if_neg b2] at hab
            by_cases b3 : b + 1 = tb.length
            · rw [if_pos b3] at hab; exact l1 _ _ (by omega) (by omega) (by omega) hab
            · rw [if_neg b3] at hab; exact l1 _ _ (by omega) (by omega) (by omega) hab
      · rw [if_neg a1] at hab
        by_cases a2 : a + 1 < tb.length
        · rw [if_pos a2] at hab
          by_cases b1 : b < i
          · rw [if_pos b1] at hab; exact l1 _ _ (by omega) (by omega) (by omega) hab
          · rw [if_neg b1] at hab
            by_cases b2 : b + 1 < tb.length
            · rw [if_pos b2] at hab; exact l1 _ _ (by omega) (by omega) (by omega) hab
            · rw [if_neg b2] at hab
              by_cases b3 : b + 1 = tb.length
              · rw [if_pos b3] at hab; exact l1 _ _ (by omega) (by omega) (by omega) hab
              · rw [if_neg b3] at hab; exact l1 _ _ (by omega) (by omega) (by omega) hab
        · rw [if_neg a2] at hab
          by_cases a3 : a + 1 = tb.length
          · rw [if_pos a3] at hab
            by_cases b1 : b < i
            · rw [if_pos b1] at hab; exact l1 _ _ (by omega) (by omega) (by omega) hab
            · rw [if_neg b1] at hab
              by_cases b2 : b + 1 < tb.length
              · rw [if_pos b2] at hab; exact l1 _ _ (by omega) (by omega) (by omega) hab
              · rw [if_neg b2] at hab
                by_cases b3 : b + 1 = tb.length
                · omega
                · rw [if_neg b3] at hab; exact l1 _ _ (by omega) (by omega) (by omega) hab
          · rw [if_neg a3] at hab
            by_cases b1 : b < i
            · rw [if_pos b1] at hab; exact l1 _ _ (by omega) (by omega) (by omega) hab
            · rw [if_neg b1] at hab
              by_cases b2 : b + 1 < tb.length
              · rw [if_pos b2] at hab; exact l1 _ _ (by omega) (by omega) (by omega) hab
              · rw [if_neg b2] at hab
                by_cases b3 : b + 1 = tb.length
                · rw [if_pos b3] at hab; exact l1 _ _ (by omega) (by omega) (by omega) hab
                · rw [if_neg b3] at hab; exact l1 _ _ (by omega) (by omega) (by omega) hab
  · intro j hj
    simp only [q_pI_fI, q_pI_fL, q_pI_fR, q_pI_aI, q_pI_aL, q_pI_aR, q_pI_K, q_pI_ln, q_pI_n, q_pI_sl, q_pI_is, q_pI_ck, q_pL_fI, q_pL_fL, q_pL_fR, q_pL_aI, q_pL_aL, q_pL_aR, q_pL_K, q_pL_ln, q_pL_n, q_pL_sl, q_pL_is, q_pL_ck, q_pR_fI, q_pR_fL, q_pR_fR, q_pR_aI, q_pR_aL, q_pR_aR, q_pR_K, q_pR_ln, q_pR_n, q_pR_sl, q_pR_is, q_pR_ck, q_rI_fI, q_rI_fL, q_rI_fR, q_rI_aI, q_rI_aL, q_rI_aR, q_rI_K, q_rI_ln, q_rI_n, q_rI_sl, q_rI_is, q_rI_ck, q_rL_fI, q_rL_fL, q_rL_fR, q_rL_aI, q_rL_aL, q_rL_aR, q_rL_K, q_rL_ln, q_rL_n, q_rL_sl, q_rL_is, q_rL_ck, q_rR_fI, q_rR_fL, q_rR_fR, q_rR_aI, q_rR_aL, q_rR_aR, q_rR_K, q_rR_ln, q_rR_n, q_rR_sl, q_rR_is, q_rR_ck]
    rw [g_row_s, g_row_s]
    unfold va_up
    rw [← hr]
    dsimp only
    by_cases c : j = tb.length - 1
    · rw [if_pos c, if_neg (show ¬ j < i by omega), if_neg (show ¬ j + 1 < tb.length by omega), if_pos (show j + 1 = tb.length by omega)]
    · rw [if_neg c]
      by_cases d : j < i
      · rw [if_pos d, if_neg (by omega)]; exact h2.2.2 j hj
      · rw [if_neg d]
        by_cases d2 : j + 1 < tb.length
        · rw [if_pos d2, if_pos (by omega)]; exact h2.2.2 _ (by omega)
        · rw [if_neg d2, if_neg (show ¬ j + 1 = tb.length by omega), if_neg (by omega)]; exact h2.2.2 j hj
  · obtain ⟨fp, ff, g⟩ := h3 p hp
    exact ⟨fp, ff, g.fr (e _ (by omega))⟩
  · have hj2 := lt_of_some hj
    rw [List.length_eraseIdx_of_lt hi] at hj2
    rw [List.getElem?_eraseIdx] at hj
    dsimp only
    by_cases c : j < i
    · rw [if_pos c] at hj ⊢
      exact (h4 j rw_ hj).fr fun a a1 a2 => e a (by omega)
    · rw [if_neg c] at hj ⊢
      rw [if_pos (show j + 1 < tb.length by omega)]
      exact (h4 (j + 1) rw_ hj).fr fun a a1 a2 => e a (by omega)
def wTb (m : mS) (tb : List mRow) : mS := match m with
  | (dk, vr, pl, mg, sc, nx, dr, sn, _) => (dk, vr, pl, mg, sc, nx, dr, sn, tb)
theorem RC.table {S S1 : gS} {m : mS} {tb : List mRow} (h : RC S m) (k : mOk m) (hI : Imm S1) (e : Fr 2 204 S S1) (ht : TableC S1 tb m.2.2.2.2.1 m.2.2.2.2.2.1 m.2.1.2) : RC S1 (wTb m tb) := by
  obtain ⟨dk, vr, pl, mg, sc, nx, dr, sn, tb0⟩ := m
  obtain ⟨-, sA, sB, pA, pB, h1, h2, h3, h4, h5, h6, h7, h8⟩ := h
  obtain ⟨k1, k2, k3, k4, k5, k6, k7, k8⟩ := k
  have hs := h1.2.2.2.2.2.2.1
  have hp := h1.2.2.2.2.2.2.2
  exact ⟨hI, sA, sB, pA, pB, h1.fr (e 0 (by omega)), h2.fr (e 1 (by omega)), h3.fr k2.1 (fun a a1 a2 => e a (by omega)), h4.fr (fun a a1 a2 => e a (by omega)), h5.fr (e _ (by omega)) (e _ (by omega)), h6.fr ((e 0 (by omega)).1 _) (fun a a1 a2 => e a (by omega)), ht, fun hr => ⟨(h8 hr).1.fr (fun a a1 a2 => e a (by omega)), (h8 hr).2.fr (k4 hr).1.1 (fun a a1 a2 => e a (by omega))⟩⟩
theorem RC.tb {S : gS} {m : mS} (h : RC S m) : TableC S (mTb m) m.2.2.2.2.1 m.2.2.2.2.2.1 m.2.1.2 ∧ gfI S 522 0 = (if m.2.1.2 = true then 1 else 0) := by
  obtain ⟨dk, vr, pl, mg, sc, nx, dr, sn, tb⟩ := m
  obtain ⟨hI, sA, sB, pA, pB, h1, h2, h3, h4, h5, h6, h7, h8⟩ := h
  exact ⟨h7, h1.2.2.2.2.2.1⟩
theorem mOk.tb {m : mS} (k : mOk m) : (mTb m).length ≤ 40 ∧ (∀ r ∈ mTb m, rwOk r m.2.1.2) ∧ Srt (mTb m) := by
  obtain ⟨dk, vr, pl, mg, sc, nx, dr, sn, tb⟩ := m
  exact ⟨k.2.2.2.2.1, k.2.2.2.2.2.1, k.2.2.2.2.2.2.1⟩
/-- what is done behind a change of the rows: the note, while a migration runs -/
def mTail (m : mS) (x : Int32) : Int32 × mS := if m.2.1.2 = true then (if (mNote m.1).1 = true then x else -9, wDk m (mNote m.1).2) else (x, m)
def mPlaces (r : mRow) : Nat := if r.2.1 = 2 then 2 else 1
def mRemove (m : mS) (key : Int32) : Int32 × mS := if m.1.1 = 0 then (match mFnd (mTb m) key with
    | none => (-3, wDk m (mStart m.1))
    | some i => if (mActs (mPlaces ((mTb m).getD i (0, 0, 0, [], []))) (mStart m.1)).1 = mPlaces ((mTb m).getD i (0, 0, 0, [], [])) then mTail (wTb (wDk m (mActs (mPlaces ((mTb m).getD i (0, 0, 0, [], []))) (mStart m.1)).2) ((mTb m).eraseIdx i)) 1 else (-9, wDk m (mActs (mPlaces ((mTb m).getD i (0, 0, 0, [], []))) (mStart m.1)).2)) else (-8, wDk m (mStart m.1))
/-- the tail of write and remove, of the class -/
theorem tail_C {S : gS} {m : mS} {x : Int32} (h : RC S m) (k : mOk m) : COp S 0 237 (g_ck S 8 0 (if gfI S 522 0 = 0 then some (x, S) else g_ck S 8 0 ((gfR S 512 0).bind fun a19 => g_ck S 0 a19 ((f_X0_carryOutNote S a19).bind fun z => if z.1 = 0 then some ((-9 : Int32), z.2) else some (x, z.2))))) (mTail m x).1 (fun S1 => RC S1 (mTail m x).2) := by
  obtain ⟨hI, hD⟩ := h.dk
  have c0 : g_is S 8 0 := hI.is (by decide) (by decide)
  rw [g_ck_t c0, h.tb.2]
  unfold mTail
  by_cases e : m.2.1.2 = true
  · rw [if_pos e, if_pos e, if_neg (show ¬ (1 : Int32) = 0 by decide), g_ck_t c0, hI.r (512, 0, 1) (by decide), Option.bind_some, g_ck_t (hI.is (show 1 < 265 by decide) (show K0 1 = 0 by decide))]
    obtain ⟨S1, a1, a2, a3, a4⟩ := note_C hI hD
    rw [a1, Option.bind_some]
    dsimp only
    cases hb : (mNote m.1).1 with
    | true =>
      rw [show b32 true = 1 from rfl, if_neg (show ¬ (1 : Int32) = 0 by decide), if_pos rfl]
      exact ⟨S1, rfl, a2, a3.mono (by decide) (by decide), h.disk k a2 a3 a4⟩
    | false =>
      rw [show b32 false = 0 from rfl, if_pos rfl, if_neg (by decide)]
      exact ⟨S1, rfl, a2, a3.mono (by decide) (by decide), h.disk k a2 a3 a4⟩
  · rw [if_neg e, if_neg e, if_pos rfl]
    exact ⟨S, rfl, hI, Fr.refl, h⟩
theorem COp.pre {ρ : Type} {S S1 : gS} {lo hi : Nat} {o : Option (ρ × gS)} {x : ρ} {P : gS → Prop} (e : Fr lo hi S S1) (h : COp S1 lo hi o x P) : COp S lo hi o x P := by
  obtain ⟨S2, a1, a2, a3, a4⟩ := h
  exact ⟨S2, a1, a2, e.trans a3, a4⟩
theorem rwOk.erase {tb : List mRow} {run : Bool} {i : Nat} (h : ∀ r ∈ tb, rwOk r run) : ∀ r ∈ tb.eraseIdx i, rwOk r run := fun r hr => h r (List.mem_of_mem_eraseIdx hr)
theorem Srt.erase {tb : List mRow} {i : Nat} (h : Srt tb) : Srt (tb.eraseIdx i) := by
  unfold Srt at h ⊢
  exact h.sublist ((List.eraseIdx_sublist tb i).map _)
theorem mOk.table {m : mS} {tb : List mRow} (k : mOk m) (h1 : tb.length ≤ 40) (h2 : ∀ r ∈ tb, rwOk r m.2.1.2) (h3 : Srt tb) : mOk (wTb m tb) := by
  obtain ⟨dk, vr, pl, mg, sc, nx, dr, sn, tb0⟩ := m
  obtain ⟨k1, k2, k3, k4, k5, k6, k7, k8⟩ := k
  exact ⟨k1, k2, k3, k4, h1, h2, h3, k8⟩
theorem mTail_ok {m : mS} {x : Int32} (k : mOk m) : mOk (mTail m x).2 := by
  unfold mTail
  split
  · exact k.disk (mNote_ok k.dk)
  · exact k
theorem mPlaces_le (r : mRow) : mPlaces r ≤ 2 := by unfold mPlaces; split <;> omega
theorem mOk.erase {m : mS} {i : Nat} (k : mOk m) : mOk (wTb m ((mTb m).eraseIdx i)) := by
  obtain ⟨t1, t2, t3⟩ := k.tb
  refine k.table ?_ (rwOk.erase t2) t3.erase
  have := List.length_eraseIdx_le (mTb m) i
  omega
theorem mRemove_ok {m : mS} {key : Int32} (k : mOk m) : mOk (mRemove m key).2 := by
  have ks := mStart_ok k.dk
  unfold mRemove
  split
  · split
    · exact k.disk ks
    · split
      · exact mTail_ok ((k.disk (mActs_ok _ ks)).erase)
      · exact k.disk (mActs_ok _ ks)
  · exact k.disk ks
theorem remove_C {S : gS} {m : mS} {key : Int32} (h : RC S m) (k : mOk m) : COp S 0 237 (f_X8_remove S 0 key) (mRemove m key).1 (fun S1 => RC S1 (mRemove m key).2) := by
  obtain ⟨hI, hD⟩ := h.dk
  have c0 : g_is S 8 0 := hI.is (by decide) (by decide)
  have r0 : gfR S 512 0 = some 1 := hI.r (512, 0, 1) (by decide)
  obtain ⟨S1, a1, a2, a3, a4⟩ := startCall_C hI hD
  have h1 := h.disk k a2 a3 a4
  have ks := mStart_ok k.dk
  have k1 := k.disk ks
  obtain ⟨t1, t2, t3, t4⟩ := a2.tab
  have tb1 : TableC S1 (mTb m) m.2.2.2.2.1 m.2.2.2.2.2.1 m.2.1.2 := h1.tb.1
  obtain ⟨u1, u2, u3⟩ := k.tb
  have pu := placeUnder_C tb1 a2 u1 u3 key
  have c0' : g_is S1 8 0 := a2.is (by decide) (by decide)
  have c1' : g_is S1 0 1 := a2.is (by decide) (by decide)
  have r0' : gfR S1 512 0 = some 1 := a2.r (512, 0, 1) (by decide)
  have r1' : gfR S1 513 0 = some 2 := a2.r (513, 0, 2) (by decide)
  have c2' : g_is S1 7 2 := a2.is (by decide) (by decide)
  unfold f_X8_remove mRemove
  simp only [g_getI, g_getL, g_getR, g_putI, g_putZ, g_putL, g_putR, g_ldI, g_ldL, g_ldR, g_stI, g_stZ, g_stL, g_stR, g_alen, g_ldX, g_cVI, g_cVL, g_cVR, g_cVV, g_cI, g_cL, g_cN, g_lt, g_jn, g_cpI, g_cpL, g_z, Nat.reduceMul, Nat.reduceAdd, Option.bind_some, or_true, true_or, if_true, g_ck_t c0, r0, g_ck_t (hI.is (show 1 < 265 by decide) (show K0 1 = 0 by decide)), a1, g_ck_t c0', r0', r1', g_ck_t c1', g_ck_t c2', a4.1, t2, g_ck_t t3, t4, pu]
  show COp S 0 237 (if m.1.1 = 0 then _ else _) _ _
  by_cases e1 : m.1.1 = 0
  · rw [if_pos e1, if_pos e1]
    cases hq : mFnd (mTb m) key with
    | none =>
      rw [show ixO none = (-1 : Int32) from rfl, if_neg (show ¬ (0 : Int32) ≤ -1 by decide)]
      exact ⟨S1, rfl, a2, a3.mono (by decide) (by decide), h1⟩
    | some i =>
      rw [show ixO (some i) = nI i from rfl]
      have hi := mFnd_lt hq
      have hr := getD_some (d := ((0, 0, 0, [], []) : mRow)) hi
      obtain ⟨p, p1, p2, p3, p4⟩ := tb1.at a2 u1 hr
      rw [if_pos (show (0 : Int32) ≤ nI i from nI_le (a := 0) (by omega) (by omega)), g_ix_t (by omega) (by decide), nI_clamp (by omega), p2, Option.bind_some, g_ck_t p3]
      have dp : f_X4_diskPlaces S1 (4 + 5 * p) = some (nI (mPlaces ((mTb m).getD i (0, 0, 0, [], []))), S1) := by
        unfold f_X4_diskPlaces mPlaces
        simp only [g_getI, g_getL, g_getR, g_putI, g_putZ, g_putL, g_putR, g_ldI, g_ldL, g_ldR, g_stI, g_stZ, g_stL, g_stR, g_alen, g_ldX, g_cVI, g_cVL, g_cVR, g_cVV, g_cI, g_cL, g_cN, g_lt, g_jn, g_cpI, g_cpL, g_z, Nat.reduceMul, Nat.reduceAdd, Option.bind_some, or_true, true_or, if_true, g_ck_t p3, p4.2.1]
        split <;> rfl
      rw [dp, Option.bind_some]
      dsimp only
      have hpl := mPlaces_le ((mTb m).getD i (0, 0, 0, [], []))
      generalize mPlaces ((mTb m).getD i (0, 0, 0, [], [])) = n at hpl ⊢
      obtain ⟨S2, b1, b2, b3, b4⟩ := actTimes_C (n := n) (by omega) a2 a4
      rw [g_ck_t c1', b1, Option.bind_some]
      dsimp only
      have h2 : RC S2 (wDk m (mActs n (mStart m.1)).2) := h.disk k b2 (a3.trans b3) b4
      have k2 : mOk (wDk m (mActs n (mStart m.1)).2) := k.disk (mActs_ok n ks)
      by_cases e2 : (mActs n (mStart m.1)).1 = n
      · rw [if_pos e2, decide_eq_true e2, show b32 true = 1 from rfl, if_neg (show ¬ (1 : Int32) = 0 by decide), g_ck_t (b2.is (show 0 < 265 by decide) (show K0 0 = 8 by decide)), b2.r (513, 0, 2) (by decide), Option.bind_some, g_ck_t (b2.is (show 2 < 265 by decide) (show K0 2 = 7 by decide))]
        obtain ⟨S3, d1, d2, d3, d4⟩ := takeOut_C (i := i) h2.tb.1 b2 u1 hi
        rw [d1, Option.bind_some]
        have h3 : RC S3 (wTb (wDk m (mActs n (mStart m.1)).2) ((mTb m).eraseIdx i)) := h2.table k2 d2 (d3.mono (by decide) (by decide)) d4
        have k3 : mOk (wTb (wDk m (mActs n (mStart m.1)).2) ((mTb m).eraseIdx i)) := k2.erase
        exact COp.pre (((a3.trans b3).mono (by decide) (by decide)).trans (d3.mono (by decide) (by decide))) (tail_C h3 k3)
      · rw [if_neg e2, decide_eq_false e2, show b32 false = 0 from rfl, if_pos rfl]
        exact ⟨S2, rfl, b2, (a3.trans b3).mono (by decide) (by decide), h2⟩
  · rw [if_neg e1, if_neg e1]
    exact ⟨S1, rfl, a2, a3.mono (by decide) (by decide), h1⟩
