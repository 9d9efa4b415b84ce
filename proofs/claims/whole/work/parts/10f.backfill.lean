/-! ===== one row changes ===== -/
theorem TableC.put {S : gS} {tb : List mRow} {sc nx : List mCol} {run : Bool} (h : TableC S tb sc nx run) (hI : Imm S) (hl : tb.length ≤ 40) {i : Nat} {r : mRow} (hi : tb[i]? = some r) : ∃ p, p < 40 ∧ gaR S 3 i = some (4 + 5 * p) ∧ OneR S p ∧ RowC S p r sc nx run ∧ ∀ S1 r1, Fr (4 + 5 * p) (9 + 5 * p) S S1 → OneR S1 p → RowC S1 p r1 sc nx run → TableC S1 (tb.set i r1) sc nx run := by
  obtain ⟨h1, q, h2, h3, h4⟩ := h
  have hlt := lt_of_some hi
  have hq := h2.1 i (by omega)
  refine ⟨q i, hq, h2.2.2 i (by omega), h3 _ hq, h4 i r hi, fun S1 r1 e ho hr => ?_⟩
  refine ⟨by rw [List.length_set, (e 2 (by omega)).1]; exact h1, q, h2.fr (e 3 (by omega)), fun p hp => ?_, fun j z hj => ?_⟩
  · by_cases c : p = q i
    · rw [c]; exact ho
    · exact OneR.fr (h3 p hp) (e _ (by omega))
  · rw [List.getElem?_set] at hj
    by_cases c : i = j
    · subst c
      rw [if_pos rfl, if_pos hlt] at hj
      cases hj
      exact hr
    · rw [if_neg c] at hj
      have hj2 := lt_of_some hj
      have hne : q j ≠ q i := fun z => c (h2.2.1 j i (by omega) (by omega) z).symm
      have := h2.1 j (by omega)
      exact (h4 j z hj).fr fun a b1 b2 => e a (by omega)
theorem TableR.put {A F : List Nat} {S S1 : gS} {tb : List mRow} {sc nx : List mCol} {run : Bool} {i s : Nat} {r r1 : mRow} (h : TableR S tb sc nx run) (hs : sc.length ≤ 8) (hn : run = true → nx.length ≤ 8) (hi : tb[i]? = some r) (hsi : gaI S 243 i = nI s) (e : RE A F S S1) (hA : ∀ a ∈ [242, 243, 247], a ∉ A) (hF : 582 ∉ F) (ex : ∀ x ∈ [244, 245, 246], ∀ j, j ≠ i → gaI S1 x j = gaI S x j) (w : ∀ k, (k < 16 * s ∨ 16 * s + 16 ≤ k) → k < 648 → SlotEq S S1 k) (hB : BO S1) (hr : RowR S1 i r1 sc nx run) : TableR S1 (tb.set i r1) sc nx run := by
  obtain ⟨h1, h2, ⟨h3, -⟩, h4⟩ := h
  have x2 : gaI S1 242 = gaI S 242 := e.aI (hA 242 (by decide))
  have x3 : gaI S1 243 = gaI S 243 := e.aI (hA 243 (by decide))
  have x7 : gaI S1 247 = gaI S 247 := e.aI (hA 247 (by decide))
  have hlt := lt_of_some hi
  refine ⟨by rw [List.length_set, e.fI hF]; exact h1, by rw [List.length_set, x3]; exact h2, ⟨by rw [List.length_set, x7, x3]; exact h3, hB⟩, fun j z hj => ?_⟩
  rw [List.getElem?_set] at hj
  by_cases c : i = j
  · subst c
    rw [if_pos rfl, if_pos hlt] at hj
    cases hj
    exact hr
  · rw [if_neg c] at hj
    exact (h4 j z hj).oth hs hn x2 x3 x7 (fun x hx => ex x hx j (fun q => c q.symm)) (fun q => c (h2 i j hlt (lt_of_some hj) (hsi.trans q.symm))) w
/-! ===== backfill ===== -/
def gBf (r : mRow) : mRow := (r.1, 0, r.2.2)
def mBfL : List mRow → Nat → mDk → Bool × Nat × mDk × List mRow
  | [], c, d => (true, c, d, [])
  | r :: l, c, d => if 4 ≤ c then (true, c, d, r :: l) else if r.2.1 = 0 then ((mBfL l c d).1, (mBfL l c d).2.1, (mBfL l c d).2.2.1, r :: (mBfL l c d).2.2.2) else if (mActs (mPlaces r) d).1 = mPlaces r then ((mBfL l (c + 1) (mActs (mPlaces r) d).2).1, (mBfL l (c + 1) (mActs (mPlaces r) d).2).2.1, (mBfL l (c + 1) (mActs (mPlaces r) d).2).2.2.1, gBf r :: (mBfL l (c + 1) (mActs (mPlaces r) d).2).2.2.2) else (false, c, (mActs (mPlaces r) d).2, r :: l)
theorem mBfL_cons {r : mRow} {l : List mRow} {c : Nat} {d : mDk} : mBfL (r :: l) c d = if 4 ≤ c then (true, c, d, r :: l) else if r.2.1 = 0 then ((mBfL l c d).1, (mBfL l c d).2.1, (mBfL l c d).2.2.1, r :: (mBfL l c d).2.2.2) else if (mActs (mPlaces r) d).1 = mPlaces r then ((mBfL l (c + 1) (mActs (mPlaces r) d).2).1, (mBfL l (c + 1) (mActs (mPlaces r) d).2).2.1, (mBfL l (c + 1) (mActs (mPlaces r) d).2).2.2.1, gBf r :: (mBfL l (c + 1) (mActs (mPlaces r) d).2).2.2.2) else (false, c, (mActs (mPlaces r) d).2, r :: l) := rfl
def mBfE (z : Bool × Nat × mDk × List mRow) : Int32 × mDk := if z.1 = true then (if z.2.1 = 0 then (0, z.2.2.1) else if (mAct z.2.2.1).1 = true then (nI z.2.1, (mAct z.2.2.1).2) else (-9, (mAct z.2.2.1).2)) else (-9, z.2.2.1)
def mBackfill (m : mS) : Int32 × mS := if m.1.1 = 0 then ((mBfE (mBfL (mTb m) 0 (mStart m.1))).1, wTb (wDk m (mBfE (mBfL (mTb m) 0 (mStart m.1))).2) (mBfL (mTb m) 0 (mStart m.1)).2.2.2) else (-8, wDk m (mStart m.1))
theorem mBfL_len : ∀ (l : List mRow) (c : Nat) (d : mDk), (mBfL l c d).2.2.2.length = l.length := by
  intro l
  induction l with
  | nil => intro c d; rfl
  | cons r l ih =>
    intro c d
    rw [mBfL_cons]
    split
    · rfl
    · split
      · dsimp only; rw [List.length_cons, ih, List.length_cons]
      · split
        · dsimp only; rw [List.length_cons, ih, List.length_cons]
        · rfl
theorem mBfL_keys : ∀ (l : List mRow) (c : Nat) (d : mDk), (mBfL l c d).2.2.2.map (fun r => r.1) = l.map (fun r => r.1) := by
  intro l
  induction l with
  | nil => intro c d; rfl
  | cons r l ih =>
    intro c d
    rw [mBfL_cons]
    split
    · rfl
    · split
      · dsimp only; rw [List.map_cons, ih, List.map_cons]
      · split
        · dsimp only; rw [List.map_cons, ih, List.map_cons]; rfl
        · rfl
theorem mBfL_rw {run : Bool} : ∀ (l : List mRow) (c : Nat) (d : mDk), (∀ r ∈ l, rwOk r run) → ∀ r ∈ (mBfL l c d).2.2.2, rwOk r run := by
  intro l
  induction l with
  | nil => intro c d h; exact h
  | cons r l ih =>
    intro c d h
    rw [mBfL_cons]
    split
    · exact h
    · split
      · intro z hz
        rcases List.mem_cons.mp hz with q | q
        · rw [q]; exact h r List.mem_cons_self
        · exact ih _ _ (fun y hy => h y (List.mem_cons_of_mem _ hy)) z q
      · split
        · intro z hz
          rcases List.mem_cons.mp hz with q | q
          · rw [q]; exact ⟨(h r List.mem_cons_self).1, Or.inl rfl⟩
          · exact ih _ _ (fun y hy => h y (List.mem_cons_of_mem _ hy)) z q
        · exact h
theorem mBfL_dk : ∀ (l : List mRow) (c : Nat) (d : mDk), dkOk d → dkOk (mBfL l c d).2.2.1 := by
  intro l
  induction l with
  | nil => intro c d h; exact h
  | cons r l ih =>
    intro c d h
    rw [mBfL_cons]
    split
    · exact h
    · split
      · exact ih _ _ h
      · split
        · exact ih _ _ (mActs_ok _ h)
        · exact mActs_ok _ h
theorem mBfE_ok {z : Bool × Nat × mDk × List mRow} (h : dkOk z.2.2.1) : dkOk (mBfE z).2 := by
  unfold mBfE
  split
  · split
    · exact h
    · split
      · exact mAct_ok h
      · exact mAct_ok h
  · exact h
theorem mBackfill_ok {m : mS} (k : mOk m) : mOk (mBackfill m).2 := by
  have ks := mStart_ok k.dk
  obtain ⟨t1, t2, t3⟩ := k.tb
  unfold mBackfill
  split
  · refine (k.disk (mBfE_ok (mBfL_dk _ 0 _ ks))).table (by rw [mBfL_len]; exact t1) ?_ ?_
    · exact mBfL_rw _ _ _ t2
    · unfold Srt; rw [mBfL_keys]; exact t3
  · exact k.disk ks
theorem set_mid {α : Type} {pre l : List α} {r x : α} : (pre ++ r :: l).set pre.length x = (pre ++ [x]) ++ l := by
  rw [List.set_append_right _ _ (Nat.le_refl _), Nat.sub_self, List.append_assoc]
  rfl
theorem get_mid {α : Type} {pre l : List α} {r : α} : (pre ++ r :: l)[pre.length]? = some r := by
  rw [List.getElem?_append_right (Nat.le_refl _), Nat.sub_self]
  rfl
theorem mid_snoc {α : Type} {pre l : List α} {r : α} : pre ++ r :: l = (pre ++ [r]) ++ l := by
  rw [List.append_assoc]
  rfl
theorem backfill_loop {sc nx : List mCol} {run : Bool} {K : gS → Int32 → Int32 → Option (Int32 × gS)} : ∀ (l : List mRow) (pre : List mRow) (fu c : Nat) (S : gS) (d : mDk), l.length < fu → (pre ++ l).length ≤ 40 → c ≤ 4 → Imm S → DiskC S d → TableC S (pre ++ l) sc nx run → ∃ S1 ix, l_X8_backfill_24 0 fu S (nI c) (nI pre.length) K = (if (mBfL l c d).1 = true then K S1 (nI (mBfL l c d).2.1) ix else some (-9, S1)) ∧ (mBfL l c d).2.1 ≤ 4 ∧ Imm S1 ∧ Fr 1 204 S S1 ∧ DiskC S1 (mBfL l c d).2.2.1 ∧ TableC S1 (pre ++ (mBfL l c d).2.2.2) sc nx run := by
  intro l
  induction l with
  | nil =>
    intro pre fu c S d hf hl hc hI hD hT
    obtain ⟨fu, rfl⟩ : ∃ m, fu = m + 1 := ⟨fu - 1, by omega⟩
    obtain ⟨t1, t2, t3, t4⟩ := hI.tab
    rw [l_X8_backfill_24]
    simp only [g_getI, g_getL, g_getR, g_putI, g_putZ, g_putL, g_putR, g_ldI, g_ldL, g_ldR, g_stI, g_stZ, g_stL, g_stR, g_alen, g_ldX, g_cVI, g_cVL, g_cVR, g_cVV, g_cI, g_cL, g_cN, g_lt, g_jn, g_cpI, g_cpL, g_z, Nat.reduceMul, Nat.reduceAdd, Option.bind_some, or_true, true_or, if_true, g_ck_t (hI.is (show 0 < 265 by decide) (show K0 0 = 8 by decide)), hI.r (513, 0, 2) (by decide), g_ck_t t1, hT.1]
    rw [if_pos (nI_le (by simp) (by rw [List.append_nil] at hl; omega))]
    exact ⟨S, _, rfl, hc, hI, Fr.refl, hD, hT⟩
  | cons r l ih =>
    intro pre fu c S d hf hl hc hI hD hT
    obtain ⟨fu, rfl⟩ : ∃ m, fu = m + 1 := ⟨fu - 1, by omega⟩
    obtain ⟨t1, t2, t3, t4⟩ := hI.tab
    have hll : pre.length < (pre ++ r :: l).length := by simp
    obtain ⟨p, p1, p2, p3, p4, p5⟩ := hT.put hI hl get_mid
    have c0 : g_is S 8 0 := hI.is (by decide) (by decide)
    have c1 : g_is S 0 1 := hI.is (by decide) (by decide)
    rw [l_X8_backfill_24]
    simp only [g_getI, g_getL, g_getR, g_putI, g_putZ, g_putL, g_putR, g_ldI, g_ldL, g_ldR, g_stI, g_stZ, g_stL, g_stR, g_alen, g_ldX, g_cVI, g_cVL, g_cVR, g_cVV, g_cI, g_cL, g_cN, g_lt, g_jn, g_cpI, g_cpL, g_z, Nat.reduceMul, Nat.reduceAdd, Option.bind_some, or_true, true_or, if_true, g_ck_t c0, hI.r (513, 0, 2) (by decide), hI.r (512, 0, 1) (by decide), g_ck_t t1, hT.1, t2, g_ck_t t3, t4]
    rw [if_neg (nI_ge hll (by omega)), show (4 : Int32) = nI 4 from rfl, mBfL_cons]
    by_cases c4 : 4 ≤ c
    · rw [if_pos (nI_le c4 (by omega)), if_pos c4]
      exact ⟨S, _, rfl, hc, hI, Fr.refl, hD, hT⟩
    · rw [if_neg (nI_ge (by omega) (by omega)), if_neg c4, g_ix_t (by omega) (by decide), nI_clamp (by omega), p2, Option.bind_some, g_ck_t (hI.row p1), p4.2.1]
      have hf2 : l.length < fu := by rw [List.length_cons] at hf; omega
      have hx : ∀ x : mRow, ((pre ++ [x]) ++ l).length ≤ 40 := fun x => by simp at hl ⊢; omega
      by_cases c5 : r.2.1 = 0
      · rw [if_pos c5, if_pos c5, add1]
        obtain ⟨S1, ix, b1, b2, b3, b4, b5, b6⟩ := ih (pre ++ [r]) fu c S d hf2 (hx r) hc hI hD (by rw [← mid_snoc]; exact hT)
        refine ⟨S1, ix, ?_, b2, b3, b4, b5, by rw [mid_snoc]; exact b6⟩
        rw [List.length_append, List.length_singleton] at b1
        exact b1
      · rw [if_neg c5, if_neg c5, g_ck_t (hI.row p1)]
        have dp : f_X4_diskPlaces S (4 + 5 * p) = some (nI (mPlaces r), S) := by
          unfold f_X4_diskPlaces mPlaces
          simp only [g_getI, g_getL, g_getR, g_putI, g_putZ, g_putL, g_putR, g_ldI, g_ldL, g_ldR, g_stI, g_stZ, g_stL, g_stR, g_alen, g_ldX, g_cVI, g_cVL, g_cVR, g_cVV, g_cI, g_cL, g_cN, g_lt, g_jn, g_cpI, g_cpL, g_z, Nat.reduceMul, Nat.reduceAdd, Option.bind_some, or_true, true_or, if_true, g_ck_t (hI.row p1), p4.2.1]
          split <;> rfl
        rw [dp, Option.bind_some]
        dsimp only
        have hpl := mPlaces_le r
        obtain ⟨S2, b1, b2, b3, b4⟩ := actTimes_C (n := mPlaces r) (by omega) hI hD
        rw [g_ck_t c1, b1, Option.bind_some]
        dsimp only
        have hT2 : TableC S2 (pre ++ r :: l) sc nx run := hT.fr hl fun a a1 a2 => b3 a (by omega)
        by_cases c6 : (mActs (mPlaces r) d).1 = mPlaces r
        · rw [if_pos c6, decide_eq_true c6, show b32 true = 1 from rfl, if_neg (show ¬ (1 : Int32) = 0 by decide), g_ck_t (b2.row p1), add1, add1]
          have e3 : Fr (4 + 5 * p) (9 + 5 * p) S2 (g_pI S2 257 (4 + 5 * p) 0) := Fr.pI (by omega) (by omega)
          have hI3 : Imm (g_pI S2 257 (4 + 5 * p) 0) := b2.of rfl rfl rfl rfl rfl
          obtain ⟨p', q1, q2, q3, q4, q5⟩ := hT2.put b2 hl get_mid
          have hpp : p' = p := by
            rw [(b3 3 (by omega)).2.2.2.2.2, p2] at q2
            injection q2 with q2
            omega
          subst hpp
          have hT3 : TableC (g_pI S2 257 (4 + 5 * p') 0) ((pre ++ [gBf r]) ++ l) sc nx run := by
            rw [← set_mid (r := r)]
            refine q5 _ (gBf r) e3 q3 ?_
            obtain ⟨u1, u2, u3, u4⟩ := q4
            refine ⟨?_, ?_, ?_, u4⟩
            · simp only [q_pI_fI, q_pI_fL, q_pI_fR, q_pI_aI, q_pI_aL, q_pI_aR, q_pI_K, q_pI_ln, q_pI_n, q_pI_sl, q_pI_is, q_pI_ck, q_pL_fI, q_pL_fL, q_pL_fR, q_pL_aI, q_pL_aL, q_pL_aR, q_pL_K, q_pL_ln, q_pL_n, q_pL_sl, q_pL_is, q_pL_ck, q_pR_fI, q_pR_fL, q_pR_fR, q_pR_aI, q_pR_aL, q_pR_aR, q_pR_K, q_pR_ln, q_pR_n, q_pR_sl, q_pR_is, q_pR_ck, q_rI_fI, q_rI_fL, q_rI_fR, q_rI_aI, q_rI_aL, q_rI_aR, q_rI_K, q_rI_ln, q_rI_n, q_rI_sl, q_rI_is, q_rI_ck, q_rL_fI, q_rL_fL, q_rL_fR, q_rL_aI, q_rL_aL, q_rL_aR, q_rL_K, q_rL_ln, q_rL_n, q_rL_sl, q_rL_is, q_rL_ck, q_rR_fI, q_rR_fL, q_rR_fR, q_rR_aI, q_rR_aL, q_rR_aR, q_rR_K, q_rR_ln, q_rR_n, q_rR_sl, q_rR_is, q_rR_ck]; rw [g_up_f (by decide)]; exact u1
            · simp only [q_pI_fI, q_pI_fL, q_pI_fR, q_pI_aI, q_pI_aL, q_pI_aR, q_pI_K, q_pI_ln, q_pI_n, q_pI_sl, q_pI_is, q_pI_ck, q_pL_fI, q_pL_fL, q_pL_fR, q_pL_aI, q_pL_aL, q_pL_aR, q_pL_K, q_pL_ln, q_pL_n, q_pL_sl, q_pL_is, q_pL_ck, q_pR_fI, q_pR_fL, q_pR_fR, q_pR_aI, q_pR_aL, q_pR_aR, q_pR_K, q_pR_ln, q_pR_n, q_pR_sl, q_pR_is, q_pR_ck, q_rI_fI, q_rI_fL, q_rI_fR, q_rI_aI, q_rI_aL, q_rI_aR, q_rI_K, q_rI_ln, q_rI_n, q_rI_sl, q_rI_is, q_rI_ck, q_rL_fI, q_rL_fL, q_rL_fR, q_rL_aI, q_rL_aL, q_rL_aR, q_rL_K, q_rL_ln, q_rL_n, q_rL_sl, q_rL_is, q_rL_ck, q_rR_fI, q_rR_fL, q_rR_fR, q_rR_aI, q_rR_aL, q_rR_aR, q_rR_K, q_rR_ln, q_rR_n, q_rR_sl, q_rR_is, q_rR_ck]; rw [g_up_s]; rfl
            · simp only [q_pI_fI, q_pI_fL, q_pI_fR, q_pI_aI, q_pI_aL, q_pI_aR, q_pI_K, q_pI_ln, q_pI_n, q_pI_sl, q_pI_is, q_pI_ck, q_pL_fI, q_pL_fL, q_pL_fR, q_pL_aI, q_pL_aL, q_pL_aR, q_pL_K, q_pL_ln, q_pL_n, q_pL_sl, q_pL_is, q_pL_ck, q_pR_fI, q_pR_fL, q_pR_fR, q_pR_aI, q_pR_aL, q_pR_aR, q_pR_K, q_pR_ln, q_pR_n, q_pR_sl, q_pR_is, q_pR_ck, q_rI_fI, q_rI_fL, q_rI_fR, q_rI_aI, q_rI_aL, q_rI_aR, q_rI_K, q_rI_ln, q_rI_n, q_rI_sl, q_rI_is, q_rI_ck, q_rL_fI, q_rL_fL, q_rL_fR, q_rL_aI, q_rL_aL, q_rL_aR, q_rL_K, q_rL_ln, q_rL_n, q_rL_sl, q_rL_is, q_rL_ck, q_rR_fI, q_rR_fL, q_rR_fR, q_rR_aI, q_rR_aL, q_rR_aR, q_rR_K, q_rR_ln, q_rR_n, q_rR_sl, q_rR_is, q_rR_ck]; rw [g_up_f (by decide)]; exact u3
          obtain ⟨S4, ix, d1, d2, d3, d4, d5, d6⟩ := ih (pre ++ [gBf r]) fu (c + 1) (g_pI S2 257 (4 + 5 * p') 0) (mActs (mPlaces r) d).2 hf2 (hx _) (by omega) hI3 (b4.fr (e3 1 (by omega))) hT3
          refine ⟨S4, ix, ?_, d2, d3, ((b3.mono (by omega) (by omega)).trans (e3.mono (by omega) (by omega))).trans d4, d5, by rw [mid_snoc]; exact d6⟩
          rw [List.length_append, List.length_singleton] at d1
          exact d1
        · rw [if_neg c6, decide_eq_false c6, show b32 false = 0 from rfl, if_pos rfl]
          exact ⟨S2, nI 0, rfl, by omega, b2, b3.mono (by omega) (by omega), b4, hT2⟩
theorem RC.both {S S1 : gS} {m : mS} {tb : List mRow} {d : mDk} (h : RC S m) (k : mOk m) (hI : Imm S1) (e : Fr 1 204 S S1) (hd : DiskC S1 d) (ht : TableC S1 tb m.2.2.2.2.1 m.2.2.2.2.2.1 m.2.1.2) : RC S1 (wTb (wDk m d) tb) := by
  obtain ⟨dk, vr, pl, mg, sc, nx, dr, sn, tb0⟩ := m
  obtain ⟨-, sA, sB, pA, pB, h1, h2, h3, h4, h5, h6, h7, h8⟩ := h
  obtain ⟨k1, k2, k3, k4, k5, k6, k7, k8⟩ := k
  have hs := h1.2.2.2.2.2.2.1
  have hp := h1.2.2.2.2.2.2.2
  exact ⟨hI, sA, sB, pA, pB, h1.fr (e 0 (by omega)), hd, h3.fr k2.1 (fun a a1 a2 => e a (by omega)), h4.fr (fun a a1 a2 => e a (by omega)), h5.fr (e _ (by omega)) (e _ (by omega)), h6.fr ((e 0 (by omega)).1 _) (fun a a1 a2 => e a (by omega)), ht, fun hr => ⟨(h8 hr).1.fr (fun a a1 a2 => e a (by omega)), (h8 hr).2.fr (k4 hr).1.1 (fun a a1 a2 => e a (by omega))⟩⟩
theorem backfill_C {S : gS} {m : mS} (h : RC S m) (k : mOk m) : COp S 0 237 (f_X8_backfill S 0) (mBackfill m).1 (fun S1 => RC S1 (mBackfill m).2) := by
  obtain ⟨hI, hD⟩ := h.dk
  have c0 : g_is S 8 0 := hI.is (by decide) (by decide)
  have r0 : gfR S 512 0 = some 1 := hI.r (512, 0, 1) (by decide)
  obtain ⟨S1, a1, a2, a3, a4⟩ := startCall_C hI hD
  have h1 := h.disk k a2 a3 a4
  obtain ⟨u1, u2, u3⟩ := k.tb
  have c0' : g_is S1 8 0 := a2.is (by decide) (by decide)
  have c1' : g_is S1 0 1 := a2.is (by decide) (by decide)
  have r0' : gfR S1 512 0 = some 1 := a2.r (512, 0, 1) (by decide)
  unfold f_X8_backfill mBackfill
  simp only [g_getR, g_getI, g_cVV, Nat.reduceMul, Nat.reduceAdd, Option.bind_some, g_ck_t c0, r0, g_ck_t (hI.is (show 1 < 265 by decide) (show K0 1 = 0 by decide)), a1, g_ck_t c0', r0', g_ck_t c1', a4.1]
  show COp S 0 237 (if m.1.1 = 0 then _ else _) _ _
  by_cases e1 : m.1.1 = 0
  · simp only [if_pos e1]
    have tb1 : TableC S1 ([] ++ mTb m) m.2.2.2.2.1 m.2.2.2.2.2.1 m.2.1.2 := h1.tb.1
    obtain ⟨S2, ix, b1, b2, b3, b4, b5, b6⟩ := backfill_loop (K := fun S20 v21 v22 => if v21 ≤ 0 then some (v21, S20) else g_ck S20 8 0 ((gfR S20 512 0).bind fun a23 => g_cVI S20 0 a23 (f_X0_act S20 a23) fun x25 S24 => if x25 = 0 then some ((-9 : Int32), S24) else some (v21, S24))) (mTb m) [] 100 0 S1 (mStart m.1) (by omega) (by simpa using u1) (by omega) a2 a4 tb1
    refine COp.pre (S1 := S2) ((a3.mono (by omega) (by omega)).trans (b4.mono (by omega) (by omega))) ?_
    rw [show l_X8_backfill_24 0 100 S1 (0 : Int32) (0 : Int32) = l_X8_backfill_24 0 100 S1 (nI 0) (nI ([] : List mRow).length) from rfl, b1]
    have hF : Fr 1 204 S S2 := (a3.mono (by omega) (by omega)).trans b4
    unfold mBfE
    have hz : ([] ++ (mBfL (mTb m) 0 (mStart m.1)).2.2.2).length ≤ 40 := by rw [List.nil_append, mBfL_len]; exact u1
    generalize mBfL (mTb m) 0 (mStart m.1) = z at b2 b5 b6 hz ⊢
    by_cases c1 : z.1 = true
    · simp only [if_pos c1]
      by_cases c2 : z.2.1 = 0
      · simp only [if_pos c2]
        rw [c2, if_pos (by decide)]
        exact ⟨S2, rfl, b3, Fr.refl, h.both k b3 hF b5 b6⟩
      · simp only [if_neg c2]
        rw [if_neg (show ¬ nI z.2.1 ≤ (0 : Int32) from nI_nle (by omega) (by omega)), g_ck_t (b3.is (show 0 < 265 by decide) (show K0 0 = 8 by decide)), b3.r (512, 0, 1) (by decide), Option.bind_some]
        obtain ⟨S3, d1, d2, d3, d4⟩ := act_C b3 b5
        unfold g_cVI
        rw [g_ck_t (b3.is (show 1 < 265 by decide) (show K0 1 = 0 by decide)), d1, Option.bind_some]
        dsimp only
        have hT3 := b6.fr hz (S1 := S3) fun a a1 a2 => d3 a (by omega)
        by_cases c3 : (mAct z.2.2.1).1 = true
        · rw [c3, show b32 true = 1 from rfl, if_neg (show ¬ (1 : Int32) = 0 by decide)]
          exact ⟨S3, rfl, d2, d3.mono (by omega) (by omega), h.both k d2 (hF.trans (d3.mono (by omega) (by omega))) d4 hT3⟩
        · have c4 : (mAct z.2.2.1).1 = false := by simpa using c3
          rw [c4, show b32 false = 0 from rfl, if_pos rfl]
          exact ⟨S3, rfl, d2, d3.mono (by omega) (by omega), h.both k d2 (hF.trans (d3.mono (by omega) (by omega))) d4 hT3⟩
    · simp only [if_neg c1]
      exact ⟨S2, rfl, b3, Fr.refl, h.both k b3 hF b5 b6⟩
  · simp only [if_neg e1]
    exact ⟨S1, rfl, a2, a3.mono (by decide) (by decide), h1⟩
theorem in8 {F : List Nat} (h : 605 ∈ F ∧ 606 ∈ F ∧ 607 ∈ F ∧ 608 ∈ F) : ∀ f, 605 ≤ f → f < 609 → f ∈ F := by
  intro f a b
  have : f = 605 ∨ f = 606 ∨ f = 607 ∨ f = 608 := by omega
  rcases this with rfl | rfl | rfl | rfl
  · exact h.1
  · exact h.2.1
  · exact h.2.2.1
  · exact h.2.2.2
theorem in9 {F : List Nat} (h : 605 ∈ F ∧ 606 ∈ F ∧ 607 ∈ F ∧ 608 ∈ F ∧ 609 ∈ F) : ∀ f, 605 ≤ f → f < 610 → f ∈ F := by
  intro f a b
  have : f = 605 ∨ f = 606 ∨ f = 607 ∨ f = 608 ∨ f = 609 := by omega
  rcases this with rfl | rfl | rfl | rfl | rfl
  · exact h.1
  · exact h.2.1
  · exact h.2.2.1
  · exact h.2.2.2.1
  · exact h.2.2.2.2
theorem rbackfill_loop {sc nx : List mCol} {run : Bool} (hs : sc.length ≤ 8) (hn : run = true → nx.length ≤ 8) {K : gS → Int32 → Int32 → Option (Int32 × gS)} : ∀ (l : List mRow) (pre : List mRow) (fu c : Nat) (S : gS) (d : mDk), l.length < fu → (pre ++ l).length ≤ 40 → c ≤ 4 → Imm S → dkOk d → DiskR S d → gfI S 591 237 = (if run = true then 1 else 0) → (∀ r ∈ l, rwOk r run) → TableR S (pre ++ l) sc nx run → ∃ S1 ix, l_X9_backfill_19 237 fu S (nI c) (nI pre.length) K = (if (mBfL l c d).1 = true then K S1 (nI (mBfL l c d).2.1) ix else some (-9, S1)) ∧ (mBfL l c d).2.1 ≤ 4 ∧ RE [244, 245] [605, 606, 607, 608, 609] S S1 ∧ DiskR S1 (mBfL l c d).2.2.1 ∧ TableR S1 (pre ++ (mBfL l c d).2.2.2) sc nx run := by
  intro l
  induction l with
  | nil =>
    intro pre fu c S d hf hl hc hI hdk hD hr hk hT
    obtain ⟨fu, rfl⟩ : ∃ m, fu = m + 1 := ⟨fu - 1, by omega⟩
    have hR := hI.ref
    rw [l_X9_backfill_19]
    simp only [g_getI, g_getL, g_getR, g_putI, g_putZ, g_putL, g_putR, g_ldI, g_ldL, g_ldR, g_stI, g_stZ, g_stL, g_stR, g_alen, g_ldX, g_cVI, g_cVL, g_cVR, g_cVV, g_cI, g_cL, g_cN, g_lt, g_jn, g_cpI, g_cpL, g_z, Nat.reduceMul, Nat.reduceAdd, Option.bind_some, or_true, true_or, if_true, ck9 hR, hT.1]
    rw [if_pos (nI_le (by simp) (by rw [List.append_nil] at hl; omega))]
    exact ⟨S, _, rfl, hc, RE.refl, hD, hT⟩
  | cons r l ih =>
    intro pre fu c S d hf hl hc hI hdk hD hr hk hT
    obtain ⟨fu, rfl⟩ : ∃ m, fu = m + 1 := ⟨fu - 1, by omega⟩
    have hR := hI.ref
    have hll : pre.length < (pre ++ r :: l).length := by simp
    have hrow := hT.2.2.2 pre.length r get_mid
    have hkr := hk r List.mem_cons_self
    rw [l_X9_backfill_19]
    simp only [g_getI, g_getL, g_getR, g_putI, g_putZ, g_putL, g_putR, g_ldI, g_ldL, g_ldR, g_stI, g_stZ, g_stL, g_stR, g_alen, g_ldX, g_cVI, g_cVL, g_cVR, g_cVV, g_cI, g_cL, g_cN, g_lt, g_jn, g_cpI, g_cpL, g_z, Nat.reduceMul, Nat.reduceAdd, Option.bind_some, or_true, true_or, if_true, ck9 hR, hT.1, isLagging_R hI hr (show pre.length < 40 by omega) hrow hkr, hr, b01]
    rw [if_neg (nI_ge hll (by omega)), show (4 : Int32) = nI 4 from rfl, mBfL_cons]
    by_cases c4 : 4 ≤ c
    · rw [if_pos (nI_le c4 (by omega)), if_pos c4]
      exact ⟨S, _, rfl, hc, RE.refl, hD, hT⟩
    · rw [if_neg (nI_ge (by omega) (by omega)), if_neg c4]
      have hf2 : l.length < fu := by rw [List.length_cons] at hf; omega
      have hx : ∀ x : mRow, ((pre ++ [x]) ++ l).length ≤ 40 := fun x => by simp at hl ⊢; omega
      have hk2 : ∀ z ∈ l, rwOk z run := fun z hz => hk z (List.mem_cons_of_mem _ hz)
      by_cases c5 : r.2.1 = 0
      · rw [if_pos c5, if_pos c5, if_pos rfl, add1]
        obtain ⟨S1, ix, b1, b2, b3, b5, b6⟩ := ih (pre ++ [r]) fu c S d hf2 (hx r) hc hI hdk hD hr hk2 (by rw [← mid_snoc]; exact hT)
        refine ⟨S1, ix, ?_, b2, b3, b5, by rw [mid_snoc]; exact b6⟩
        rw [List.length_append, List.length_singleton] at b1
        exact b1
      · rw [if_neg c5, if_neg c5, if_neg (by decide)]
        have main : ∀ n : Nat, n = mPlaces r → ∃ S1 ix, ((f_X9_acts S 237 (nI n)).bind fun z => if nI n ≤ z.1 then g_ck z.2 9 237 ((gfR z.2 584 237).bind fun a15 => g_ck z.2 12 a15 (g_ix (gln z.2 a15) (nI pre.length) (g_ck (g_rI z.2 a15 (upd (gaI z.2 a15) (nI pre.length).toNatClampNeg 0)) 9 237 ((gfR (g_rI z.2 a15 (upd (gaI z.2 a15) (nI pre.length).toNatClampNeg 0)) 583 237).bind fun a17 => g_ck (g_rI z.2 a15 (upd (gaI z.2 a15) (nI pre.length).toNatClampNeg 0)) 10 a17 (g_ix (gln (g_rI z.2 a15 (upd (gaI z.2 a15) (nI pre.length).toNatClampNeg 0)) a17) (nI pre.length) (l_X9_backfill_19 237 fu (g_rI (g_rI z.2 a15 (upd (gaI z.2 a15) (nI pre.length).toNatClampNeg 0)) a17 (upd (gaI (g_rI z.2 a15 (upd (gaI z.2 a15) (nI pre.length).toNatClampNeg 0)) a17) (nI pre.length).toNatClampNeg 0)) (nI c + 1) (nI pre.length + 1) K)))))) else some (-9, z.2)) = (if (if (mActs (mPlaces r) d).1 = mPlaces r then ((mBfL l (c + 1) (mActs (mPlaces r) d).2).1, (mBfL l (c + 1) (mActs (mPlaces r) d).2).2.1, (mBfL l (c + 1) (mActs (mPlaces r) d).2).2.2.1, gBf r :: (mBfL l (c + 1) (mActs (mPlaces r) d).2).2.2.2) else (false, c, (mActs (mPlaces r) d).2, r :: l)).1 = true then K S1 (nI (if (mActs (mPlaces r) d).1 = mPlaces r then ((mBfL l (c + 1) (mActs (mPlaces r) d).2).1, (mBfL l (c + 1) (mActs (mPlaces r) d).2).2.1, (mBfL l (c + 1) (mActs (mPlaces r) d).2).2.2.1, gBf r :: (mBfL l (c + 1) (mActs (mPlaces r) d).2).2.2.2) else (false, c, (mActs (mPlaces r) d).2, r :: l)).2.1) ix else some (-9, S1)) ∧ (if (mActs (mPlaces r) d).1 = mPlaces r then ((mBfL l (c + 1) (mActs (mPlaces r) d).2).1, (mBfL l (c + 1) (mActs (mPlaces r) d).2).2.1, (mBfL l (c + 1) (mActs (mPlaces r) d).2).2.2.1, gBf r :: (mBfL l (c + 1) (mActs (mPlaces r) d).2).2.2.2) else (false, c, (mActs (mPlaces r) d).2, r :: l)).2.1 ≤ 4 ∧ RE [244, 245] [605, 606, 607, 608, 609] S S1 ∧ DiskR S1 (if (mActs (mPlaces r) d).1 = mPlaces r then ((mBfL l (c + 1) (mActs (mPlaces r) d).2).1, (mBfL l (c + 1) (mActs (mPlaces r) d).2).2.1, (mBfL l (c + 1) (mActs (mPlaces r) d).2).2.2.1, gBf r :: (mBfL l (c + 1) (mActs (mPlaces r) d).2).2.2.2) else (false, c, (mActs (mPlaces r) d).2, r :: l)).2.2.1 ∧ TableR S1 (pre ++ (if (mActs (mPlaces r) d).1 = mPlaces r then ((mBfL l (c + 1) (mActs (mPlaces r) d).2).1, (mBfL l (c + 1) (mActs (mPlaces r) d).2).2.1, (mBfL l (c + 1) (mActs (mPlaces r) d).2).2.2.1, gBf r :: (mBfL l (c + 1) (mActs (mPlaces r) d).2).2.2.2) else (false, c, (mActs (mPlaces r) d).2, r :: l)).2.2.2) sc nx run := by
          intro n hnn
          rw [← hnn]
          have hpl := mPlaces_le r
          obtain ⟨S2, b1, b3, b4⟩ := acts_R (n := n) (by omega) hI hdk hD
          have e2 : RE [244, 245] [605, 606, 607, 608, 609] S S2 := RE.rf b3 (in8 (by decide))
          have hI2 := b3.imm hI
          have hR2 := hI2.ref
          have e2' : RE [] [605, 606, 607, 608] S S2 := RE.rf b3 (in8 (by decide))
          have hT2 : TableR S2 (pre ++ r :: l) sc nx run := hT.e e2' (by decide) (by decide) hs hn (fun k _ => e2'.slot (by decide) (by decide) (by decide))
          rw [b1, Option.bind_some]
          dsimp only
          have hle := mActs_le n d
          by_cases c6 : (mActs n d).1 = n
          · simp only [if_pos c6]
            rw [if_pos (show nI n ≤ nI (mActs n d).1 by rw [c6]; exact nI_le (by omega) (by omega))]
            simp only [q_pI_fI, q_pI_fL, q_pI_fR, q_pI_aI, q_pI_aL, q_pI_aR, q_pI_K, q_pI_ln, q_pI_n, q_pI_sl, q_pI_is, q_pI_ck, q_pL_fI, q_pL_fL, q_pL_fR, q_pL_aI, q_pL_aL, q_pL_aR, q_pL_K, q_pL_ln, q_pL_n, q_pL_sl, q_pL_is, q_pL_ck, q_pR_fI, q_pR_fL, q_pR_fR, q_pR_aI, q_pR_aL, q_pR_aR, q_pR_K, q_pR_ln, q_pR_n, q_pR_sl, q_pR_is, q_pR_ck, q_rI_fI, q_rI_fL, q_rI_fR, q_rI_aI, q_rI_aL, q_rI_aR, q_rI_K, q_rI_ln, q_rI_n, q_rI_sl, q_rI_is, q_rI_ck, q_rL_fI, q_rL_fL, q_rL_fR, q_rL_aI, q_rL_aL, q_rL_aR, q_rL_K, q_rL_ln, q_rL_n, q_rL_sl, q_rL_is, q_rL_ck, q_rR_fI, q_rR_fL, q_rR_fR, q_rR_aI, q_rR_aL, q_rR_aR, q_rR_K, q_rR_ln, q_rR_n, q_rR_sl, q_rR_is, q_rR_ck, ck9 hR2, rf_lags hR2, rf_sorts hR2, Option.bind_some, g_ck_t (ri_lags hR2), g_ck_t (ri_sorts hR2), rl_lags hR2, rl_sorts hR2]
            simp (disch := omega) only [g_ix_t, nI_clamp, g_row, Nat.reduceEqDiff, reduceIte, add1]
            generalize hS3 : g_rI (g_rI S2 245 (upd (gaI S2 245) pre.length 0)) 244 (upd (gaI S2 244) pre.length 0) = S3
            have e3 : RE [244, 245] [] S2 S3 := by rw [← hS3]; exact (RE.rI (by decide)).trans (RE.rI (by decide))
            have g5 : ∀ j, gaI S3 245 j = if j = pre.length then 0 else gaI S2 245 j := by
              intro j
              rw [← hS3]
              simp only [q_pI_fI, q_pI_fL, q_pI_fR, q_pI_aI, q_pI_aL, q_pI_aR, q_pI_K, q_pI_ln, q_pI_n, q_pI_sl, q_pI_is, q_pI_ck, q_pL_fI, q_pL_fL, q_pL_fR, q_pL_aI, q_pL_aL, q_pL_aR, q_pL_K, q_pL_ln, q_pL_n, q_pL_sl, q_pL_is, q_pL_ck, q_pR_fI, q_pR_fL, q_pR_fR, q_pR_aI, q_pR_aL, q_pR_aR, q_pR_K, q_pR_ln, q_pR_n, q_pR_sl, q_pR_is, q_pR_ck, q_rI_fI, q_rI_fL, q_rI_fR, q_rI_aI, q_rI_aL, q_rI_aR, q_rI_K, q_rI_ln, q_rI_n, q_rI_sl, q_rI_is, q_rI_ck, q_rL_fI, q_rL_fL, q_rL_fR, q_rL_aI, q_rL_aL, q_rL_aR, q_rL_K, q_rL_ln, q_rL_n, q_rL_sl, q_rL_is, q_rL_ck, q_rR_fI, q_rR_fL, q_rR_fR, q_rR_aI, q_rR_aL, q_rR_aR, q_rR_K, q_rR_ln, q_rR_n, q_rR_sl, q_rR_is, q_rR_ck, g_row, Nat.reduceEqDiff, reduceIte]
              by_cases q : j = pre.length
              · rw [if_pos q, q, pk_us]
              · rw [if_neg q, pk_un q]
            have g4 : ∀ j, gaI S3 244 j = if j = pre.length then 0 else gaI S2 244 j := by
              intro j
              rw [← hS3]
              simp only [q_pI_fI, q_pI_fL, q_pI_fR, q_pI_aI, q_pI_aL, q_pI_aR, q_pI_K, q_pI_ln, q_pI_n, q_pI_sl, q_pI_is, q_pI_ck, q_pL_fI, q_pL_fL, q_pL_fR, q_pL_aI, q_pL_aL, q_pL_aR, q_pL_K, q_pL_ln, q_pL_n, q_pL_sl, q_pL_is, q_pL_ck, q_pR_fI, q_pR_fL, q_pR_fR, q_pR_aI, q_pR_aL, q_pR_aR, q_pR_K, q_pR_ln, q_pR_n, q_pR_sl, q_pR_is, q_pR_ck, q_rI_fI, q_rI_fL, q_rI_fR, q_rI_aI, q_rI_aL, q_rI_aR, q_rI_K, q_rI_ln, q_rI_n, q_rI_sl, q_rI_is, q_rI_ck, q_rL_fI, q_rL_fL, q_rL_fR, q_rL_aI, q_rL_aL, q_rL_aR, q_rL_K, q_rL_ln, q_rL_n, q_rL_sl, q_rL_is, q_rL_ck, q_rR_fI, q_rR_fL, q_rR_fR, q_rR_aI, q_rR_aL, q_rR_aR, q_rR_K, q_rR_ln, q_rR_n, q_rR_sl, q_rR_is, q_rR_ck, g_row, Nat.reduceEqDiff, reduceIte]
              by_cases q : j = pre.length
              · rw [if_pos q, q, pk_us]
              · rw [if_neg q, pk_un q]
            have hrow2 := hT2.2.2.2 pre.length r get_mid
            obtain ⟨v1, ⟨s, v2, v3, v4, v5, v6⟩, v7⟩ := hrow2
            have hB3 : BO S3 := by
              intro j
              rw [g5, e3.aI (show 246 ∉ [244, 245] by decide)]
              refine ⟨?_, (hT2.2.2.1.2 j).2⟩
              split
              · exact Or.inl rfl
              · exact (hT2.2.2.1.2 j).1
            have hT3 : TableR S3 ((pre ++ [gBf r]) ++ l) sc nx run := by
              rw [← set_mid (r := r)]
              refine hT2.put hs hn get_mid v3 e3 (by decide) (by decide) (fun x hx j hj => ?_) (fun k _ _ => e3.slot (by decide) (by decide) (by decide)) hB3 ?_
              · have : x = 244 ∨ x = 245 ∨ x = 246 := by simpa using hx
                rcases this with rfl | rfl | rfl
                · rw [g4, if_neg hj]
                · rw [g5, if_neg hj]
                · rw [e3.aI (by decide)]
              · refine ⟨?_, ⟨s, v2, ?_, ?_, ?_, ?_⟩, ?_⟩
                · rw [e3.aI (by decide)]; exact v1
                · rw [e3.aI (by decide)]; exact v3
                · rw [e3.aI (by decide)]; exact v4
                · exact v5.slots fun k _ _ => e3.slot (by decide) (by decide) (by decide)
                · exact fun hr => (v6 hr).slots fun k _ _ => e3.slot (by decide) (by decide) (by decide)
                · rw [g4, g5, if_pos rfl, if_pos rfl, e3.aI (show 246 ∉ [244, 245] by decide)]
                  by_cases q : run = true
                  · rw [if_pos q] at v7 ⊢
                    exact ⟨rfl, v7.2.1, rfl⟩
                  · rw [if_neg q]; rfl
            obtain ⟨S4, ix, d1, d2, d3, d5, d6⟩ := ih (pre ++ [gBf r]) fu (c + 1) S3 (mActs n d).2 hf2 (hx _) (by omega) (e3.imm hI2) (mActs_ok n hdk) (b4.e e3 (by decide)) (by rw [e3.fI (by decide), e2'.fI (by decide)]; exact hr) hk2 hT3
            refine ⟨S4, ix, ?_, d2, (e2.trans (e3.mono (by decide) (by decide))).trans d3, d5, by rw [mid_snoc]; exact d6⟩
            rw [List.length_append, List.length_singleton] at d1
            exact d1
          · simp only [if_neg c6]
            rw [if_neg (nI_ge (by omega) (by omega))]
            exact ⟨S2, nI 0, rfl, by omega, e2, b4, hT2⟩
        by_cases cr : run = true
        · rw [if_pos cr]
          refine main 1 ?_
          unfold mPlaces
          rw [if_neg]
          intro q
          rcases hkr.2 with z | z | z
          · rw [z] at q; exact absurd q (by decide)
          · rw [z] at q; exact absurd q (by decide)
          · rw [cr] at z; exact absurd z.1 (by decide)
        · have h44 : gaI S 244 (nI pre.length).toNatClampNeg = r.2.1 := by
            have := hrow.2.2
            rw [if_neg cr] at this
            rw [nI_clamp (by omega)]
            exact this
          rw [if_neg cr]
          simp only [rf_sorts hR, Option.bind_some, g_ck_t (ri_sorts hR), rl_sorts hR]
          rw [g_ix_t (by omega) (by decide), h44]
          by_cases c2 : r.2.1 = 2
          · rw [if_pos c2]
            exact main 2 (by unfold mPlaces; rw [if_pos c2])
          · rw [if_neg c2]
            exact main 1 (by unfold mPlaces; rw [if_neg c2])
theorem RR.both {S S1 : gS} {m : mS} {tb : List mRow} {d : mDk} (h : RR S m) (k : mOk m) (e : RE [244, 245] [605, 606, 607, 608, 609] S S1) (hd : DiskR S1 d) (ht : TableR S1 tb m.2.2.2.2.1 m.2.2.2.2.2.1 m.2.1.2) : RR S1 (wTb (wDk m d) tb) := by
  obtain ⟨dk, vr, pl, mg, sc, nx, dr, sn, tb0⟩ := m
  obtain ⟨hI, h2, h3, h4, h5, h6, h7, h8, h9, h10⟩ := h
  obtain ⟨k1, k2, k3, k4, k5, k6, k7, k8⟩ := k
  have ws : ∀ k, k < 648 → SlotEq S S1 k := fun k _ => e.slot (by decide) (by decide) (by decide)
  exact ⟨e.imm hI, hd, (e.fI (by decide)).trans h3, (e.fI (by decide)).trans h4, ⟨(e.fI (by decide)).trans h5.1, h5.2.e e (by decide)⟩, h6.e e (by decide), h7.e e (by decide), h8.e e (by decide) (by decide) k8 (fun k _ hk => ws k (by omega)), ht, fun hr => ⟨(h10 hr).1.e e (by decide), (e.fI (by decide)).trans (h10 hr).2.1, (h10 hr).2.2.e e (by decide)⟩⟩
theorem mOk.lens {m : mS} (k : mOk m) : m.2.2.2.2.1.length ≤ 8 ∧ (m.2.1.2 = true → m.2.2.2.2.2.1.length ≤ 8) := by
  obtain ⟨dk, vr, pl, mg, sc, nx, dr, sn, tb⟩ := m
  exact ⟨k.2.2.1.1, fun hr => (k.2.2.2.1 hr).2.1.1⟩
theorem backfill_R {S : gS} {m : mS} (h : RR S m) (k : mOk m) : COp S 237 265 (f_X9_backfill S 237) (mBackfill m).1 (fun S1 => RR S1 (mBackfill m).2) := by
  obtain ⟨hI, hD⟩ := h.dk
  have kd := k.dk
  have a3 : RF 605 610 S (g_pI S 606 237 0) := RF.pI (by decide) (by decide)
  have a4 : DiskR (g_pI S 606 237 0) (mStart m.1) := by
    obtain ⟨d1, d2, d3, d4, d5⟩ := hD
    simp [DiskR, q_pI_fI, q_pI_fL, q_pI_fR, q_pI_aI, q_pI_aL, q_pI_aR, q_pI_K, q_pI_ln, q_pI_n, q_pI_sl, q_pI_is, q_pI_ck, q_pL_fI, q_pL_fL, q_pL_fR, q_pL_aI, q_pL_aL, q_pL_aR, q_pL_K, q_pL_ln, q_pL_n, q_pL_sl, q_pL_is, q_pL_ck, q_pR_fI, q_pR_fL, q_pR_fR, q_pR_aI, q_pR_aL, q_pR_aR, q_pR_K, q_pR_ln, q_pR_n, q_pR_sl, q_pR_is, q_pR_ck, q_rI_fI, q_rI_fL, q_rI_fR, q_rI_aI, q_rI_aL, q_rI_aR, q_rI_K, q_rI_ln, q_rI_n, q_rI_sl, q_rI_is, q_rI_ck, q_rL_fI, q_rL_fL, q_rL_fR, q_rL_aI, q_rL_aL, q_rL_aR, q_rL_K, q_rL_ln, q_rL_n, q_rL_sl, q_rL_is, q_rL_ck, q_rR_fI, q_rR_fL, q_rR_fR, q_rR_aI, q_rR_aL, q_rR_aR, q_rR_K, q_rR_ln, q_rR_n, q_rR_sl, q_rR_is, q_rR_ck, g_up, d1, d2, d3, d4, mStart]
  have h1 := h.disk a3 a4
  have ks := mStart_ok kd
  obtain ⟨u1, u2, u3⟩ := k.tb
  obtain ⟨l1, l2⟩ := k.lens
  unfold f_X9_backfill mBackfill
  simp only [g_putI, g_getI, Nat.reduceMul, Nat.reduceAdd, ck9 hI.ref]
  generalize g_pI S 606 237 0 = S1 at a3 a4 h1 ⊢
  have hI1 := a3.imm hI
  have hR1 := hI1.ref
  have e1 : RE [244, 245] [605, 606, 607, 608, 609] S S1 := RE.rf a3 (in9 (by decide))
  simp only [ck9 hR1, a4.1]
  show COp S 237 265 (if m.1.1 = 0 then _ else _) _ _
  by_cases e0 : m.1.1 = 0
  · simp only [if_pos e0]
    have tb1 : TableR S1 ([] ++ mTb m) m.2.2.2.2.1 m.2.2.2.2.2.1 m.2.1.2 := h1.tb.1
    obtain ⟨S2, ix, b1, b2, b3, b5, b6⟩ := rbackfill_loop l1 l2 (K := fun S23 v24 v25 => if v24 ≤ 0 then some (v24, S23) else g_cVI S23 9 237 (f_X9_act S23 237) fun x27 S26 => if x27 = 0 then some ((-9 : Int32), S26) else some (v24, S26)) (mTb m) [] 100 0 S1 (mStart m.1) (by omega) (by simpa using u1) (by omega) hI1 ks a4 h1.tb.2 u2 tb1
    have hI2 := b3.imm hI1
    refine COp.pre (S1 := S2) (a3.fr.trans (b3.fr (by decide))) ?_
    rw [show l_X9_backfill_19 237 100 S1 (0 : Int32) (0 : Int32) = l_X9_backfill_19 237 100 S1 (nI 0) (nI ([] : List mRow).length) from rfl, b1]
    have hF := e1.trans b3
    have hdz := mBfL_dk (mTb m) 0 _ ks
    unfold mBfE
    generalize mBfL (mTb m) 0 (mStart m.1) = z at b2 b5 b6 hdz ⊢
    by_cases c1 : z.1 = true
    · simp only [if_pos c1]
      by_cases c2 : z.2.1 = 0
      · simp only [if_pos c2]
        rw [c2, if_pos (by decide)]
        exact ⟨S2, rfl, hI2, Fr.refl, h.both k hF b5 b6⟩
      · simp only [if_neg c2]
        rw [if_neg (show ¬ nI z.2.1 ≤ (0 : Int32) from nI_nle (by omega) (by omega))]
        obtain ⟨S3, d1, d3, d4⟩ := act_R hI2 hdz b5
        unfold g_cVI
        rw [ck9 hI2.ref, d1, Option.bind_some]
        dsimp only
        have e3 : RE [] [605, 606, 607, 608] S2 S3 := RE.rf d3 (in8 (by decide))
        have hT3 := b6.e e3 (by decide) (by decide) l1 l2 (fun k _ => e3.slot (by decide) (by decide) (by decide))
        have hF3 := hF.trans (e3.mono (by decide) (by decide))
        by_cases c3 : (mAct z.2.2.1).1 = true
        · rw [c3, show b32 true = 1 from rfl, if_neg (show ¬ (1 : Int32) = 0 by decide)]
          exact ⟨S3, rfl, d3.imm hI2, d3.fr, h.both k hF3 d4 hT3⟩
        · have c4 : (mAct z.2.2.1).1 = false := by simpa using c3
          rw [c4, show b32 false = 0 from rfl, if_pos rfl]
          exact ⟨S3, rfl, d3.imm hI2, d3.fr, h.both k hF3 d4 hT3⟩
    · simp only [if_neg c1]
      exact ⟨S2, rfl, hI2, Fr.refl, h.both k hF b5 b6⟩
  · simp only [if_neg e0]
    exact ⟨S1, rfl, hI1, a3.fr, h1⟩
