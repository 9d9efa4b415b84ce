/-! ===== write: the model ===== -/
def mIns (i : Nat) (r : mRow) (tb : List mRow) : List mRow := tb.take i ++ r :: tb.drop i
theorem mIns_len {i : Nat} {r : mRow} {tb : List mRow} : (mIns i r tb).length = tb.length + 1 := by
  unfold mIns
  rw [List.length_append, List.length_cons, List.length_take, List.length_drop]
  omega
theorem mIns_lt {i j : Nat} {r : mRow} {tb : List mRow} (h : i ≤ tb.length) (hj : j < i) : (mIns i r tb)[j]? = tb[j]? := by
  unfold mIns
  rw [List.getElem?_append_left (by rw [List.length_take]; omega), List.getElem?_take, if_pos hj]
theorem mIns_at {i : Nat} {r : mRow} {tb : List mRow} (h : i ≤ tb.length) : (mIns i r tb)[i]? = some r := by
  unfold mIns
  rw [List.getElem?_append_right (by rw [List.length_take]; omega), List.length_take, show i - min i tb.length = 0 by omega]
  rfl
theorem mIns_gt {i j : Nat} {r : mRow} {tb : List mRow} (h : i ≤ tb.length) (hj : i < j) : (mIns i r tb)[j]? = tb[j - 1]? := by
  unfold mIns
  rw [List.getElem?_append_right (by rw [List.length_take]; omega), List.length_take, show j - min i tb.length = (j - i - 1) + 1 by omega, List.getElem?_cons_succ, List.getElem?_drop, show i + (j - i - 1) = j - 1 by omega]
theorem Srt.of {l : List mRow} (h : ∀ (i j : Nat) (r q : mRow), i < j → l[i]? = some r → l[j]? = some q → r.1 < q.1) : Srt l := by
  unfold Srt
  apply List.pairwise_iff_getElem.mpr
  intro i j hi hj hij
  have hi' : i < l.length := by simpa using hi
  have hj' : j < l.length := by simpa using hj
  have := h i j l[i] l[j] hij (List.getElem?_eq_getElem hi') (List.getElem?_eq_getElem hj')
  simpa using this
theorem lt_of_nlt {a b : Int32} (h : ¬ b < a) (n : a ≠ b) : a < b := by
  rw [Int32.lt_iff_toInt_lt] at h ⊢
  have : a.toInt ≠ b.toInt := fun e => n (Int32.toInt_inj.mp e)
  omega
theorem Srt.ins {tb : List mRow} {key : Int32} {r : mRow} (hs : Srt tb) (hn : ∀ (i : Nat) (r : mRow), tb[i]? = some r → r.1 ≠ key) (hr : r.1 = key) : Srt (mIns (cntLe key tb) r tb) := by
  have hc := cntLe_le key tb
  apply Srt.of
  intro i j x y hij hx hy
  rcases Nat.lt_trichotomy i (cntLe key tb) with a | a | a
  · rw [mIns_lt hc a] at hx
    have hx1 : x.1 < key := lt_of_nlt (cntLe_lo key tb i x a hx) (hn i x hx)
    rcases Nat.lt_trichotomy j (cntLe key tb) with b | b | b
    · rw [mIns_lt hc b] at hy
      exact srt_lt hs hij hx hy
    · rw [b, mIns_at hc] at hy
      cases hy
      rw [hr]
      exact hx1
    · rw [mIns_gt hc b] at hy
      exact srt_lt hs (by omega) hx hy
  · rw [a, mIns_at hc] at hx
    cases hx
    rw [mIns_gt hc (by omega)] at hy
    rw [hr]
    exact cntLe_hi key tb _ y hs (by omega) hy
  · rw [mIns_gt hc a] at hx
    rw [mIns_gt hc (by omega)] at hy
    exact srt_lt hs (by omega) hx hy
def mDf (dr : mDr) (i : Nat) (t : Int32) : mV := if t = 4 ∧ 0 < (dr i).2.length then (0, (dr i).2) else mTell t (dr i).1
def mDfs (dr : mDr) (ts : List Int32) : List mV := ts.mapIdx (fun i t => mDf dr i t)
theorem mDfs_len {dr : mDr} {ts : List Int32} : (mDfs dr ts).length = ts.length := by unfold mDfs; rw [List.length_mapIdx]
theorem mDfs_get {dr : mDr} {ts : List Int32} {i : Nat} {t : Int32} {x : mV} (ht : ts[i]? = some t) (hx : (mDfs dr ts)[i]? = some x) : x = mDf dr i t := by
  unfold mDfs at hx
  rw [List.getElem?_mapIdx, ht] at hx
  cases hx
  rfl
def mNew (key : Int32) (n : Nat) : mRow := (key, 0, 0, List.replicate n (0, []), [])
/-- a row written out of the draft -/
def gWr (dr : mDr) (mg : List mStep) (sc nx : List mCol) (run nxt : Bool) (r : mRow) : mRow := (r.1, if r.2.1 = 1 then 0 else r.2.1, 0, if nxt = true then (mDown mg sc (mDfs dr (tys nx)) r.2.2.2.1, mDfs dr (tys nx)) else (mDfs dr (tys sc), if run = true then mUp mg sc (mDfs dr (tys sc)) else r.2.2.2.2))
def mGw (m : mS) (nxt : Bool) (r : mRow) : mRow := gWr m.2.2.2.2.2.2.1 m.2.2.2.1 m.2.2.2.2.1 m.2.2.2.2.2.1 m.2.1.2 nxt r
def mPutT (m : mS) (key : Int32) (nxt : Bool) : List mRow := match mFnd (mTb m) key with
  | some i => (mTb m).set i (mGw m nxt ((mTb m).getD i (0, 0, 0, [], [])))
  | none => mIns (cntLe key (mTb m)) (mGw m nxt (mNew key m.2.2.2.2.1.length)) (mTb m)
def mWrite (m : mS) (key p2 : Int32) : Int32 × mS := if m.1.1 = 0 then (if ¬ p2 = 0 ∧ m.2.1.2 = false then (-2, wDk m (mStart m.1)) else if mFnd (mTb m) key = none ∧ (mTb m).length = 40 then (-4, wDk m (mStart m.1)) else if (mAct (mStart m.1)).1 = true then mTail (wTb (wDk m (mAct (mStart m.1)).2) (mPutT m key (decide (¬ p2 = 0)))) (if mFnd (mTb m) key = none then 0 else 1) else (-9, wDk m (mAct (mStart m.1)).2)) else (-8, wDk m (mStart m.1))
theorem gWr_key {dr : mDr} {mg : List mStep} {sc nx : List mCol} {run nxt : Bool} {r : mRow} : (gWr dr mg sc nx run nxt r).1 = r.1 := rfl
theorem gWr_ok {dr : mDr} {mg : List mStep} {sc nx : List mCol} {run nxt : Bool} {r : mRow} (h : rwOk r run) : rwOk (gWr dr mg sc nx run nxt r) run := by
  refine ⟨Or.inl rfl, ?_⟩
  show (if r.2.1 = 1 then (0 : Int32) else r.2.1) = 0 ∨ (if r.2.1 = 1 then (0 : Int32) else r.2.1) = 1 ∨ (run = false ∧ (if r.2.1 = 1 then (0 : Int32) else r.2.1) = 2)
  by_cases e : r.2.1 = 1
  · rw [if_pos e]; exact Or.inl rfl
  · rw [if_neg e]; exact h.2
theorem mPutT_ok {m : mS} {key : Int32} {nxt : Bool} (k : mOk m) (hf : ¬ (mFnd (mTb m) key = none ∧ (mTb m).length = 40)) : (mPutT m key nxt).length ≤ 40 ∧ (∀ r ∈ mPutT m key nxt, rwOk r m.2.1.2) ∧ Srt (mPutT m key nxt) := by
  obtain ⟨t1, t2, t3⟩ := k.tb
  unfold mPutT
  cases hq : mFnd (mTb m) key with
  | some i =>
    have hi := mFnd_lt hq
    have hr := getD_some (d := ((0, 0, 0, [], []) : mRow)) hi
    dsimp only
    refine ⟨by rw [List.length_set]; exact t1, fun r hr2 => ?_, ?_⟩
    · rcases List.mem_or_eq_of_mem_set hr2 with q | q
      · exact t2 r q
      · rw [q]; exact gWr_ok (t2 _ (List.mem_of_getElem? hr))
    · apply Srt.of
      intro a b x y hab hx hy
      have get : ∀ (j : Nat) (z : mRow), ((mTb m).set i (mGw m nxt ((mTb m).getD i (0, 0, 0, [], []))))[j]? = some z → ∃ z0 : mRow, (mTb m)[j]? = some z0 ∧ z.1 = z0.1 := by
        intro j z hz
        rw [List.getElem?_set] at hz
        by_cases q : i = j
        · subst q
          rw [if_pos rfl, if_pos hi] at hz
          cases hz
          exact ⟨_, hr, rfl⟩
        · rw [if_neg q] at hz
          exact ⟨z, hz, rfl⟩
      obtain ⟨x0, x1, x2⟩ := get a x hx
      obtain ⟨y0, y1, y2⟩ := get b y hy
      rw [x2, y2]
      exact srt_lt t3 hab x1 y1
  | none =>
    have hn := mFnd_is (mTb m) key
    rw [hq] at hn
    dsimp only
    refine ⟨?_, fun r hr => ?_, t3.ins hn rfl⟩
    · rw [mIns_len]
      have : ¬ (mTb m).length = 40 := fun z => hf ⟨hq, z⟩
      omega
    · unfold mIns at hr
      rcases List.mem_append.mp hr with q | q
      · exact t2 r (List.mem_of_mem_take q)
      · rcases List.mem_cons.mp q with q | q
        · rw [q]; exact gWr_ok ⟨Or.inl rfl, Or.inl rfl⟩
        · exact t2 r (List.mem_of_mem_drop q)
theorem mWrite_ok {m : mS} {key p2 : Int32} (k : mOk m) : mOk (mWrite m key p2).2 := by
  have ks := mStart_ok k.dk
  unfold mWrite
  split
  · split
    · exact k.disk ks
    · split
      · exact k.disk ks
      · rename_i hf
        split
        · obtain ⟨t1, t2, t3⟩ := mPutT_ok (nxt := decide (¬ p2 = 0)) k hf
          exact mTail_ok ((k.disk (mAct_ok ks)).table t1 t2 t3)
        · exact k.disk (mAct_ok ks)
  · exact k.disk ks
/-! ===== a new row, of the class ===== -/
theorem add_m1 (k : Nat) : nI (k + 1) + (-1 : Int32) = nI k := by
  rw [← add1, Int32.add_assoc]
  show nI k + 0 = nI k
  exact Int32.add_zero _
theorem insert_loop {i : Nat} {key : Int32} {u : Nat} {K : gS → Int32 → Option (Nat × gS)} : ∀ (d fu : Nat) (S : gS), i + d < 40 → d < fu → Imm S → RwA S → l_X7_insert_23 2 key (nI i) u fu S (nI (i + d)) K = K (g_rR S 3 (fun j => if i < j ∧ j ≤ i + d then gaR S 3 (j - 1) else gaR S 3 j)) (nI i) := by
  intro d
  induction d with
  | zero =>
    intro fu S hi hf hI hA
    obtain ⟨fu, rfl⟩ : ∃ m, fu = m + 1 := ⟨fu - 1, by omega⟩
    rw [l_X7_insert_23, if_pos (nI_le (by omega) (by omega)), show (fun j => if i < j ∧ j ≤ i + 0 then gaR S 3 (j - 1) else gaR S 3 j) = gaR S 3 from funext fun q => if_neg (by omega), g_rR_id, Nat.add_zero]
  | succ d ih =>
    intro fu S hi hf hI hA
    obtain ⟨fu, rfl⟩ : ∃ m, fu = m + 1 := ⟨fu - 1, by omega⟩
    obtain ⟨t1, t2, t3, t4⟩ := hI.tab
    obtain ⟨p, a1, a2⟩ := hA (i + d) (by omega)
    rw [l_X7_insert_23]
    simp only [g_getI, g_getL, g_getR, g_putI, g_putZ, g_putL, g_putR, g_ldI, g_ldL, g_ldR, g_stI, g_stZ, g_stL, g_stR, g_alen, g_ldX, g_cVI, g_cVL, g_cVR, g_cVV, g_cI, g_cL, g_cN, g_lt, g_jn, g_cpI, g_cpL, g_z, Nat.reduceMul, Nat.reduceAdd, Option.bind_some, or_true, true_or, if_true, g_ck_t t1, t2, g_ck_t t3, t4]
    rw [if_neg (nI_ge (by omega) (by omega)), show nI (i + (d + 1)) - (1 : Int32) = nI (i + d) from sub_nI (b := 1) (by omega), g_ix_t (by omega) (by decide), nI_clamp (by omega), a2, Option.bind_some, g_ck_t (hI.row a1), g_ix_t (by omega) (by decide), nI_clamp (by omega), show i + (d + 1) = i + d + 1 from rfl, add_m1]
    have hA2 : RwA (g_rR S 3 (va_up (gaR S 3) (i + d + 1) (some (4 + 5 * p)))) := by
      intro j hj
      rw [q_rR_aR, g_row_s]
      unfold va_up
      by_cases e : j = i + d + 1
      · rw [if_pos e]; exact ⟨p, a1, rfl⟩
      · rw [if_neg e]; exact hA j hj
    rw [ih fu (g_rR S 3 (va_up (gaR S 3) (i + d + 1) (some (4 + 5 * p)))) (by omega) (by omega) hI.rR hA2, g_rR_rR]
    congr 2
    funext j
    rw [q_rR_aR, g_row_s]
    unfold va_up
    by_cases e : j = i + d + 1
    · subst e
      rw [if_neg (by omega), if_pos rfl, if_pos (by omega)]
      exact a2.symm
    · by_cases e2 : i < j ∧ j ≤ i + d
      · rw [if_pos e2, if_neg (by omega), if_pos (by omega)]
      · rw [if_neg e2, if_neg e, if_neg (by omega)]
theorem clearAll_loop {f w : Nat} : ∀ (d fu k : Nat) (S : gS), k + d = 8 → d < fu → FormAt S f w → (∀ j, j < 4 * k → gaL S w j = 0) → ∃ w1, l_X2_clearAll_2 f fu S (nI k) = some (g_rL S w w1) ∧ ∀ j, j < 32 → w1 j = 0 := by
  intro d
  induction d with
  | zero =>
    intro fu k S hk hf hF h0
    obtain ⟨fu, rfl⟩ : ∃ m, fu = m + 1 := ⟨fu - 1, by omega⟩
    refine ⟨gaL S w, ?_, fun j hj => h0 j (by omega)⟩
    rw [l_X2_clearAll_2, show (8 : Int32) = nI 8 from rfl, if_pos (nI_le (by omega) (by omega)), g_rL_id]
  | succ d ih =>
    intro fu k S hk hf hF h0
    obtain ⟨fu, rfl⟩ : ∃ m, fu = m + 1 := ⟨fu - 1, by omega⟩
    obtain ⟨w1, a1, a2⟩ := ih fu (k + 1) (g_rL S w (W_set (gaL S w) k 0)) (by omega) (by omega) (show FormAt (g_rL S w (W_set (gaL S w) k 0)) f w from hF) (fun j hj => by
      rw [q_rL_aL, g_row_s]
      by_cases q : j < 4 * k
      · rw [W_set_only j (by omega)]; exact h0 j q
      · by_cases q2 : j = 4 * k
        · rw [q2, W_set_0]
        · rw [show j = 4 * k + (j - 4 * k) by omega]; exact W_set_k (by omega) (by omega))
    refine ⟨w1, ?_, a2⟩
    rw [l_X2_clearAll_2, show (8 : Int32) = nI 8 from rfl, if_neg (nI_ge (by omega) (by omega))]
    unfold g_cVV
    rw [g_ck_t hF.1, setNumber_eq hF (by omega), Option.bind_some, add1, a1, g_rL_rL]
def FrX (p b : Nat) (S S1 : gS) : Prop := ∀ a, (a < 4 + 5 * p ∨ 9 + 5 * p ≤ a) → a ≠ b → EqA S S1 a
def gIn (i n j : Nat) : Nat := if j < i then j else if j = i then n else if j ≤ n then j - 1 else j
theorem gIn_lt {i n j : Nat} (h : n < 40) (hj : j < 40) : gIn i n j < 40 := by
  unfold gIn
  repeat' split
  all_goals omega
theorem gIn_inj {i n a b : Nat} (hi : i ≤ n) : gIn i n a = gIn i n b → a = b := by
  unfold gIn
  repeat' split
  all_goals (intro h; omega)
theorem insert_C {S : gS} {tb : List mRow} {sc nx : List mCol} {run : Bool} {key : Int32} (h : TableC S tb sc nx run) (hI : Imm S) (hl : tb.length < 40) : ∃ S1 p, f_X7_insert S 2 key = some (4 + 5 * p, S1) ∧ Imm S1 ∧ Fr 2 204 S S1 ∧ p < 40 ∧ gfI S1 256 (4 + 5 * p) = key ∧ gfI S1 257 (4 + 5 * p) = 0 ∧ (∃ fp ff, RowSw S1 p fp ff ∧ ∀ j, j < 32 → gaL S1 (fp + 1) j = 0) ∧ ∀ b S2 r1, 204 ≤ b → FrX p b S1 S2 → OneR S2 p → RowC S2 p r1 sc nx run → TableC S2 (mIns (cntLe key tb) r1 tb) sc nx run := by
  have hab := placeAbove_C h hI (by omega) key 0
  obtain ⟨h1, q, h2, h3, h4⟩ := h
  obtain ⟨t1, t2, t3, t4⟩ := hI.tab
  have hc := cntLe_le key tb
  rw [show mAb tb key 0 = cntLe key tb from if_pos rfl] at hab
  generalize cntLe key tb = i at hab hc ⊢
  have hqn := h2.1 tb.length hl
  obtain ⟨fp, ff, sw⟩ := h3 _ hqn
  have il := insert_loop (i := i) (key := key) (u := 4 + 5 * q tb.length) (K := fun S11 v12 => (
g_getR S11 7 0 2 fun a13 =>
g_stR S11 13 4 a13 (nI i) (4 + 5 * q tb.length) fun S14 =>
g_getI S14 7 1 2 fun x15 =>
g_putI S14 7 1 2 (x15 + (1 : Int32)) fun S16 =>
g_cVV S16 4 (4 + 5 * q tb.length) (f_X4_startUnder S16 (4 + 5 * q tb.length) key) fun S17 =>
some (4 + 5 * q tb.length, S17))) (tb.length - i) 100 S (by omega) (by omega) hI h2.rw
  rw [show i + (tb.length - i) = tb.length by omega] at il
  unfold f_X7_insert
  simp only [g_cVI, g_getR, g_getI, g_ldR, Nat.reduceMul, Nat.reduceAdd, g_ck_t t1, t2, hab, Option.bind_some, h1, g_ck_t t3, t4]
  rw [g_ix_t (by omega) (by decide), nI_clamp (by omega), h2.2.2 _ hl, Option.bind_some]
  generalize hr : (fun j => if i < j ∧ j ≤ tb.length then gaR S 3 (j - 1) else gaR S 3 j) = r at il
  have hI1 : Imm (g_rR S 3 r) := hI.rR
  generalize hS2 : g_pI (g_rR (g_rR S 3 r) 3 (va_up r i (some (4 + 5 * q tb.length)))) 449 2 (nI (tb.length + 1)) = S2
  have hI2 : Imm S2 := by rw [← hS2]; exact Imm.of (Imm.rR hI1) rfl rfl rfl rfl rfl
  have e2 : Fr 2 4 S S2 := by rw [← hS2]; exact ((Fr.rR (by omega) (by omega)).trans (Fr.rR (by omega) (by omega))).trans (Fr.pI (by omega) (by omega))
  have n2 : gfI S2 449 2 = nI (tb.length + 1) := by rw [← hS2, q_pI_fI, g_up_s]
  have a2 : gaR S2 3 = va_up r i (some (4 + 5 * q tb.length)) := by rw [← hS2, q_pI_aR, q_rR_aR, g_row_s]
  have row2 := hI2.row hqn
  have sw2 : RowSw S2 (q tb.length) fp ff := sw.fr (e2 _ (by omega))
  generalize hp : 4 + 5 * q tb.length = pp at *
  have hI3 : Imm (g_pI (g_pI S2 256 pp key) 257 pp 0) := Imm.of hI2 rfl rfl rfl rfl rfl
  obtain ⟨w1, b1, b2⟩ := clearAll_loop (f := fp) (w := fp + 1) 8 100 0 (g_pI (g_pI S2 256 pp key) 257 pp 0) (by omega) (by omega) (hI3.fm hqn (by have := sw2.2.2; omega)) (fun j hj => by omega)
  subst hp
  have e3 : Fr (4 + 5 * q tb.length) (9 + 5 * q tb.length) S2 (g_rL (g_pI (g_pI S2 256 (4 + 5 * q tb.length) key) 257 (4 + 5 * q tb.length) 0) (fp + 1) w1) := ((Fr.pI (by omega) (by omega)).trans (Fr.pI (by omega) (by omega))).trans (Fr.rL (by have := sw2.2.2; omega) (by have := sw2.2.2; omega))
  refine ⟨g_rL (g_pI (g_pI S2 256 (4 + 5 * q tb.length) key) 257 (4 + 5 * q tb.length) 0) (fp + 1) w1, q tb.length, ?_, hI3.of rfl rfl rfl rfl rfl, (e2.mono (by omega) (by omega)).trans (e3.mono (by omega) (by omega)), hqn, ?_, ?_, ⟨fp, ff, sw2, fun j hj => ?_⟩, fun b S4 r1 hb e4 ho hrow => ?_⟩
  · refine il.trans ?_
    simp only [g_getR, g_stR, g_getI, g_putI, g_cVV, q_pI_fI, q_pI_fL, q_pI_fR, q_pI_aI, q_pI_aL, q_pI_aR, q_pI_K, q_pI_ln, q_pI_n, q_pI_sl, q_pI_is, q_pI_ck, q_pL_fI, q_pL_fL, q_pL_fR, q_pL_aI, q_pL_aL, q_pL_aR, q_pL_K, q_pL_ln, q_pL_n, q_pL_sl, q_pL_is, q_pL_ck, q_pR_fI, q_pR_fL, q_pR_fR, q_pR_aI, q_pR_aL, q_pR_aR, q_pR_K, q_pR_ln, q_pR_n, q_pR_sl, q_pR_is, q_pR_ck, q_rI_fI, q_rI_fL, q_rI_fR, q_rI_aI, q_rI_aL, q_rI_aR, q_rI_K, q_rI_ln, q_rI_n, q_rI_sl, q_rI_is, q_rI_ck, q_rL_fI, q_rL_fL, q_rL_fR, q_rL_aI, q_rL_aL, q_rL_aR, q_rL_K, q_rL_ln, q_rL_n, q_rL_sl, q_rL_is, q_rL_ck, q_rR_fI, q_rR_fL, q_rR_fR, q_rR_aI, q_rR_aL, q_rR_aR, q_rR_K, q_rR_ln, q_rR_n, q_rR_sl, q_rR_is, q_rR_ck, Nat.reduceMul, Nat.reduceAdd, g_ck_t t1, t2, g_ck_t t3, t4, Option.bind_some, g_ck_t (hI.row hqn), h1, add1, g_row_s]
    rw [g_ix_t (by omega) (by decide), nI_clamp (by omega), hS2]
    unfold f_X4_startUnder
    simp only [g_putI, g_getR, g_cVV, q_pI_fI, q_pI_fL, q_pI_fR, q_pI_aI, q_pI_aL, q_pI_aR, q_pI_K, q_pI_ln, q_pI_n, q_pI_sl, q_pI_is, q_pI_ck, q_pL_fI, q_pL_fL, q_pL_fR, q_pL_aI, q_pL_aL, q_pL_aR, q_pL_K, q_pL_ln, q_pL_n, q_pL_sl, q_pL_is, q_pL_ck, q_pR_fI, q_pR_fL, q_pR_fR, q_pR_aI, q_pR_aL, q_pR_aR, q_pR_K, q_pR_ln, q_pR_n, q_pR_sl, q_pR_is, q_pR_ck, q_rI_fI, q_rI_fL, q_rI_fR, q_rI_aI, q_rI_aL, q_rI_aR, q_rI_K, q_rI_ln, q_rI_n, q_rI_sl, q_rI_is, q_rI_ck, q_rL_fI, q_rL_fL, q_rL_fR, q_rL_aI, q_rL_aL, q_rL_aR, q_rL_K, q_rL_ln, q_rL_n, q_rL_sl, q_rL_is, q_rL_ck, q_rR_fI, q_rR_fL, q_rR_fR, q_rR_aI, q_rR_aL, q_rR_aR, q_rR_K, q_rR_ln, q_rR_n, q_rR_sl, q_rR_is, q_rR_ck, Nat.reduceMul, Nat.reduceAdd, g_ck_t row2, sw2.1, Option.bind_some]
    unfold f_X2_clearAll
    rw [g_ck_t (show g_is S2 2 fp from (hI2.fm hqn (by have := sw2.2.2; omega)).1), show (0 : Int32) = nI 0 from rfl]
    have b1' : l_X2_clearAll_2 fp 100 (g_pI (g_pI S2 256 (4 + 5 * q tb.length) key) 257 (4 + 5 * q tb.length) (nI 0)) (nI 0) = _ := b1
    rw [b1', Option.bind_some, Option.bind_some]
    rfl
  · simp only [q_pI_fI, q_pI_fL, q_pI_fR, q_pI_aI, q_pI_aL, q_pI_aR, q_pI_K, q_pI_ln, q_pI_n, q_pI_sl, q_pI_is, q_pI_ck, q_pL_fI, q_pL_fL, q_pL_fR, q_pL_aI, q_pL_aL, q_pL_aR, q_pL_K, q_pL_ln, q_pL_n, q_pL_sl, q_pL_is, q_pL_ck, q_pR_fI, q_pR_fL, q_pR_fR, q_pR_aI, q_pR_aL, q_pR_aR, q_pR_K, q_pR_ln, q_pR_n, q_pR_sl, q_pR_is, q_pR_ck, q_rI_fI, q_rI_fL, q_rI_fR, q_rI_aI, q_rI_aL, q_rI_aR, q_rI_K, q_rI_ln, q_rI_n, q_rI_sl, q_rI_is, q_rI_ck, q_rL_fI, q_rL_fL, q_rL_fR, q_rL_aI, q_rL_aL, q_rL_aR, q_rL_K, q_rL_ln, q_rL_n, q_rL_sl, q_rL_is, q_rL_ck, q_rR_fI, q_rR_fL, q_rR_fR, q_rR_aI, q_rR_aL, q_rR_aR, q_rR_K, q_rR_ln, q_rR_n, q_rR_sl, q_rR_is, q_rR_ck]; rw [g_up_f (by decide), g_up_s]
  · simp only [q_pI_fI, q_pI_fL, q_pI_fR, q_pI_aI, q_pI_aL, q_pI_aR, q_pI_K, q_pI_ln, q_pI_n, q_pI_sl, q_pI_is, q_pI_ck, q_pL_fI, q_pL_fL, q_pL_fR, q_pL_aI, q_pL_aL, q_pL_aR, q_pL_K, q_pL_ln, q_pL_n, q_pL_sl, q_pL_is, q_pL_ck, q_pR_fI, q_pR_fL, q_pR_fR, q_pR_aI, q_pR_aL, q_pR_aR, q_pR_K, q_pR_ln, q_pR_n, q_pR_sl, q_pR_is, q_pR_ck, q_rI_fI, q_rI_fL, q_rI_fR, q_rI_aI, q_rI_aL, q_rI_aR, q_rI_K, q_rI_ln, q_rI_n, q_rI_sl, q_rI_is, q_rI_ck, q_rL_fI, q_rL_fL, q_rL_fR, q_rL_aI, q_rL_aL, q_rL_aR, q_rL_K, q_rL_ln, q_rL_n, q_rL_sl, q_rL_is, q_rL_ck, q_rR_fI, q_rR_fL, q_rR_fR, q_rR_aI, q_rR_aL, q_rR_aR, q_rR_K, q_rR_ln, q_rR_n, q_rR_sl, q_rR_is, q_rR_ck]; rw [g_up_s]
  · rw [q_rL_aL, g_row_s]; exact b2 j hj
  · have far : ∀ a, a < 4 → EqA S2 S4 a := fun a ha => (e3 a (by omega)).trans (e4 a (by omega) (by omega))
    refine ⟨?_, fun j => q (gIn i tb.length j), ⟨fun j hj => h2.1 _ (gIn_lt hl hj), fun a b ha hb hab2 => gIn_inj hc (h2.2.1 _ _ (gIn_lt hl ha) (gIn_lt hl hb) hab2), fun j hj => ?_⟩, fun p hp => ?_, fun j z hj => ?_⟩
    · rw [(far 2 (by omega)).1, mIns_len]; exact n2
    · show gaR S4 3 j = some (4 + 5 * q (gIn i tb.length j))
      rw [(far 3 (by omega)).2.2.2.2.2, a2]
      unfold va_up gIn
      rw [← hr]
      by_cases c1 : j = i
      · subst c1
        rw [if_pos rfl, if_neg (by omega), if_pos rfl]
      · rw [if_neg c1]
        dsimp only
        by_cases c2 : j < i
        · rw [if_neg (by omega), if_pos c2]; exact h2.2.2 j hj
        · rw [if_neg c2, if_neg c1]
          by_cases c3 : j ≤ tb.length
          · rw [if_pos (by omega), if_pos c3]; exact h2.2.2 _ (by omega)
          · rw [if_neg (by omega), if_neg c3]; exact h2.2.2 _ hj
    · by_cases c : p = q tb.length
      · rw [c]; exact ho
      · exact OneR.fr (OneR.fr (h3 p hp) ((e2 _ (by omega)).trans (e3 _ (by omega)))) (e4 _ (by omega) (by omega))
    · have go : ∀ g, g < tb.length → tb[g]? = some z → gIn i tb.length j = g → RowC S4 (q (gIn i tb.length j)) z sc nx run := by
        intro g hg hz hgj
        rw [hgj]
        have hne : q g ≠ q tb.length := fun y => by
          have := h2.2.1 g tb.length (by omega) hl y
          omega
        have := h2.1 g (by omega)
        exact (h4 g z hz).fr fun a x1 x2 => ((e2 a (by omega)).trans (e3 a (by omega))).trans (e4 a (by omega) (by omega))
      have hjl := lt_of_some hj
      rw [mIns_len] at hjl
      rcases Nat.lt_trichotomy j i with c | c | c
      · rw [mIns_lt hc c] at hj
        exact go j (by omega) hj (by unfold gIn; rw [if_pos c])
      · subst c
        rw [mIns_at hc] at hj
        cases hj
        show RowC S4 (q (gIn j tb.length j)) _ sc nx run
        rw [show gIn j tb.length j = tb.length by unfold gIn; rw [if_neg (by omega), if_pos rfl]]
        exact hrow
      · rw [mIns_gt hc c] at hj
        exact go (j - 1) (by omega) hj (by unfold gIn; rw [if_neg (by omega), if_neg (by omega), if_pos (by omega)])
theorem TableC.putX {S : gS} {tb : List mRow} {sc nx : List mCol} {run : Bool} (h : TableC S tb sc nx run) (hI : Imm S) (hl : tb.length ≤ 40) {i : Nat} {r : mRow} (hi : tb[i]? = some r) : ∃ p, p < 40 ∧ gaR S 3 i = some (4 + 5 * p) ∧ RowC S p r sc nx run ∧ ∀ b S1 r1, 204 ≤ b → FrX p b S S1 → OneR S1 p → RowC S1 p r1 sc nx run → TableC S1 (tb.set i r1) sc nx run := by
  obtain ⟨h1, q, h2, h3, h4⟩ := h
  have hlt := lt_of_some hi
  have hq := h2.1 i (by omega)
  refine ⟨q i, hq, h2.2.2 i (by omega), h4 i r hi, fun b S1 r1 hb e ho hr => ?_⟩
  refine ⟨by rw [List.length_set, (e 2 (by omega) (by omega)).1]; exact h1, q, h2.fr (e 3 (by omega) (by omega)), fun p hp => ?_, fun j z hj => ?_⟩
  · by_cases c : p = q i
    · rw [c]; exact ho
    · exact OneR.fr (h3 p hp) (e _ (by omega) (by omega))
  · rw [List.getElem?_set] at hj
    by_cases c : i = j
    · subst c
      rw [if_pos rfl, if_pos hlt] at hj
      cases hj
      exact hr
    · rw [if_neg c] at hj
      have hj2 := lt_of_some hj
      have hne : q j ≠ q i := fun z => c (h2.2.1 j i (by omega) (by omega) z).symm
      have := h2.1 j (by omega)
      exact (h4 j z hj).fr fun a b1 b2 => e a (by omega) (by omega)
