/-! ===== count ===== -/
def cntLag : List mRow → Nat
  | [] => 0
  | r :: l => (if r.2.1 = 0 then 0 else 1) + cntLag l
def cntSh : List mRow → Nat
  | [] => 0
  | r :: l => (if r.2.1 = 2 then 1 else 0) + cntSh l
theorem cntLag_cons {r : mRow} {l : List mRow} : cntLag (r :: l) = (if r.2.1 = 0 then 0 else 1) + cntLag l := rfl
theorem cntSh_cons {r : mRow} {l : List mRow} : cntSh (r :: l) = (if r.2.1 = 2 then 1 else 0) + cntSh l := rfl
theorem cntSh_run : ∀ l : List mRow, (∀ r ∈ l, rwOk r true) → cntSh l = 0 := by
  intro l
  induction l with
  | nil => intro _; rfl
  | cons r l ih =>
    intro h
    have h1 := (h r (List.mem_cons_self)).2
    rw [cntSh_cons, ih (fun q hq => h q (List.mem_cons_of_mem _ hq)), if_neg]
    rcases h1 with q | q | q
    · rw [q]; decide
    · rw [q]; decide
    · exact absurd q.1 (by decide)
theorem cntSh_le : ∀ l : List mRow, cntSh l ≤ l.length := by
  intro l
  induction l with
  | nil => exact Nat.le_refl _
  | cons r l ih => rw [cntSh_cons, List.length_cons]; split <;> omega
theorem countLag_loop {S : gS} {tb : List mRow} {sc nx : List mCol} {run : Bool} (h : TableC S tb sc nx run) (hI : Imm S) (hl : tb.length ≤ 40) : ∀ (l : List mRow) (fu i c : Nat), tb.drop i = l → i ≤ tb.length → l.length < fu → l_X7_countLagging_4 2 fu S (nI c) (nI i) = some (nI (c + cntLag l), S) := by
  obtain ⟨t1, t2, t3, t4⟩ := hI.tab
  intro l
  induction l with
  | nil =>
    intro fu i c hd hi hf
    obtain ⟨fu, rfl⟩ : ∃ m, fu = m + 1 := ⟨fu - 1, by omega⟩
    have := drop_nil hd
    rw [l_X7_countLagging_4]
    simp only [g_getI, g_getL, g_getR, g_putI, g_putZ, g_putL, g_putR, g_ldI, g_ldL, g_ldR, g_stI, g_stZ, g_stL, g_stR, g_alen, g_ldX, g_cVI, g_cVL, g_cVR, g_cVV, g_cI, g_cL, g_cN, g_lt, g_jn, g_cpI, g_cpL, g_z, Nat.reduceMul, Nat.reduceAdd, Option.bind_some, or_true, true_or, if_true, g_ck_t t1, h.1]
    rw [if_pos (nI_le this (by omega))]
    rfl
  | cons r l ih =>
    intro fu i c hd hi hf
    obtain ⟨fu, rfl⟩ : ∃ m, fu = m + 1 := ⟨fu - 1, by omega⟩
    obtain ⟨d1, d2, d3⟩ := drop_cons hd
    obtain ⟨p, p1, p2, p3, p4⟩ := h.at hI hl d2
    have ih' := fun c => ih fu (i + 1) c d3 (by omega) (by simp at hf; omega)
    rw [l_X7_countLagging_4]
    simp only [g_getI, g_getL, g_getR, g_putI, g_putZ, g_putL, g_putR, g_ldI, g_ldL, g_ldR, g_stI, g_stZ, g_stL, g_stR, g_alen, g_ldX, g_cVI, g_cVL, g_cVR, g_cVV, g_cI, g_cL, g_cN, g_lt, g_jn, g_cpI, g_cpL, g_z, Nat.reduceMul, Nat.reduceAdd, Option.bind_some, or_true, true_or, if_true, g_ck_t t1, h.1, t2, g_ck_t t3, t4]
    rw [if_neg (nI_ge d1 (by omega)), g_ix_t (by omega) (by decide), nI_clamp (by omega), p2, Option.bind_some, g_ck_t p3, p4.2.1, add1, add1, ih', ih', cntLag_cons]
    by_cases e : r.2.1 = 0
    · rw [if_pos e, if_pos e, Nat.zero_add]
    · rw [if_neg e, if_neg e, Nat.add_assoc]
theorem countSh_loop {S : gS} {tb : List mRow} {sc nx : List mCol} {run : Bool} (h : TableC S tb sc nx run) (hI : Imm S) (hl : tb.length ≤ 40) : ∀ (l : List mRow) (fu i c : Nat), tb.drop i = l → i ≤ tb.length → l.length < fu → l_X7_countShadowed_4 2 fu S (nI c) (nI i) = some (nI (c + cntSh l), S) := by
  obtain ⟨t1, t2, t3, t4⟩ := hI.tab
  intro l
  induction l with
  | nil =>
    intro fu i c hd hi hf
    obtain ⟨fu, rfl⟩ : ∃ m, fu = m + 1 := ⟨fu - 1, by omega⟩
    have := drop_nil hd
    rw [l_X7_countShadowed_4]
    simp only [g_getI, g_getL, g_getR, g_putI, g_putZ, g_putL, g_putR, g_ldI, g_ldL, g_ldR, g_stI, g_stZ, g_stL, g_stR, g_alen, g_ldX, g_cVI, g_cVL, g_cVR, g_cVV, g_cI, g_cL, g_cN, g_lt, g_jn, g_cpI, g_cpL, g_z, Nat.reduceMul, Nat.reduceAdd, Option.bind_some, or_true, true_or, if_true, g_ck_t t1, h.1]
    rw [if_pos (nI_le this (by omega))]
    rfl
  | cons r l ih =>
    intro fu i c hd hi hf
    obtain ⟨fu, rfl⟩ : ∃ m, fu = m + 1 := ⟨fu - 1, by omega⟩
    obtain ⟨d1, d2, d3⟩ := drop_cons hd
    obtain ⟨p, p1, p2, p3, p4⟩ := h.at hI hl d2
    have ih' := fun c => ih fu (i + 1) c d3 (by omega) (by simp at hf; omega)
    rw [l_X7_countShadowed_4]
    simp only [g_getI, g_getL, g_getR, g_putI, g_putZ, g_putL, g_putR, g_ldI, g_ldL, g_ldR, g_stI, g_stZ, g_stL, g_stR, g_alen, g_ldX, g_cVI, g_cVL, g_cVR, g_cVV, g_cI, g_cL, g_cN, g_lt, g_jn, g_cpI, g_cpL, g_z, Nat.reduceMul, Nat.reduceAdd, Option.bind_some, or_true, true_or, if_true, g_ck_t t1, h.1, t2, g_ck_t t3, t4]
    rw [if_neg (nI_ge d1 (by omega)), g_ix_t (by omega) (by decide), nI_clamp (by omega), p2, Option.bind_some, g_ck_t p3, p4.2.1, add1, add1, ih', ih', cntSh_cons]
    by_cases e : r.2.1 = 2
    · rw [if_pos e, if_pos e, Nat.add_assoc]
    · rw [if_neg e, if_neg e, Nat.zero_add]
theorem countLag_C {S : gS} {tb : List mRow} {sc nx : List mCol} {run : Bool} (h : TableC S tb sc nx run) (hI : Imm S) (hl : tb.length ≤ 40) : f_X7_countLagging S 2 = some (nI (cntLag tb), S) := by
  have := countLag_loop h hI hl tb 100 0 0 rfl (by omega) (by omega)
  rw [Nat.zero_add] at this
  exact this
theorem countSh_C {S : gS} {tb : List mRow} {sc nx : List mCol} {run : Bool} (h : TableC S tb sc nx run) (hI : Imm S) (hl : tb.length ≤ 40) : f_X7_countShadowed S 2 = some (nI (cntSh tb), S) := by
  have := countSh_loop h hI hl tb 100 0 0 rfl (by omega) (by omega)
  rw [Nat.zero_add] at this
  exact this
theorem lag_cases {r : mRow} {run : Bool} (h : rwOk r run) : r.2.1 = 0 ∨ r.2.1 = 1 ∨ r.2.1 = 2 := by
  rcases h.2 with q | q | q
  · exact Or.inl q
  · exact Or.inr (Or.inl q)
  · exact Or.inr (Or.inr q.2)
theorem isLagging_R {S : gS} {i : Nat} {r : mRow} {sc nx : List mCol} {run : Bool} (hI : Imm S) (hr : gfI S 591 237 = (if run = true then 1 else 0)) (hi : i < 40) (h : RowR S i r sc nx run) (k : rwOk r run) : f_X9_isLagging S 237 (nI i) = some (if r.2.1 = 0 then 0 else 1, S) := by
  have hR := hI.ref
  obtain ⟨-, -, h3⟩ := h
  unfold f_X9_isLagging
  simp only [g_getI, g_getL, g_getR, g_putI, g_putZ, g_putL, g_putR, g_ldI, g_ldL, g_ldR, g_stI, g_stZ, g_stL, g_stR, g_alen, g_ldX, g_cVI, g_cVL, g_cVR, g_cVV, g_cI, g_cL, g_cN, g_lt, g_jn, g_cpI, g_cpL, g_z, Nat.reduceMul, Nat.reduceAdd, Option.bind_some, or_true, true_or, if_true, ck9 hR, rf_sorts hR, g_ck_t (ri_sorts hR), rl_sorts hR, rf_lags hR, g_ck_t (ri_lags hR), rl_lags hR, hr]
  simp (disch := omega) only [g_ix_t, nI_clamp]
  have lc := lag_cases k
  by_cases e : run = true
  · rw [if_pos e] at h3
    rw [if_neg (show ¬ (if run = true then (1 : Int32) else 0) = 0 by rw [if_pos e]; decide), h3.1]
    have : r.2.1 = 0 ∨ r.2.1 = 1 := by
      rcases k.2 with q | q | q
      · exact Or.inl q
      · exact Or.inr q
      · rw [e] at q; exact absurd q.1 (by decide)
    rcases this with q | q
    · rw [q]; rfl
    · rw [q]; rfl
  · rw [if_neg e] at h3
    rw [if_pos (show (if run = true then (1 : Int32) else 0) = 0 by rw [if_neg e]), h3]
    rcases lc with q | q | q
    · rw [q]; rfl
    · rw [q]; rfl
    · rw [q]; rfl
theorem lagging_loop {S : gS} {tb : List mRow} {sc nx : List mCol} {run : Bool} (h : TableR S tb sc nx run) (hI : Imm S) (hr : gfI S 591 237 = (if run = true then 1 else 0)) (hl : tb.length ≤ 40) (hk : ∀ r ∈ tb, rwOk r run) : ∀ (l : List mRow) (fu i c : Nat), tb.drop i = l → i ≤ tb.length → l.length < fu → l_X9_lagging_4 237 fu S (nI c) (nI i) = some (nI (c + cntLag l), S) := by
  have hR := hI.ref
  intro l
  induction l with
  | nil =>
    intro fu i c hd hi hf
    obtain ⟨fu, rfl⟩ : ∃ m, fu = m + 1 := ⟨fu - 1, by omega⟩
    have := drop_nil hd
    rw [l_X9_lagging_4]
    simp only [g_getI, g_getL, g_getR, g_putI, g_putZ, g_putL, g_putR, g_ldI, g_ldL, g_ldR, g_stI, g_stZ, g_stL, g_stR, g_alen, g_ldX, g_cVI, g_cVL, g_cVR, g_cVV, g_cI, g_cL, g_cN, g_lt, g_jn, g_cpI, g_cpL, g_z, Nat.reduceMul, Nat.reduceAdd, Option.bind_some, or_true, true_or, if_true, ck9 hR, h.1]
    rw [if_pos (nI_le this (by omega))]
    rfl
  | cons r l ih =>
    intro fu i c hd hi hf
    obtain ⟨fu, rfl⟩ : ∃ m, fu = m + 1 := ⟨fu - 1, by omega⟩
    obtain ⟨d1, d2, d3⟩ := drop_cons hd
    have ih' := fun c => ih fu (i + 1) c d3 (by omega) (by simp at hf; omega)
    rw [l_X9_lagging_4]
    simp only [g_getI, g_getL, g_getR, g_putI, g_putZ, g_putL, g_putR, g_ldI, g_ldL, g_ldR, g_stI, g_stZ, g_stL, g_stR, g_alen, g_ldX, g_cVI, g_cVL, g_cVR, g_cVV, g_cI, g_cL, g_cN, g_lt, g_jn, g_cpI, g_cpL, g_z, Nat.reduceMul, Nat.reduceAdd, Option.bind_some, or_true, true_or, if_true, ck9 hR, h.1, isLagging_R hI hr (show i < 40 by omega) (h.2.2.2 i r d2) (hk r (List.mem_of_getElem? d2))]
    rw [if_neg (nI_ge d1 (by omega)), add1, show (1 : Int32) = nI 1 from rfl, nI_add, ih', show nI c + (0 : Int32) = nI (c + 0) from nI_add c 0, ih', cntLag_cons]
    by_cases e : r.2.1 = 0
    · rw [if_pos e, if_pos e, if_pos rfl, Nat.zero_add, Nat.add_zero]
    · rw [if_neg e, if_neg e, if_neg (by decide), Nat.add_assoc]
theorem shadowed_loop {S : gS} {tb : List mRow} {sc nx : List mCol} (h : TableR S tb sc nx false) (hI : Imm S) (hl : tb.length ≤ 40) : ∀ (l : List mRow) (fu i c : Nat), tb.drop i = l → i ≤ tb.length → l.length < fu → l_X9_shadowed_4 237 fu S (nI c) (nI i) = some (nI (c + cntSh l), S) := by
  have hR := hI.ref
  intro l
  induction l with
  | nil =>
    intro fu i c hd hi hf
    obtain ⟨fu, rfl⟩ : ∃ m, fu = m + 1 := ⟨fu - 1, by omega⟩
    have := drop_nil hd
    rw [l_X9_shadowed_4]
    simp only [g_getI, g_getL, g_getR, g_putI, g_putZ, g_putL, g_putR, g_ldI, g_ldL, g_ldR, g_stI, g_stZ, g_stL, g_stR, g_alen, g_ldX, g_cVI, g_cVL, g_cVR, g_cVV, g_cI, g_cL, g_cN, g_lt, g_jn, g_cpI, g_cpL, g_z, Nat.reduceMul, Nat.reduceAdd, Option.bind_some, or_true, true_or, if_true, ck9 hR, h.1]
    rw [if_pos (nI_le this (by omega))]
    rfl
  | cons r l ih =>
    intro fu i c hd hi hf
    obtain ⟨fu, rfl⟩ : ∃ m, fu = m + 1 := ⟨fu - 1, by omega⟩
    obtain ⟨d1, d2, d3⟩ := drop_cons hd
    have ih' := fun c => ih fu (i + 1) c d3 (by omega) (by simp at hf; omega)
    have hs : gaI S 244 i = r.2.1 := by
      have := (h.2.2.2 i r d2).2.2
      rw [if_neg (by decide)] at this
      exact this
    rw [l_X9_shadowed_4]
    simp only [g_getI, g_getL, g_getR, g_putI, g_putZ, g_putL, g_putR, g_ldI, g_ldL, g_ldR, g_stI, g_stZ, g_stL, g_stR, g_alen, g_ldX, g_cVI, g_cVL, g_cVR, g_cVV, g_cI, g_cL, g_cN, g_lt, g_jn, g_cpI, g_cpL, g_z, Nat.reduceMul, Nat.reduceAdd, Option.bind_some, or_true, true_or, if_true, ck9 hR, h.1, rf_sorts hR, g_ck_t (ri_sorts hR), rl_sorts hR]
    rw [if_neg (nI_ge d1 (by omega)), g_ix_t (by omega) (by decide), nI_clamp (by omega), hs, add1, show (1 : Int32) = nI 1 from rfl, nI_add, ih', show nI c + (0 : Int32) = nI (c + 0) from nI_add c 0, ih', cntSh_cons]
    by_cases e : r.2.1 = 2
    · rw [if_pos e, if_pos e, Nat.add_assoc]
    · rw [if_neg e, if_neg e, Nat.zero_add, Nat.add_zero]
theorem shadowed_R {S : gS} {tb : List mRow} {sc nx : List mCol} (h : TableR S tb sc nx false) (hI : Imm S) (hl : tb.length ≤ 40) : f_X9_shadowed S 237 = some (nI (cntSh tb), S) := by
  have := shadowed_loop h hI hl tb 100 0 0 rfl (by omega) (by omega)
  rw [Nat.zero_add] at this
  exact this
def mCount (m : mS) (w : Int32) : Int32 := match m with
  | (dk, vr, pl, mg, sc, nx, dr, sn, tb) => if w < 0 ∨ 9 < w then -1 else if w = 7 then dk.2.2.2.1 else if w = 8 then nI pl.length else if w = 9 then dk.2.2.2.2 else if dk.1 = 0 then (if w = 0 then vr.1 else if w = 1 then (if vr.2 = true then 1 else 0) else if w = 2 then nI sc.length else if w = 3 then (if vr.2 = true then nI nx.length else 0) else if w = 4 then nI tb.length else if w = 5 then nI (cntLag tb) else nI (cntSh tb)) else -8
theorem b01 {b : Bool} {α : Type} {x y : α} : (if (if b = true then (1 : Int32) else 0) = 0 then x else y) = if b = true then y else x := by
  cases b <;> rfl
theorem count_C {S : gS} {m : mS} {w : Int32} (h : RC S m) (k : mOk m) : COp S 0 237 (f_X8_count S 0 w) (mCount m w) (fun S1 => RC S1 m) := by
  have h0 := h
  obtain ⟨dk, vr, pl, mg, sc, nx, dr, sn, tb⟩ := m
  obtain ⟨hI, sA, sB, pA, pB, h1, h2, h3, h4, h5, h6, h7, h8⟩ := h
  obtain ⟨k1, k2, k3, k4, k5, k6, k7, k8⟩ := k
  have hs := h1.2.2.2.2.2.2.1
  have hp := h1.2.2.2.2.2.2.2
  have c0 : g_is S 8 0 := hI.is (by decide) (by decide)
  have c1 : g_is S 0 1 := hI.is (by decide) (by decide)
  have c2 : g_is S 7 2 := hI.is (by decide) (by decide)
  have r0 : gfR S 512 0 = some 1 := hI.r (512, 0, 1) (by decide)
  have r1 : gfR S 513 0 = some 2 := hI.r (513, 0, 2) (by decide)
  have mA : MigAt S pA := hI.mig (by unfold isMig; omega)
  have aS : SchAt S sA := hI.sch (by unfold isSch; omega)
  refine ⟨S, ?_, hI, Fr.refl, h0⟩
  have aB : SchAt S sB := hI.sch (by unfold isSch; omega)
  unfold f_X8_count mCount f_X8_countWhenUp
  dsimp only
  simp only [g_getI, g_getL, g_getR, g_putI, g_putZ, g_putL, g_putR, g_ldI, g_ldL, g_ldR, g_stI, g_stZ, g_stL, g_stR, g_alen, g_ldX, g_cVI, g_cVL, g_cVR, g_cVV, g_cI, g_cL, g_cN, g_lt, g_jn, g_cpI, g_cpL, g_z, Nat.reduceMul, Nat.reduceAdd, Option.bind_some, or_true, true_or, if_true, g_ck_t c0, r0, r1, g_ck_t c1, g_ck_t c2, h1.1, h1.2.1, h1.2.2.1, h1.2.2.2.2.1, h1.2.2.2.2.2.1, g_ck_t mA.1, g_ck_t aS.1, g_ck_t aB.1, h2.1, h2.2.2.2.1, h2.2.2.2.2, h3.1, h4.1, h7.1, countLag_C h7 hI k5, countSh_C h7 hI k5, b01]
  by_cases a : w < 0
  · rw [if_pos a, if_pos (show w < 0 ∨ 9 < w from Or.inl a)]
  rw [if_neg a]
  by_cases b : 9 < w
  · rw [if_neg (Int32.not_le.mpr b), if_pos (show w < 0 ∨ 9 < w from Or.inr b)]
  rw [if_pos (Int32.not_lt.mp b), if_neg (show ¬ (w < 0 ∨ 9 < w) from fun q => q.elim a b)]
  by_cases c7 : w = 7
  · rw [if_pos c7, if_pos c7]
  rw [if_neg c7, if_neg c7]
  by_cases c8 : w = 8
  · rw [if_pos c8, if_pos c8]
  rw [if_neg c8, if_neg c8]
  by_cases c9 : w = 9
  · rw [if_pos c9, if_pos c9]
  rw [if_neg c9, if_neg c9]
  by_cases e : dk.1 = 0
  · rw [if_pos e, if_pos e]
    by_cases d : vr.2 = true
    · simp only [if_pos d, (h8 d).1.1]
      repeat' split
      all_goals first | rfl | contradiction
    · simp only [if_neg d]
      repeat' split
      all_goals first | rfl | contradiction
  · rw [if_neg e, if_neg e]
theorem count_R {S : gS} {m : mS} {w : Int32} (h : RR S m) (k : mOk m) : COp S 237 265 (f_X9_count S 237 w) (mCount m w) (fun S1 => RR S1 m) := by
  have h0 := h
  obtain ⟨dk, vr, pl, mg, sc, nx, dr, sn, tb⟩ := m
  obtain ⟨hI, h2, h3, h4, h5, h6, h7, h8, h9, h10⟩ := h
  obtain ⟨k1, k2, k3, k4, k5, k6, k7, k8⟩ := k
  have hR := hI.ref
  refine ⟨S, ?_, hI, Fr.refl, h0⟩
  have hlag : f_X9_lagging S 237 = some (nI (cntLag tb), S) := by
    have := lagging_loop h9 hI h4 k5 k6 tb 100 0 0 rfl (by omega) (by omega)
    rw [Nat.zero_add] at this
    exact this
  unfold f_X9_count mCount
  dsimp only
  simp only [g_getI, g_getL, g_getR, g_putI, g_putZ, g_putL, g_putR, g_ldI, g_ldL, g_ldR, g_stI, g_stZ, g_stL, g_stR, g_alen, g_ldX, g_cVI, g_cVL, g_cVR, g_cVV, g_cI, g_cL, g_cN, g_lt, g_jn, g_cpI, g_cpL, g_z, Nat.reduceMul, Nat.reduceAdd, Option.bind_some, or_true, true_or, if_true, ck9 hR, isIn_eq, h2.1, h2.2.2.2.1, h2.2.2.2.2, h3, h4, h5.1, h9.1, rf_columns hR, g_ck_t (ri_columns hR), rl_columns hR, hlag, b01, show ∀ o : Option (Int32 × gS), g_ix 3 (0 : Int32) o = o from fun _ => rfl, show ∀ o : Option (Int32 × gS), g_ix 3 (1 : Int32) o = o from fun _ => rfl]
  rw [show Int32.toNatClampNeg 0 = 0 from rfl, show Int32.toNatClampNeg 1 = 1 from rfl, h6.1]
  by_cases a : w < 0 ∨ 9 < w
  · rw [if_pos a, if_pos a, if_pos rfl]
  rw [if_neg a, if_neg a, if_neg (by decide)]
  by_cases c7 : w = 7
  · rw [if_pos c7, if_pos c7]
  rw [if_neg c7, if_neg c7]
  by_cases c8 : w = 8
  · rw [if_pos c8, if_pos c8]
  rw [if_neg c8, if_neg c8]
  by_cases c9 : w = 9
  · rw [if_pos c9, if_pos c9]
  rw [if_neg c9, if_neg c9]
  by_cases e : dk.1 = 0
  · rw [if_pos e, if_pos e]
    by_cases d : vr.2 = true
    · rw [d] at k6
      simp only [if_pos d, (h10 d).1.1, cntSh_run tb k6]
      repeat' split
      all_goals first | rfl | contradiction
    · have d2 : vr.2 = false := by simpa using d
      rw [d2] at h9
      simp only [if_neg d, shadowed_R h9 hI k5, Option.bind_some]
      repeat' split
      all_goals first | rfl | contradiction
  · rw [if_neg e, if_neg e]
/-! ===== which row stands under a key ===== -/
def FndIs (tb : List mRow) (key : Int32) (o : Option Nat) : Prop := match o with
  | none => ∀ (i : Nat) (r : mRow), tb[i]? = some r → r.1 ≠ key
  | some i => ∃ r : mRow, tb[i]? = some r ∧ r.1 = key
def mFnd (tb : List mRow) (key : Int32) : Option Nat := tb.findIdx? (fun r => r.1 == key)
theorem mFnd_is (tb : List mRow) (key : Int32) : FndIs tb key (mFnd tb key) := by
  unfold mFnd
  cases h : tb.findIdx? (fun r => r.1 == key) with
  | none =>
    intro i r hr
    have := List.findIdx?_eq_none_iff.mp h r (List.mem_of_getElem? hr)
    simpa using this
  | some i =>
    obtain ⟨h1, h2, h3⟩ := List.findIdx?_eq_some_iff_getElem.mp h
    exact ⟨tb[i], List.getElem?_eq_getElem h1, by simpa using h2⟩
theorem FndIs.uniq {tb : List mRow} {key : Int32} {o o2 : Option Nat} (hs : Srt tb) (h : FndIs tb key o) (h2 : FndIs tb key o2) : o = o2 := by
  cases o with
  | none =>
    cases o2 with
    | none => rfl
    | some j => obtain ⟨r, a, b⟩ := h2; exact absurd b (h j r a)
  | some i =>
    obtain ⟨r, a, b⟩ := h
    cases o2 with
    | none => exact absurd b (h2 i r a)
    | some j =>
      obtain ⟨q, c, d⟩ := h2
      congr 1
      rcases Nat.lt_trichotomy i j with z | z | z
      · have := srt_lt hs z a c
        rw [b, d] at this
        exact (Int32.lt_irrefl this).elim
      · exact z
      · have := srt_lt hs z c a
        rw [b, d] at this
        exact (Int32.lt_irrefl this).elim
def ixO : Option Nat → Int32
  | none => -1
  | some i => nI i
theorem placeUnder_C {S : gS} {tb : List mRow} {sc nx : List mCol} {run : Bool} (h : TableC S tb sc nx run) (hI : Imm S) (hl : tb.length ≤ 40) (hs : Srt tb) (key : Int32) : f_X7_placeUnder S 2 key = some (ixO (mFnd tb key), S) := by
  obtain ⟨t1, t2, t3, t4⟩ := hI.tab
  unfold f_X7_placeUnder
  simp only [g_getI, g_getL, g_getR, g_putI, g_putZ, g_putL, g_putR, g_ldI, g_ldL, g_ldR, g_stI, g_stZ, g_stL, g_stR, g_alen, g_ldX, g_cVI, g_cVL, g_cVR, g_cVV, g_cI, g_cL, g_cN, g_lt, g_jn, g_cpI, g_cpL, g_z, Nat.reduceMul, Nat.reduceAdd, Option.bind_some, or_true, true_or, if_true, g_ck_t t1, placeAbove_C h hI hl, t2, g_ck_t t3, t4]
  unfold mAb
  rw [if_pos rfl]
  have hle := cntLe_le key tb
  cases hc : cntLe key tb with
  | zero =>
    have : mFnd tb key = none := FndIs.uniq hs (mFnd_is tb key) (o2 := none) (by
      intro i r hr
      have := cntLe_hi key tb i r hs (by omega) hr
      intro q
      rw [q] at this
      exact Int32.lt_irrefl this)
    rw [this]
    rfl
  | succ n =>
    rw [nI_pred, if_neg (nI_pos (by omega)), g_ix_t (by omega) (by decide), nI_clamp (by omega)]
    have hn : n < tb.length := by omega
    obtain ⟨p, p1, p2, p3, p4⟩ := h.at hI hl (List.getElem?_eq_getElem hn)
    rw [p2, Option.bind_some, g_ck_t p3, p4.1]
    by_cases e : tb[n].1 = key
    · rw [if_pos e, FndIs.uniq hs (mFnd_is tb key) (o2 := some n) ⟨tb[n], List.getElem?_eq_getElem hn, e⟩]
      rfl
    · have : mFnd tb key = none := FndIs.uniq hs (mFnd_is tb key) (o2 := none) (by
        intro i r hr q
        rcases Nat.lt_trichotomy i n with z | z | z
        · have a := srt_lt hs z hr (List.getElem?_eq_getElem hn)
          have b := cntLe_lo key tb n _ (by omega) (List.getElem?_eq_getElem hn)
          rw [q] at a
          exact b a
        · subst z
          rw [List.getElem?_eq_getElem hn] at hr
          cases hr
          exact e q
        · have := cntLe_hi key tb i r hs (by omega) hr
          rw [q] at this
          exact Int32.lt_irrefl this)
      rw [if_neg e, this]
      rfl
theorem find_loop {S : gS} {tb : List mRow} {sc nx : List mCol} {run : Bool} (h : TableR S tb sc nx run) (hI : Imm S) (hl : tb.length ≤ 40) (key : Int32) : ∀ (l : List mRow) (fu i : Nat) (o : Option Nat), tb.drop i = l → i ≤ tb.length → l.length < fu → FndIs (tb.take i) key o → ∃ o2, l_X9_find_4 237 key fu S (ixO o) (nI i) = some (ixO o2, S) ∧ FndIs tb key o2 := by
  have hR := hI.ref
  intro l
  induction l with
  | nil =>
    intro fu i o hd hi hf ho
    obtain ⟨fu, rfl⟩ : ∃ m, fu = m + 1 := ⟨fu - 1, by omega⟩
    have := drop_nil hd
    rw [l_X9_find_4]
    simp only [g_getI, g_getL, g_getR, g_putI, g_putZ, g_putL, g_putR, g_ldI, g_ldL, g_ldR, g_stI, g_stZ, g_stL, g_stR, g_alen, g_ldX, g_cVI, g_cVL, g_cVR, g_cVV, g_cI, g_cL, g_cN, g_lt, g_jn, g_cpI, g_cpL, g_z, Nat.reduceMul, Nat.reduceAdd, Option.bind_some, or_true, true_or, if_true, ck9 hR, h.1]
    rw [if_pos (nI_le this (by omega))]
    rw [List.take_of_length_le this] at ho
    exact ⟨o, rfl, ho⟩
  | cons r l ih =>
    intro fu i o hd hi hf ho
    obtain ⟨fu, rfl⟩ : ∃ m, fu = m + 1 := ⟨fu - 1, by omega⟩
    obtain ⟨d1, d2, d3⟩ := drop_cons hd
    have ih' := fun o => ih fu (i + 1) o d3 (by omega) (by simp at hf; omega)
    rw [l_X9_find_4]
    simp only [g_getI, g_getL, g_getR, g_putI, g_putZ, g_putL, g_putR, g_ldI, g_ldL, g_ldR, g_stI, g_stZ, g_stL, g_stR, g_alen, g_ldX, g_cVI, g_cVL, g_cVR, g_cVV, g_cI, g_cL, g_cN, g_lt, g_jn, g_cpI, g_cpL, g_z, Nat.reduceMul, Nat.reduceAdd, Option.bind_some, or_true, true_or, if_true, ck9 hR, h.1, rf_keys hR, g_ck_t (ri_keys hR), rl_keys hR]
    rw [if_neg (nI_ge d1 (by omega)), g_ix_t (by omega) (by decide), nI_clamp (by omega), h.key d2, add1]
    have tk : ∀ j, j < i → (tb.take (i + 1))[j]? = tb[j]? := fun j hj => by rw [List.getElem?_take_of_lt (by omega)]
    by_cases e : r.1 = key
    · rw [if_pos e]
      exact ih' (some i) ⟨r, by rw [List.getElem?_take_of_lt (by omega)]; exact d2, e⟩
    · rw [if_neg e]
      refine ih' o ?_
      cases o with
      | none =>
        intro j q hj
        have hj2 := lt_of_some hj
        rw [List.length_take] at hj2
        rw [List.getElem?_take_of_lt (by omega)] at hj
        by_cases c : j < i
        · exact ho j q (by rw [List.getElem?_take_of_lt c]; exact hj)
        · have : j = i := by omega
          subst this
          rw [d2] at hj
          cases hj
          exact e
      | some j =>
        obtain ⟨q, a, b⟩ := ho
        have hj2 := lt_of_some a
        rw [List.length_take] at hj2
        rw [List.getElem?_take_of_lt (by omega)] at a
        exact ⟨q, by rw [List.getElem?_take_of_lt (by omega)]; exact a, b⟩
theorem find_R {S : gS} {tb : List mRow} {sc nx : List mCol} {run : Bool} (h : TableR S tb sc nx run) (hI : Imm S) (hl : tb.length ≤ 40) (hs : Srt tb) (key : Int32) : f_X9_find S 237 key = some (ixO (mFnd tb key), S) := by
  obtain ⟨o, h1, h2⟩ := find_loop h hI hl key tb 100 0 none rfl (by omega) (by omega) (fun i r hr => by simp at hr)
  rw [FndIs.uniq hs (mFnd_is tb key) h2]
  exact h1
theorem mFnd_lt {tb : List mRow} {key : Int32} {i : Nat} (h : mFnd tb key = some i) : i < tb.length := by
  have := mFnd_is tb key
  rw [h] at this
  obtain ⟨r, a, b⟩ := this
  exact lt_of_some a
theorem ixO_neg {tb : List mRow} {key : Int32} (hl : tb.length ≤ 40) : ixO (mFnd tb key) < 0 ↔ mFnd tb key = none := by
  cases h : mFnd tb key with
  | none => exact ⟨fun _ => rfl, fun _ => (by decide : (-1 : Int32) < 0)⟩
  | some i =>
    have := mFnd_lt h
    exact ⟨fun q => absurd q (nI_pos (by omega)), fun q => by cases q⟩
