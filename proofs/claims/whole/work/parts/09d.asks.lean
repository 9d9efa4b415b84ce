/-! ===== the rows in order: how many stand at or below a key ===== -/
def cntLe (k : Int32) : List mRow → Nat
  | [] => 0
  | r :: l => if k < r.1 then 0 else cntLe k l + 1
theorem cntLe_cons {k : Int32} {r : mRow} {l : List mRow} : cntLe k (r :: l) = if k < r.1 then 0 else cntLe k l + 1 := rfl
def Srt (l : List mRow) : Prop := (l.map (fun r => r.1)).Pairwise (fun a b => a < b)
theorem cntLe_le (k : Int32) : ∀ l, cntLe k l ≤ l.length := by
  intro l
  induction l with
  | nil => exact Nat.le_refl _
  | cons r l ih => unfold cntLe; split <;> simp; exact ih
theorem cntLe_lo (k : Int32) : ∀ (l : List mRow) (i : Nat) (r : mRow), i < cntLe k l → l[i]? = some r → ¬ k < r.1 := by
  intro l
  induction l with
  | nil => intro i r h; cases h
  | cons q l ih =>
    intro i r h hr
    unfold cntLe at h
    by_cases c : k < q.1
    · rw [if_pos c] at h; cases h
    · rw [if_neg c] at h
      cases i with
      | zero => cases hr; exact c
      | succ i => exact ih i r (by omega) hr
theorem cntLe_hi (k : Int32) : ∀ (l : List mRow) (i : Nat) (r : mRow), Srt l → cntLe k l ≤ i → l[i]? = some r → k < r.1 := by
  intro l
  induction l with
  | nil => intro i r _ _ h; cases h
  | cons q l ih =>
    intro i r hs h hr
    unfold cntLe at h
    unfold Srt at hs
    rw [List.map_cons, List.pairwise_cons] at hs
    by_cases c : k < q.1
    · cases i with
      | zero => cases hr; exact c
      | succ i => exact Int32.lt_trans c (hs.1 r.1 (List.mem_map_of_mem (List.mem_of_getElem? hr)))
    · rw [if_neg c] at h
      cases i with
      | zero => omega
      | succ i => exact ih i r hs.2 (by omega) hr
theorem srt_lt {l : List mRow} (hs : Srt l) {i j : Nat} {r q : mRow} (hij : i < j) (hr : l[i]? = some r) (hq : l[j]? = some q) : r.1 < q.1 := by
  unfold Srt at hs
  obtain ⟨hi, er⟩ := List.getElem?_eq_some_iff.mp hr
  obtain ⟨hj, eq⟩ := List.getElem?_eq_some_iff.mp hq
  have := List.pairwise_iff_getElem.mp hs i j (by simpa using hi) (by simpa using hj) hij
  simpa [er, eq] using this
theorem drop_cons {α : Type} {l t : List α} {i : Nat} {r : α} (h : l.drop i = r :: t) : i < l.length ∧ l[i]? = some r ∧ l.drop (i + 1) = t := by
  have h1 : i < l.length := by
    rcases Nat.lt_or_ge i l.length with q | q
    · exact q
    · rw [List.drop_eq_nil_of_le q] at h; cases h
  have h2 := List.drop_eq_getElem_cons h1
  rw [h] at h2
  injection h2 with a b
  exact ⟨h1, by rw [List.getElem?_eq_getElem h1, ← a], b.symm⟩
theorem drop_nil {α : Type} {l : List α} {i : Nat} (h : l.drop i = []) : l.length ≤ i := List.drop_eq_nil_iff.mp h
/-- the class's row i -/
theorem TableC.at {S : gS} {tb : List mRow} {sc nx : List mCol} {run : Bool} (h : TableC S tb sc nx run) (hI : Imm S) (hl : tb.length ≤ 40) {i : Nat} {r : mRow} (hi : tb[i]? = some r) : ∃ p, p < 40 ∧ gaR S 3 i = some (4 + 5 * p) ∧ g_is S 4 (4 + 5 * p) ∧ RowC S p r sc nx run := by
  obtain ⟨h1, q, h2, h3, h4⟩ := h
  have hlt := lt_of_some hi
  have hq := h2.1 i (by omega)
  exact ⟨q i, hq, h2.2.2 i (by omega), hI.is (by omega) (K0_row _ hq).1, h4 i r hi⟩
theorem Imm.tab {S : gS} (h : Imm S) : g_is S 7 2 ∧ gfR S 448 2 = some 3 ∧ g_is S 13 3 ∧ gln S 3 = 40 := ⟨h.is (by decide) (by decide), h.r (448, 2, 3) (by decide), h.is (by decide) (by decide), h.ln (by decide)⟩
theorem placeAbove_loop {S : gS} {tb : List mRow} {sc nx : List mCol} {run : Bool} (h : TableC S tb sc nx run) (hI : Imm S) (hl : tb.length ≤ 40) (k : Int32) : ∀ (l : List mRow) (fu i : Nat), tb.drop i = l → i ≤ tb.length → l.length < fu → l_X7_placeAbove_2 2 k 0 fu S (nI i) = some (nI (i + cntLe k l), S) := by
  obtain ⟨t1, t2, t3, t4⟩ := hI.tab
  intro l
  induction l with
  | nil =>
    intro fu i hd hi hf
    obtain ⟨fu, rfl⟩ : ∃ m, fu = m + 1 := ⟨fu - 1, by omega⟩
    have := drop_nil hd
    rw [l_X7_placeAbove_2, if_pos rfl]
    simp only [g_getI, g_getL, g_getR, g_putI, g_putZ, g_putL, g_putR, g_ldI, g_ldL, g_ldR, g_stI, g_stZ, g_stL, g_stR, g_alen, g_ldX, g_cVI, g_cVL, g_cVR, g_cVV, g_cI, g_cL, g_cN, g_lt, g_jn, g_cpI, g_cpL, g_z, Nat.reduceMul, Nat.reduceAdd, Option.bind_some, or_true, true_or, if_true, g_ck_t t1, h.1]
    rw [if_pos (nI_le this (by omega))]
    rfl
  | cons r l ih =>
    intro fu i hd hi hf
    obtain ⟨fu, rfl⟩ : ∃ m, fu = m + 1 := ⟨fu - 1, by omega⟩
    obtain ⟨d1, d2, d3⟩ := drop_cons hd
    obtain ⟨p, p1, p2, p3, p4⟩ := h.at hI hl d2
    rw [l_X7_placeAbove_2, if_pos rfl]
    simp only [g_getI, g_getL, g_getR, g_putI, g_putZ, g_putL, g_putR, g_ldI, g_ldL, g_ldR, g_stI, g_stZ, g_stL, g_stR, g_alen, g_ldX, g_cVI, g_cVL, g_cVR, g_cVV, g_cI, g_cL, g_cN, g_lt, g_jn, g_cpI, g_cpL, g_z, Nat.reduceMul, Nat.reduceAdd, Option.bind_some, or_true, true_or, if_true, g_ck_t t1, h.1, t2, g_ck_t t3, t4]
    rw [if_neg (nI_ge d1 (by omega)), g_ix_t (by omega) (by decide), nI_clamp (by omega), p2, Option.bind_some, g_ck_t p3, p4.1]
    unfold cntLe
    by_cases c : k < r.1
    · rw [if_pos c, if_pos c, Nat.add_zero]
    · rw [if_neg c, if_neg c, add1, ih fu (i + 1) d3 (by omega) (by simp at hf; omega)]
      congr 3
      omega
def mAb (tb : List mRow) (k f : Int32) : Nat := if f = 0 then cntLe k tb else 0
theorem mAb_le (tb : List mRow) (k f : Int32) : mAb tb k f ≤ tb.length := by
  unfold mAb
  split
  · exact cntLe_le k tb
  · exact Nat.zero_le _
theorem placeAbove_C {S : gS} {tb : List mRow} {sc nx : List mCol} {run : Bool} (h : TableC S tb sc nx run) (hI : Imm S) (hl : tb.length ≤ 40) (k f : Int32) : f_X7_placeAbove S 2 k f = some (nI (mAb tb k f), S) := by
  unfold f_X7_placeAbove mAb
  by_cases e : f = 0
  · rw [if_pos e, e]
    have := placeAbove_loop h hI hl k tb 100 0 rfl (by omega) (by omega)
    rw [Nat.zero_add] at this
    exact this
  · rw [if_neg e, l_X7_placeAbove_2, if_neg e]
    rfl
/-! ===== next, more ===== -/
def mTb (m : mS) : List mRow := m.2.2.2.2.2.2.2.2
def mNext (m : mS) (k f : Int32) : Int32 := if m.1.1 = 0 then (match (mTb m)[mAb (mTb m) k f]? with | none => k | some r => r.1) else 0
def mMore (m : mS) (k f : Int32) : Int32 := if m.1.1 = 0 then nI ((mTb m).length - mAb (mTb m) k f) else -8
theorem next_C {S : gS} {m : mS} {x f : Int32} (h : RC S m) (k : mOk m) : COp S 0 237 (f_X8_next S 0 x f) (mNext m x f) (fun S1 => RC S1 m) := by
  have h0 := h
  obtain ⟨dk, vr, pl, mg, sc, nx, dr, sn, tb⟩ := m
  obtain ⟨hI, sA, sB, pA, pB, h1, h2, h3, h4, h5, h6, h7, h8⟩ := h
  obtain ⟨k1, k2, k3, k4, k5, k6, k7, k8⟩ := k
  have hs := h1.2.2.2.2.2.2.1
  have hp := h1.2.2.2.2.2.2.2
  have c0 : g_is S 8 0 := hI.is (by decide) (by decide)
  have c1 : g_is S 0 1 := hI.is (by decide) (by decide)
  have c2 : g_is S 7 2 := hI.is (by decide) (by decide)
  have r0 : gfR S 512 0 = some 1 := hI.r (512, 0, 1) (by decide)
  have r1 : gfR S 513 0 = some 2 := hI.r (513, 0, 2) (by decide)
  have mA : MigAt S pA := hI.mig (by unfold isMig; omega)
  have aS : SchAt S sA := hI.sch (by unfold isSch; omega)
  obtain ⟨t1, t2, t3, t4⟩ := hI.tab
  unfold f_X8_next mNext
  simp only [g_getI, g_getL, g_getR, g_putI, g_putZ, g_putL, g_putR, g_ldI, g_ldL, g_ldR, g_stI, g_stZ, g_stL, g_stR, g_alen, g_ldX, g_cVI, g_cVL, g_cVR, g_cVV, g_cI, g_cL, g_cN, g_lt, g_jn, g_cpI, g_cpL, g_z, Nat.reduceMul, Nat.reduceAdd, Option.bind_some, or_true, true_or, if_true, g_ck_t c0, r0, r1, g_ck_t c1, h2.1, g_ck_t t1, placeAbove_C h7 hI k5, h7.1, t2, g_ck_t t3, t4]
  refine ⟨S, ?_, hI, Fr.refl, h0⟩
  show (if dk.1 = 0 then _ else _) = some ((if dk.1 = 0 then (match tb[mAb tb x f]? with | none => x | some r => r.1) else 0), S)
  by_cases e : dk.1 = 0
  · rw [if_pos e, if_pos e]
    have hle := mAb_le tb x f
    by_cases c : tb.length ≤ mAb tb x f
    · rw [if_pos (nI_le c (by omega)), List.getElem?_eq_none c]
    · have c2 : mAb tb x f < tb.length := by omega
      rw [if_neg (nI_ge c2 (by omega)), List.getElem?_eq_getElem c2]
      obtain ⟨p, p1, p2, p3, p4⟩ := h7.at hI k5 (List.getElem?_eq_getElem c2)
      rw [g_ix_t (by omega) (by decide), nI_clamp (by omega), p2, Option.bind_some, g_ck_t p3, p4.1]
  · rw [if_neg e, if_neg e]
theorem more_C {S : gS} {m : mS} {x f : Int32} (h : RC S m) (k : mOk m) : COp S 0 237 (f_X8_more S 0 x f) (mMore m x f) (fun S1 => RC S1 m) := by
  have h0 := h
  obtain ⟨dk, vr, pl, mg, sc, nx, dr, sn, tb⟩ := m
  obtain ⟨hI, sA, sB, pA, pB, h1, h2, h3, h4, h5, h6, h7, h8⟩ := h
  obtain ⟨k1, k2, k3, k4, k5, k6, k7, k8⟩ := k
  have hs := h1.2.2.2.2.2.2.1
  have hp := h1.2.2.2.2.2.2.2
  have c0 : g_is S 8 0 := hI.is (by decide) (by decide)
  have c1 : g_is S 0 1 := hI.is (by decide) (by decide)
  have c2 : g_is S 7 2 := hI.is (by decide) (by decide)
  have r0 : gfR S 512 0 = some 1 := hI.r (512, 0, 1) (by decide)
  have r1 : gfR S 513 0 = some 2 := hI.r (513, 0, 2) (by decide)
  have mA : MigAt S pA := hI.mig (by unfold isMig; omega)
  have aS : SchAt S sA := hI.sch (by unfold isSch; omega)
  obtain ⟨t1, t2, t3, t4⟩ := hI.tab
  unfold f_X8_more mMore
  simp only [g_getI, g_getL, g_getR, g_putI, g_putZ, g_putL, g_putR, g_ldI, g_ldL, g_ldR, g_stI, g_stZ, g_stL, g_stR, g_alen, g_ldX, g_cVI, g_cVL, g_cVR, g_cVV, g_cI, g_cL, g_cN, g_lt, g_jn, g_cpI, g_cpL, g_z, Nat.reduceMul, Nat.reduceAdd, Option.bind_some, or_true, true_or, if_true, g_ck_t c0, r0, r1, g_ck_t c1, h2.1, g_ck_t t1, placeAbove_C h7 hI k5, h7.1]
  refine ⟨S, ?_, hI, Fr.refl, h0⟩
  show (if dk.1 = 0 then _ else _) = some ((if dk.1 = 0 then nI (tb.length - mAb tb x f) else -8), S)
  by_cases e : dk.1 = 0
  · rw [if_pos e, if_pos e, sub_nI (mAb_le tb x f)]
  · rw [if_neg e, if_neg e]
/-- the reference's row i -/
theorem TableR.key {S : gS} {tb : List mRow} {sc nx : List mCol} {run : Bool} (h : TableR S tb sc nx run) {i : Nat} {r : mRow} (hi : tb[i]? = some r) : gaI S 242 i = r.1 := (h.2.2.2 i r hi).1
theorem next_loop {S : gS} {tb : List mRow} {sc nx : List mCol} {run : Bool} (h : TableR S tb sc nx run) (hI : Imm S) (hl : tb.length ≤ 40) (k : Int32) (K : gS → Int32 → Option (Int32 × gS)) : ∀ (l : List mRow) (fu i : Nat), tb.drop i = l → i ≤ tb.length → l.length < fu → l_X9_next_11 237 k 0 fu S (nI i) K = if tb.length ≤ i + cntLe k l then some (k, S) else K S (nI (i + cntLe k l)) := by
  have hR := hI.ref
  intro l
  induction l with
  | nil =>
    intro fu i hd hi hf
    obtain ⟨fu, rfl⟩ : ∃ m, fu = m + 1 := ⟨fu - 1, by omega⟩
    have := drop_nil hd
    rw [l_X9_next_11]
    simp only [g_getI, g_getL, g_getR, g_putI, g_putZ, g_putL, g_putR, g_ldI, g_ldL, g_ldR, g_stI, g_stZ, g_stL, g_stR, g_alen, g_ldX, g_cVI, g_cVL, g_cVR, g_cVV, g_cI, g_cL, g_cN, g_lt, g_jn, g_cpI, g_cpL, g_z, Nat.reduceMul, Nat.reduceAdd, Option.bind_some, or_true, true_or, if_true, ck9 hR, h.1]
    rw [if_pos (nI_le this (by omega)), if_pos (by unfold cntLe; omega)]
  | cons r l ih =>
    intro fu i hd hi hf
    obtain ⟨fu, rfl⟩ : ∃ m, fu = m + 1 := ⟨fu - 1, by omega⟩
    obtain ⟨d1, d2, d3⟩ := drop_cons hd
    rw [l_X9_next_11]
    simp only [g_getI, g_getL, g_getR, g_putI, g_putZ, g_putL, g_putR, g_ldI, g_ldL, g_ldR, g_stI, g_stZ, g_stL, g_stR, g_alen, g_ldX, g_cVI, g_cVL, g_cVR, g_cVV, g_cI, g_cL, g_cN, g_lt, g_jn, g_cpI, g_cpL, g_z, Nat.reduceMul, Nat.reduceAdd, Option.bind_some, or_true, true_or, if_true, ck9 hR, h.1, rf_keys hR, g_ck_t (ri_keys hR), rl_keys hR]
    rw [if_neg (nI_ge d1 (by omega)), g_ix_t (by omega) (by decide), nI_clamp (by omega), h.key d2]
    unfold cntLe
    by_cases c : k < r.1
    · rw [if_neg (Int32.not_le.mpr c), if_pos c, if_neg (by omega), Nat.add_zero]
    · rw [if_pos (Int32.not_lt.mp c), if_neg c, add1, ih fu (i + 1) d3 (by omega) (by simp at hf; omega), show i + 1 + cntLe k l = i + (cntLe k l + 1) by omega]
theorem next_R {S : gS} {m : mS} {x f : Int32} (h : RR S m) (k : mOk m) : COp S 237 265 (f_X9_next S 237 x f) (mNext m x f) (fun S1 => RR S1 m) := by
  have h0 := h
  obtain ⟨dk, vr, pl, mg, sc, nx, dr, sn, tb⟩ := m
  obtain ⟨hI, h2, h3, h4, h5, h6, h7, h8, h9, h10⟩ := h
  obtain ⟨k1, k2, k3, k4, k5, k6, k7, k8⟩ := k
  have hR := hI.ref
  refine ⟨S, ?_, hI, Fr.refl, h0⟩
  unfold f_X9_next mNext
  simp only [g_getI, g_getL, g_getR, g_putI, g_putZ, g_putL, g_putR, g_ldI, g_ldL, g_ldR, g_stI, g_stZ, g_stL, g_stR, g_alen, g_ldX, g_cVI, g_cVL, g_cVR, g_cVV, g_cI, g_cL, g_cN, g_lt, g_jn, g_cpI, g_cpL, g_z, Nat.reduceMul, Nat.reduceAdd, Option.bind_some, or_true, true_or, if_true, ck9 hR, h2.1]
  show (if dk.1 = 0 then _ else _) = some ((if dk.1 = 0 then (match tb[mAb tb x f]? with | none => x | some r => r.1) else 0), S)
  by_cases e : dk.1 = 0
  · rw [if_pos e, if_pos e]
    have fin : ∀ i, i < tb.length → (g_ck S 9 237 ((gfR S 580 237).bind fun a7 => g_ck S 10 a7 (g_ix (gln S a7) (nI i) (some (gaI S a7 (nI i).toNatClampNeg, S))))) = some ((match tb[i]? with | none => x | some r => r.1), S) := by
      intro i hi
      rw [ck9 hR, rf_keys hR, Option.bind_some, g_ck_t (ri_keys hR), rl_keys hR, g_ix_t (by omega) (by decide), nI_clamp (by omega), List.getElem?_eq_getElem hi, h9.key (List.getElem?_eq_getElem hi)]
    unfold mAb
    by_cases c : f = 0
    · rw [if_pos c, c]
      refine (next_loop h9 hI k5 x _ tb 100 0 rfl (by omega) (by omega)).trans ?_
      rw [Nat.zero_add]
      by_cases d : tb.length ≤ cntLe x tb
      · rw [if_pos d, List.getElem?_eq_none d]
      · rw [if_neg d]; exact fin _ (by omega)
    · rw [if_neg c, l_X9_next_11]
      simp only [g_getI, g_getL, g_getR, g_putI, g_putZ, g_putL, g_putR, g_ldI, g_ldL, g_ldR, g_stI, g_stZ, g_stL, g_stR, g_alen, g_ldX, g_cVI, g_cVL, g_cVR, g_cVV, g_cI, g_cL, g_cN, g_lt, g_jn, g_cpI, g_cpL, g_z, Nat.reduceMul, Nat.reduceAdd, Option.bind_some, or_true, true_or, if_true, ck9 hR, h9.1]
      by_cases d : tb.length ≤ 0
      · rw [if_pos (show nI tb.length ≤ (0 : Int32) from nI_le (b := 0) d (by decide)), List.getElem?_eq_none (by omega)]
      · rw [if_neg (show ¬ nI tb.length ≤ (0 : Int32) from nI_ge (a := 0) (by omega) (by omega)), if_neg c]
        have f0 := fin 0 (by omega)
        rw [ck9 hR] at f0
        exact f0
  · rw [if_neg e, if_neg e]
def cntGt (k f : Int32) : List mRow → Nat
  | [] => 0
  | r :: l => (if f = 0 ∧ ¬ k < r.1 then 0 else 1) + cntGt k f l
theorem cntGt_cons {k f : Int32} {r : mRow} {l : List mRow} : cntGt k f (r :: l) = (if f = 0 ∧ ¬ k < r.1 then 0 else 1) + cntGt k f l := rfl
theorem cntGt_eq (k f : Int32) : ∀ l : List mRow, Srt l → cntGt k f l = l.length - mAb l k f := by
  intro l
  induction l with
  | nil => intro _; unfold cntGt; simp
  | cons r l ih =>
    intro hs
    have hs2 : Srt l := by unfold Srt at hs ⊢; rw [List.map_cons, List.pairwise_cons] at hs; exact hs.2
    rw [cntGt_cons, ih hs2]
    unfold mAb
    by_cases e : f = 0
    · rw [if_pos e, if_pos e, cntLe_cons]
      by_cases c : k < r.1
      · rw [if_neg (fun q => q.2 c), if_pos c]
        have hz : cntLe k l = 0 := by
          cases l with
          | nil => rfl
          | cons q l =>
            rw [cntLe_cons, if_pos]
            have := srt_lt hs (i := 0) (j := 1) (by omega) rfl rfl
            exact Int32.lt_trans c this
        rw [hz, List.length_cons]
        omega
      · rw [if_pos ⟨e, c⟩, if_neg c, List.length_cons]
        omega
    · rw [if_neg e, if_neg e, if_neg (fun q => e q.1), List.length_cons]
      omega
theorem more_loop {S : gS} {tb : List mRow} {sc nx : List mCol} {run : Bool} (h : TableR S tb sc nx run) (hI : Imm S) (hl : tb.length ≤ 40) (k f : Int32) : ∀ (l : List mRow) (fu i c : Nat), tb.drop i = l → i ≤ tb.length → l.length < fu → l_X9_more_15 237 k f fu S (nI c) (nI i) = some (nI (c + cntGt k f l), S) := by
  have hR := hI.ref
  intro l
  induction l with
  | nil =>
    intro fu i c hd hi hf
    obtain ⟨fu, rfl⟩ : ∃ m, fu = m + 1 := ⟨fu - 1, by omega⟩
    have := drop_nil hd
    rw [l_X9_more_15]
    simp only [g_getI, g_getL, g_getR, g_putI, g_putZ, g_putL, g_putR, g_ldI, g_ldL, g_ldR, g_stI, g_stZ, g_stL, g_stR, g_alen, g_ldX, g_cVI, g_cVL, g_cVR, g_cVV, g_cI, g_cL, g_cN, g_lt, g_jn, g_cpI, g_cpL, g_z, Nat.reduceMul, Nat.reduceAdd, Option.bind_some, or_true, true_or, if_true, ck9 hR, h.1]
    rw [if_pos (nI_le this (by omega))]
    rfl
  | cons r l ih =>
    intro fu i c hd hi hf
    obtain ⟨fu, rfl⟩ : ∃ m, fu = m + 1 := ⟨fu - 1, by omega⟩
    obtain ⟨d1, d2, d3⟩ := drop_cons hd
    have ih' := fun c => ih fu (i + 1) c d3 (by omega) (by simp at hf; omega)
    rw [l_X9_more_15]
    simp only [g_getI, g_getL, g_getR, g_putI, g_putZ, g_putL, g_putR, g_ldI, g_ldL, g_ldR, g_stI, g_stZ, g_stL, g_stR, g_alen, g_ldX, g_cVI, g_cVL, g_cVR, g_cVV, g_cI, g_cL, g_cN, g_lt, g_jn, g_cpI, g_cpL, g_z, Nat.reduceMul, Nat.reduceAdd, Option.bind_some, or_true, true_or, if_true, ck9 hR, h.1, rf_keys hR, g_ck_t (ri_keys hR), rl_keys hR]
    rw [if_neg (nI_ge d1 (by omega)), g_ix_t (by omega) (by decide), nI_clamp (by omega), h.key d2, add1, show (1 : Int32) = nI 1 from rfl, nI_add, ih', show nI c + (0 : Int32) = nI (c + 0) from nI_add c 0, ih']
    rw [cntGt_cons]
    by_cases e : f = 0
    · rw [if_pos e]
      by_cases q : k < r.1
      · rw [if_neg (Int32.not_le.mpr q), if_neg (fun z => z.2 q), Nat.add_assoc]
      · rw [if_pos (Int32.not_lt.mp q), if_pos ⟨e, q⟩, Nat.add_zero, Nat.zero_add]
    · rw [if_neg e, if_neg (fun z => e z.1), Nat.add_assoc]
theorem more_R {S : gS} {m : mS} {x f : Int32} (h : RR S m) (k : mOk m) : COp S 237 265 (f_X9_more S 237 x f) (mMore m x f) (fun S1 => RR S1 m) := by
  have h0 := h
  obtain ⟨dk, vr, pl, mg, sc, nx, dr, sn, tb⟩ := m
  obtain ⟨hI, h2, h3, h4, h5, h6, h7, h8, h9, h10⟩ := h
  obtain ⟨k1, k2, k3, k4, k5, k6, k7, k8⟩ := k
  have hR := hI.ref
  refine ⟨S, ?_, hI, Fr.refl, h0⟩
  unfold f_X9_more mMore
  simp only [g_getI, g_getL, g_getR, g_putI, g_putZ, g_putL, g_putR, g_ldI, g_ldL, g_ldR, g_stI, g_stZ, g_stL, g_stR, g_alen, g_ldX, g_cVI, g_cVL, g_cVR, g_cVV, g_cI, g_cL, g_cN, g_lt, g_jn, g_cpI, g_cpL, g_z, Nat.reduceMul, Nat.reduceAdd, Option.bind_some, or_true, true_or, if_true, ck9 hR, h2.1]
  show (if dk.1 = 0 then _ else _) = some ((if dk.1 = 0 then nI (tb.length - mAb tb x f) else -8), S)
  by_cases e : dk.1 = 0
  · rw [if_pos e, if_pos e]
    have := more_loop h9 hI k5 x f tb 100 0 0 rfl (by omega) (by omega)
    rw [Nat.zero_add, cntGt_eq x f tb k7] at this
    exact this
  · rw [if_neg e, if_neg e]
