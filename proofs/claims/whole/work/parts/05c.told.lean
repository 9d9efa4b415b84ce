/-! ===== values: a number, or a text; what is TOLD; the number that a text tells ===== -/
def mBr (v : Int64) : Nat → List Nat
  | 0 => []
  | k + 1 => (if lt8 v k = 0 then [] else [lt8 v k]) ++ mBr v k
def mB (v : Int64) : List Nat := mBr v 8
theorem mBr_len (v : Int64) : ∀ k, (mBr v k).length ≤ k := by
  intro k
  induction k with
  | zero => exact Nat.le_refl _
  | succ k ih =>
    unfold mBr
    rw [List.length_append]
    by_cases h : lt8 v k = 0 <;> simp [h] <;> omega
theorem mBr_ok (v : Int64) : ∀ k, ∀ c ∈ mBr v k, 0 < c ∧ c < 256 := by
  intro k
  induction k with
  | zero => intro c h; cases h
  | succ k ih =>
    intro c h
    unfold mBr at h
    rcases List.mem_append.mp h with h | h
    · by_cases h0 : lt8 v k = 0
      · rw [if_pos h0] at h; cases h
      · rw [if_neg h0] at h
        rw [List.mem_singleton.mp h]
        exact ⟨Nat.pos_of_ne_zero h0, lt8_lt _ _⟩
    · exact ih c h
/-- the shift while k bytes are left -/
def shB : Nat → Int32
  | 0 => -8
  | k + 1 => nI (8 * k)
theorem shB_neg {k : Nat} (hk : k ≤ 8) : shB k < 0 ↔ k = 0 := by
  cases k with
  | zero => exact ⟨fun _ => rfl, fun _ => by decide⟩
  | succ k => exact ⟨fun h => absurd h (nI_pos (by omega)), fun h => by cases h⟩
theorem shB_step (k : Nat) : shB (k + 1) + (-8 : Int32) = shB k := by
  cases k with
  | zero => decide
  | succ k =>
    show nI (8 * (k + 1)) + (-8 : Int32) = nI (8 * k)
    rw [Nat.mul_succ, ← nI_add, show nI 8 = (8 : Int32) from rfl, Int32.add_assoc, show (8 : Int32) + -8 = 0 by decide, Int32.add_zero]
theorem nI_eq0 {k : Nat} (h : k < 2 ^ 31) : nI k = 0 ↔ k = 0 := by
  rw [← nI_0, nI_eq h (by decide)]
theorem appendLetters_loop {f w i : Nat} (hi : i < 8) (v : Int64) : ∀ (k n : Nat) (S : gS) (T : List Nat), k ≤ 8 → k < n → FormAt S f w → TxW (gaL S w) i T → T.length + (mBr v k).length ≤ 24 →
    FOp S w i (l_X2_appendLetters_4 f (nI i) v n S (shB k)) (fun w1 => TxW w1 i (T ++ mBr v k)) := by
  intro k
  induction k with
  | zero =>
    intro n S T hk hn h hT hl
    obtain ⟨n, rfl⟩ : ∃ m, n = m + 1 := ⟨n - 1, by omega⟩
    rw [l_X2_appendLetters_4, if_pos ((shB_neg (by omega)).mpr rfl)]
    refine ⟨gaL S w, by rw [g_rL_id], fun _ _ => rfl, ?_⟩
    rw [show T ++ mBr v 0 = T from List.append_nil T]
    exact hT
  | succ k ih =>
    intro n S T hk hn h hT hl
    obtain ⟨n, rfl⟩ : ∃ m, n = m + 1 := ⟨n - 1, by omega⟩
    rw [l_X2_appendLetters_4, if_neg (fun q => by have := (shB_neg hk).mp q; omega)]
    simp only [g_getI, g_getL, g_getR, g_putI, g_putZ, g_putL, g_putR, g_ldI, g_ldL, g_ldR, g_stI, g_stZ, g_stL, g_stR, g_alen, g_ldX, g_cVI, g_cVL, g_cVR, g_cVV, g_cI, g_cL, g_cN, g_lt, g_jn, g_cpI, g_cpL, g_z, Nat.reduceMul, Nat.reduceAdd, Option.bind_some, or_true, true_or, if_true, shB_step, g_ck_t h.1]
    rw [show shB (k + 1) = nI (8 * k) from rfl, lt8_read v (by omega)]
    have hl2 : (mBr v (k + 1)).length = (if lt8 v k = 0 then [] else [lt8 v k] : List Nat).length + (mBr v k).length := by
      conv => lhs; unfold mBr
      rw [List.length_append]
    by_cases h0 : lt8 v k = 0
    · rw [if_pos (by rw [h0]; rfl)]
      have e : mBr v (k + 1) = mBr v k := by conv => lhs; unfold mBr
                                             rw [if_pos h0]; rfl
      rw [e] at hl ⊢
      exact ih n S T (by omega) (by omega) h hT hl
    · rw [if_neg (fun q => h0 ((nI_eq0 (by have := lt8_lt v k; omega)).mp q))]
      have e : mBr v (k + 1) = [lt8 v k] ++ mBr v k := by conv => lhs; unfold mBr
                                                          rw [if_neg h0]
      rw [e] at hl ⊢
      simp only [List.length_append, List.length_singleton] at hl
      have ha := appendLetter_eq (c := lt8 v k) h hi hT (by omega) ⟨Nat.pos_of_ne_zero h0, lt8_lt _ _⟩
      refine FOp.bind ha fun w1 hw1 ho => ?_
      rw [← List.append_assoc]
      refine ih n (g_rL S w w1) (T ++ [lt8 v k]) (by omega) (by omega) h ?_ (by simp only [List.length_append, List.length_singleton]; omega)
      rw [q_rL_aL, g_row_s]
      exact hw1
theorem appendLetters_eq {S : gS} {f w i : Nat} {v : Int64} {T : List Nat} (h : FormAt S f w) (hi : i < 8) (hT : TxW (gaL S w) i T) (hl : T.length + (mB v).length ≤ 24) : FOp S w i (f_X2_appendLetters S f (nI i) v) (fun w1 => TxW w1 i (T ++ mB v)) := by
  unfold f_X2_appendLetters
  exact appendLetters_loop hi v 8 100 S T (by decide) (by decide) h hT hl
theorem setNumber_F {S : gS} {f w i : Nat} {x : Int64} (h : FormAt S f w) (hi : i < 8) : FOp S w i (f_X2_setNumber S f (nI i) x) (fun w1 => w1 (4 * i) = x ∧ ∃ w0, w1 = W_set w0 i x) :=
  ⟨_, setNumber_eq h hi, W_set_only, W_set_0, _, rfl⟩
/-- a value of a type: a number, or a text -/
abbrev mV : Type := Int64 × List Nat
def mTell (t : Int32) (v : Int64) : mV := if t = 0 then (v &&& 1, []) else if t = 1 then (v.toInt32.toInt16.toInt32.toInt64, []) else if t = 2 then (v.toInt32.toInt64, []) else if t = 3 then (v, []) else (0, mB v)
theorem mTell0 {v : Int64} : mTell 0 v = (v &&& 1, []) := if_pos rfl
theorem mTell1 {v : Int64} : mTell 1 v = (v.toInt32.toInt16.toInt32.toInt64, []) := by unfold mTell; rw [if_neg (by decide), if_pos rfl]
theorem mTell2 {v : Int64} : mTell 2 v = (v.toInt32.toInt64, []) := by unfold mTell; rw [if_neg (by decide), if_neg (by decide), if_pos rfl]
theorem mTell3 {v : Int64} : mTell 3 v = (v, []) := by unfold mTell; rw [if_neg (by decide), if_neg (by decide), if_neg (by decide), if_pos rfl]
theorem mTell4 {v : Int64} : mTell 4 v = (0, mB v) := by unfold mTell; rw [if_neg (by decide), if_neg (by decide), if_neg (by decide), if_neg (by decide)]
def CVw (t : Int32) (w : Nat → Int64) (i : Nat) (x : mV) : Prop := if t = 4 then TxW w i x.2 else w (4 * i) = x.1
theorem CVw.num {t : Int32} {w : Nat → Int64} {i : Nat} {x : mV} (ht : t ≠ 4) (h : w (4 * i) = x.1) : CVw t w i x := by unfold CVw; rw [if_neg ht]; exact h
theorem FOp.id2 {S : gS} {w i : Nat} {o : Option gS} {P : (Nat → Int64) → Prop} (h : FOp S w i o P) : FOp S w i (o.bind fun S1 => some S1) P := by
  rw [show (o.bind fun S1 => some S1) = o from by cases o <;> rfl]
  exact h
theorem setNumber_CV {S : gS} {f w i : Nat} {t : Int32} {T : List Nat} (x : Int64) (h : FormAt S f w) (hi : i < 8) (ht : t ≠ 4) : FOp S w i ((f_X2_setNumber S f (nI i) x).bind fun S1 => some S1) (fun w1 => CVw t w1 i (x, T)) :=
  ((setNumber_F h hi).mono fun w1 _ q => CVw.num (x := (x, T)) ht q.1).id2
theorem setTold_eq {S : gS} {f w i : Nat} {t : Int32} {v : Int64} (h : FormAt S f w) (hi : i < 8) (ht : t = 0 ∨ t = 1 ∨ t = 2 ∨ t = 3 ∨ t = 4) : FOp S w i (f_X2_setTold S f (nI i) t v) (fun w1 => CVw t w1 i (mTell t v)) := by
  unfold f_X2_setTold g_cVV
  rw [g_ck_t h.1, g_ck_t h.1, g_ck_t h.1, g_ck_t h.1, g_ck_t h.1]
  rcases ht with rfl | rfl | rfl | rfl | rfl
  · rw [if_pos rfl, mTell0]
    exact setNumber_CV _ h hi (by decide)
  · rw [if_neg (by decide), if_pos rfl, mTell1]
    exact setNumber_CV _ h hi (by decide)
  · rw [if_neg (by decide), if_neg (by decide), if_pos rfl, mTell2]
    exact setNumber_CV _ h hi (by decide)
  · rw [if_neg (by decide), if_neg (by decide), if_neg (by decide), if_pos rfl, mTell3]
    exact setNumber_CV _ h hi (by decide)
  · rw [if_neg (by decide), if_neg (by decide), if_neg (by decide), if_neg (by decide), mTell4]
    refine FOp.bind (setNumber_F h hi) fun w1 hw1 _ => ?_
    rw [q_rL_ck, g_ck_t h.1]
    refine FOp.id2 ?_
    obtain ⟨-, w0, rfl⟩ := hw1
    have hT : TxW (gaL (g_rL S w (W_set w0 i 0)) w) i [] := by rw [q_rL_aL, g_row_s]; exact TxW.nil
    refine (appendLetters_eq (S := g_rL S w (W_set w0 i 0)) h hi hT ?_).mono fun w1 _ q => ?_
    · have := mBr_len v 8
      show 0 + (mBr v 8).length ≤ 24
      omega
    · unfold CVw
      rw [if_pos rfl]
      exact q
/-- the number that a text tells -/
def mFold : List Nat → Int64 → Option Int64
  | [], a => some a
  | c :: l, a => if c < 48 ∨ 57 < c then none else mFold l (10 * a + lN (c - 48))
def mSt (T : List Nat) : Nat := if T.getD 0 0 = 45 then 1 else 0
def mNum (T : List Nat) : Int64 := if T.length < mSt T + 1 ∨ mSt T + 18 < T.length then 0 else match mFold (T.drop (mSt T)) 0 with
  | none => 0
  | some a => if mSt T = 1 then -a else a
theorem sub_nI {a b : Nat} (h : b ≤ a) : nI a - nI b = nI (a - b) := pk_sub h
theorem drop_at {T : List Nat} {j : Nat} (h : j < T.length) : T.drop j = T.getD j 0 :: T.drop (j + 1) := by
  rw [List.drop_eq_getElem_cons h, List.getD_eq_getElem?_getD, List.getElem?_eq_getElem h]
  rfl
theorem numberTold_loop {f w i : Nat} {S : gS} {T : List Nat} (h : FormAt S f w) (hi : i < 8) (hT : TxW (gaL S w) i T) (u3 : Int32) (K : gS → Int64 → Int32 → Option (Int64 × gS)) : ∀ (d n j : Nat) (a : Int64), j + d = T.length → d < n →
    l_X2_numberTold_51 f (nI i) (nI T.length) u3 n S a (nI j) K = match mFold (T.drop j) a with
      | none => some (0, S)
      | some b => K S b (nI T.length) := by
  obtain ⟨t1, t2, t3, t4⟩ := hT
  intro d
  induction d with
  | zero =>
    intro n j a hj hn
    obtain ⟨n, rfl⟩ : ∃ m, n = m + 1 := ⟨n - 1, by omega⟩
    have : j = T.length := by omega
    subst this
    rw [l_X2_numberTold_51, if_pos (nI_le (Nat.le_refl _) (by omega)), List.drop_length]
    rfl
  | succ d ih =>
    intro n j a hj hn
    obtain ⟨n, rfl⟩ : ∃ m, n = m + 1 := ⟨n - 1, by omega⟩
    rw [l_X2_numberTold_51, if_neg (by rw [nI_leI (by omega) (by omega)]; omega), drop_at (by omega)]
    simp only [g_getI, g_getL, g_getR, g_putI, g_putZ, g_putL, g_putR, g_ldI, g_ldL, g_ldR, g_stI, g_stZ, g_stL, g_stR, g_alen, g_ldX, g_cVI, g_cVL, g_cVR, g_cVV, g_cI, g_cL, g_cN, g_lt, g_jn, g_cpI, g_cpL, g_z, Nat.reduceMul, Nat.reduceAdd, Option.bind_some, or_true, true_or, if_true, g_ck_t h.1]
    rw [letterAt_eq h hi (by omega), t4 j (by omega), Option.bind_some]
    have hc : T.getD j 0 < 256 := by rw [← t4 j (by omega)]; exact lt8_lt _ _
    rw [show (48 : Int32) = nI 48 from rfl, show (57 : Int32) = nI 57 from rfl]
    show (if nI (T.getD j 0) < nI 48 then _ else _) = _
    unfold mFold
    by_cases c1 : T.getD j 0 < 48
    · rw [if_pos (by rw [nI_ltI (by omega) (by omega)]; exact c1), if_pos (Or.inl c1)]
    · rw [if_neg (by rw [nI_ltI (by omega) (by omega)]; exact c1)]
      by_cases c2 : 57 < T.getD j 0
      · rw [if_neg (by rw [nI_leI (by omega) (by omega)]; omega), if_pos (Or.inr c2)]
      · rw [if_pos (by rw [nI_leI (by omega) (by omega)]; omega), if_neg (by omega), sub_nI (by omega), nI_l (by omega), add1]
        exact ih n (j + 1) _ (by omega) (by omega)
theorem numberTold_eq {S : gS} {f w i : Nat} {T : List Nat} (h : FormAt S f w) (hi : i < 8) (hT : TxW (gaL S w) i T) : f_X2_numberTold S f (nI i) = some (mNum T, S) := by
  have hT0 := hT
  obtain ⟨t1, t2, t3, t4⟩ := hT
  have key : ∀ s : Nat, s = mSt T → (if nI T.length - nI s < nI 1 then some ((0 : Int64), S) else if nI T.length - nI s ≤ nI 18 then l_X2_numberTold_51 f (nI i) (nI T.length) (nI s) 100 S 0 (nI s) (fun S10 v11 v12 => if nI s = nI 1 then some (-v11, S10) else some (v11, S10)) else some ((0 : Int64), S)) = some (mNum T, S) := by
    intro s hs
    have hs1 : s ≤ 1 := by rw [hs]; unfold mSt; split <;> omega
    unfold mNum
    rw [← hs]
    by_cases hlt : T.length < s
    · have hz : T.length = 0 := by omega
      have h1 : s = 1 := by omega
      rw [if_pos (show T.length < s + 1 ∨ s + 18 < T.length by omega), if_pos]
      rw [h1, hz]
      decide
    · rw [sub_nI (by omega)]
      by_cases c1 : T.length < s + 1
      · rw [if_pos (show T.length < s + 1 ∨ s + 18 < T.length by omega), if_pos (by rw [nI_ltI (by omega) (by omega)]; omega)]
      · rw [if_neg (show ¬ nI (T.length - s) < nI 1 by rw [nI_ltI (by omega) (by omega)]; omega)]
        by_cases c2 : s + 18 < T.length
        · rw [if_pos (show T.length < s + 1 ∨ s + 18 < T.length by omega), if_neg (by rw [nI_leI (by omega) (by omega)]; omega)]
        · rw [if_neg (show ¬ (T.length < s + 1 ∨ s + 18 < T.length) by omega), if_pos (show nI (T.length - s) ≤ nI 18 by rw [nI_leI (by omega) (by omega)]; omega), numberTold_loop h hi hT0 (nI s) _ (T.length - s) 100 s 0 (by omega) (by omega)]
          cases mFold (T.drop s) 0 with
          | none => rfl
          | some a =>
            show (if nI s = nI 1 then some (-a, S) else some (a, S)) = some (if s = 1 then -a else a, S)
            by_cases e : s = 1
            · rw [if_pos e, if_pos (by rw [e])]
            · rw [if_neg e, if_neg (by rw [nI_eq (by omega) (by omega)]; exact e)]
  unfold f_X2_numberTold g_cVL
  rw [g_ck_t h.1, numberAt_eq h hi, Option.bind_some]
  dsimp only [g_lt, g_jn, g_cVI]
  rw [t1, lN_i, g_ck_t h.1, show (1 : Int32) = nI 1 from rfl, show (18 : Int32) = nI 18 from rfl, show (0 : Int32) = nI 0 from rfl]
  by_cases hz : T.length = 0
  · rw [if_pos (show nI T.length ≤ nI 0 by rw [hz]; decide)]
    refine key 0 ?_
    have : T = [] := List.length_eq_zero_iff.mp hz
    subst this
    rfl
  · rw [if_neg (show ¬ nI T.length ≤ nI 0 by rw [nI_leI (by omega) (by omega)]; omega), letterAt_eq h hi (by omega), Option.bind_some]
    dsimp only
    rw [t4 0 (by omega), show (45 : Int32) = nI 45 from rfl]
    have hc : T.getD 0 0 < 256 := by rw [← t4 0 (by omega)]; exact lt8_lt _ _
    by_cases e : T.getD 0 0 = 45
    · rw [if_pos (show nI (T.getD 0 0) = nI 45 by rw [e])]
      exact key 1 (by unfold mSt; rw [if_pos e])
    · rw [if_neg (show ¬ nI (T.getD 0 0) = nI 45 by rw [nI_eq (by omega) (by omega)]; exact e)]
      exact key 0 (by unfold mSt; rw [if_neg e])
