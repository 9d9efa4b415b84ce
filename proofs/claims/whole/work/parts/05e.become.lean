/-! ===== what a value becomes ===== -/
def mClamp (lo hi v : Int64) : Int64 := if v < lo then lo else if hi < v then hi else v
theorem mClamp_eq {lo hi v : Int64} (h : lo ≤ hi) : (if (if v < hi then v else hi) < lo then lo else (if v < hi then v else hi)) = mClamp lo hi v := by
  unfold mClamp
  by_cases h1 : v < hi
  · have h3 : ¬ hi < v := fun h2 => Int64.lt_irrefl (Int64.lt_trans h1 h2)
    rw [if_pos h1, if_neg h3]
  · rw [if_neg h1]
    have h2 : ¬ hi < lo := Int64.not_lt.mpr h
    rw [if_neg h2]
    have hv : hi ≤ v := Int64.not_lt.mp h1
    have h3 : ¬ v < lo := Int64.not_lt.mpr (Int64.le_trans h hv)
    rw [if_neg h3]
    by_cases h4 : hi < v
    · rw [if_pos h4]
    · rw [if_neg h4]
      exact Int64.le_antisymm hv (Int64.not_lt.mp h4)
/-- the number that is meant by a value of a type -/
def mVal (t : Int32) (x : mV) : Int64 := if t = 4 then mNum x.2 else x.1
def mPut (t : Int32) (v : Int64) : mV := if t = 0 then (if v = 0 then 0 else 1, []) else if t = 1 then (mClamp (-32768) 32767 v, []) else if t = 2 then (mClamp (-2147483648) 2147483647 v, []) else if t = 3 then (v, []) else (0, mDig v)
def mBec (tf tt : Int32) (x : mV) : mV := mPut tt (mVal tf x)
theorem mPut0 {v : Int64} : mPut 0 v = (if v = 0 then 0 else 1, []) := if_pos rfl
theorem mPut1 {v : Int64} : mPut 1 v = (mClamp (-32768) 32767 v, []) := by unfold mPut; rw [if_neg (by decide), if_pos rfl]
theorem mPut2 {v : Int64} : mPut 2 v = (mClamp (-2147483648) 2147483647 v, []) := by unfold mPut; rw [if_neg (by decide), if_neg (by decide), if_pos rfl]
theorem mPut3 {v : Int64} : mPut 3 v = (v, []) := by unfold mPut; rw [if_neg (by decide), if_neg (by decide), if_neg (by decide), if_pos rfl]
theorem mPut4 {v : Int64} : mPut 4 v = (0, mDig v) := by unfold mPut; rw [if_neg (by decide), if_neg (by decide), if_neg (by decide), if_neg (by decide)]
theorem cmp_le0 (x y : Int64) : (lg_cmp x y ≤ 0) ↔ x ≤ y := lg_cmp_le x y
theorem p10 {k : Nat} (h : k ≤ 18) : 10 ^ k < 2 ^ 63 := Nat.lt_of_le_of_lt (Nat.pow_le_pow_right (by decide) h) (by decide)
/-- the power while k digits are left -/
def pwD : Nat → Int64
  | 0 => 0
  | k + 1 => lN (10 ^ k)
theorem pwD_step {k : Nat} (h : k ≤ 18) : pwD (k + 1) / (10 : Int64) = pwD k := by
  show lN (10 ^ k) / lN 10 = pwD k
  rw [pk_lDiv (p10 h) (by decide) (by decide)]
  cases k with
  | zero => rfl
  | succ k =>
    show lN (10 ^ (k + 1) / 10) = lN (10 ^ k)
    rw [Nat.pow_succ, Nat.mul_div_cancel _ (by decide)]
theorem setDigits_loop {f w i : Nat} (hi : i < 8) (v : Int64) : ∀ (k n : Nat) (S : gS) (T : List Nat) (ah : Bool), k ≤ 19 → k < n → FormAt S f w → TxW (gaL S w) i T → T.length + k ≤ 24 →
    FOp S w i (l_X2_setDigits_27 f (nI i) v n S (if ah = true then 1 else 0) (pwD k)) (fun w1 => TxW w1 i (T ++ dgL k v.toInt.natAbs ah)) := by
  intro k
  induction k with
  | zero =>
    intro n S T ah hk hn h hT hl
    obtain ⟨n, rfl⟩ : ∃ m, n = m + 1 := ⟨n - 1, by omega⟩
    rw [l_X2_setDigits_27, if_pos (show lg_cmp (pwD 0) 0 ≤ 0 from (cmp_le0 _ _).mpr (Int64.le_refl _))]
    refine ⟨gaL S w, by rw [g_rL_id], fun _ _ => rfl, ?_⟩
    rw [show T ++ dgL 0 v.toInt.natAbs ah = T from List.append_nil T]
    exact hT
  | succ k ih =>
    intro n S T ah hk hn h hT hl
    obtain ⟨n, rfl⟩ : ∃ m, n = m + 1 := ⟨n - 1, by omega⟩
    have hp := p10 (show k ≤ 18 by omega)
    have hp0 : 0 < 10 ^ k := Nat.pow_pos (by decide)
    have hgt : ¬ pwD (k + 1) ≤ 0 := by
      show ¬ lN (10 ^ k) ≤ lN 0
      rw [pk_lLE hp (by decide)]
      omega
    have hnz : ¬ pwD (k + 1) = 0 := fun e => hgt (by rw [e]; exact Int64.le_refl _)
    rw [l_X2_setDigits_27, if_neg (fun q => hgt ((cmp_le0 _ _).mp q))]
    unfold g_nzL
    rw [if_neg hnz]
    dsimp only [g_lt, g_jn, g_cVV]
    rw [pwD_step (by omega), l_digit v hp0 hp (v / pwD (k + 1)) rfl]
    have hd : v.toInt.natAbs / 10 ^ k % 10 < 10 := Nat.mod_lt _ (by decide)
    have h1 : (lg_cmp (pwD (k + 1)) 1 ≤ 0) ↔ k = 0 := by
      rw [cmp_le0]
      show lN (10 ^ k) ≤ lN 1 ↔ _
      rw [pk_lLE hp (by decide)]
      cases k with
      | zero => simp
      | succ k =>
        have : 1 < 10 ^ (k + 1) := Nat.one_lt_pow (by omega) (by decide)
        omega
    have app : FOp S w i ((g_ck S 2 f ((f_X2_appendLetter S f (nI i) ((48 : Int32) + nI (v.toInt.natAbs / 10 ^ k % 10))).bind fun S12 => l_X2_setDigits_27 f (nI i) v n S12 0 (pwD k)))) (fun w1 => TxW w1 i (T ++ ((v.toInt.natAbs / 10 ^ k % 10 + 48) :: dgL k v.toInt.natAbs false))) := by
      rw [g_ck_t h.1, show (48 : Int32) = nI 48 from rfl, nI_add, Nat.add_comm 48]
      refine FOp.bind (appendLetter_eq h hi hT (by omega) ⟨by omega, by omega⟩) fun w1 hw1 ho => ?_
      have := ih n (g_rL S w w1) (T ++ [v.toInt.natAbs / 10 ^ k % 10 + 48]) false (by omega) (by omega) h (by rw [q_rL_aL, g_row_s]; exact hw1) (by simp only [List.length_append, List.length_singleton]; omega)
      rw [List.append_assoc] at this
      exact this
    conv => rhs; unfold dgL
    by_cases ha : ah = true
    · subst ha
      rw [if_pos rfl, if_neg (show ¬ (1 : Int32) = 0 by decide)]
      by_cases hz : v.toInt.natAbs / 10 ^ k % 10 = 0
      · rw [if_pos (show nI (v.toInt.natAbs / 10 ^ k % 10) = 0 by rw [hz]; rfl)]
        by_cases hk0 : k = 0
        · rw [if_pos (h1.mpr hk0), if_pos rfl, if_neg (show ¬ (true = true ∧ v.toInt.natAbs / 10 ^ k % 10 = 0 ∧ 0 < k) by omega)]
          exact app
        · rw [if_neg (fun q => hk0 (h1.mp q)), if_neg (show ¬ (1 : Int32) = 0 by decide), if_pos ⟨rfl, hz, by omega⟩]
          have := ih n S T true (by omega) (by omega) h hT (by omega)
          rw [if_pos rfl] at this
          exact this
      · rw [if_neg (show ¬ nI (v.toInt.natAbs / 10 ^ k % 10) = 0 from fun q => hz ((nI_eq0 (by omega)).mp q)), if_pos rfl, if_neg (fun q => hz q.2.1)]
        exact app
    · rw [if_neg ha, if_pos rfl, if_pos rfl, if_neg (fun q => ha q.1)]
      exact app
theorem setDigits_eq {S : gS} {f w i : Nat} {v : Int64} (h : FormAt S f w) (hi : i < 8) : FOp S w i (f_X2_setDigits S f (nI i) v) (fun w1 => TxW w1 i (mDig v)) := by
  unfold f_X2_setDigits g_cVV
  rw [g_ck_t h.1]
  refine FOp.bind (setNumber_F h hi) fun w1 hw1 _ => ?_
  obtain ⟨-, w0, rfl⟩ := hw1
  dsimp only [g_jn]
  rw [q_rL_ck, g_ck_t h.1]
  have hT : TxW (gaL (g_rL S w (W_set w0 i 0)) w) i [] := by rw [q_rL_aL, g_row_s]; exact TxW.nil
  generalize hS1 : g_rL S w (W_set w0 i 0) = S1 at hT ⊢
  have h1 : FormAt S1 f w := by rw [← hS1]; exact h
  have hpw : (1000000000000000000 : Int64) = pwD 19 := by decide
  rw [hpw]
  have hc : (0 ≤ lg_cmp v 0) ↔ ¬ v < 0 := by rw [lg_cmp_ge, Int64.not_lt]
  unfold mDig
  by_cases hv : v < 0
  · rw [if_neg (fun q => hc.mp q hv), if_pos hv, show (45 : Int32) = nI 45 from rfl]
    refine FOp.bind (appendLetter_eq h1 hi hT (by decide) ⟨by decide, by decide⟩) fun w2 hw2 _ => ?_
    exact setDigits_loop hi v 19 100 (g_rL S1 w w2) [45] true (by decide) (by decide) h1 (by rw [q_rL_aL, g_row_s]; exact hw2) (by decide)
  · rw [if_pos (hc.mpr hv), if_neg hv]
    exact setDigits_loop hi v 19 100 S1 [] true (by decide) (by decide) h1 hT (by decide)
theorem mDig_len (v : Int64) : (mDig v).length ≤ 20 := by
  unfold mDig
  have := dgL_len 19 v.toInt.natAbs true
  rw [List.length_append]
  by_cases h : v < 0 <;> simp [h] <;> omega
theorem cmp_eq0 (x y : Int64) : (lg_cmp x y = 0) ↔ x = y := by
  unfold lg_cmp
  by_cases h1 : x > y
  · rw [if_pos h1]
    exact ⟨fun h => absurd h (by decide), fun h => by subst h; exact absurd h1 (Int64.lt_irrefl)⟩
  · rw [if_neg h1]
    by_cases h2 : x = y
    · rw [if_pos h2]; exact ⟨fun _ => h2, fun _ => rfl⟩
    · rw [if_neg h2]; exact ⟨fun h => absurd h (by decide), fun h => absurd h h2⟩
theorem become_eq {S : gS} {f w i : Nat} {tf tt : Int32} {x : mV} (h : FormAt S f w) (hi : i < 8) (hx : CVw tf (gaL S w) i x) (ht : tt = 0 ∨ tt = 1 ∨ tt = 2 ∨ tt = 3 ∨ tt = 4) : FOp S w i (f_X2_become S f (nI i) tf tt) (fun w1 => CVw tt w1 i (mBec tf tt x)) := by
  unfold f_X2_become
  dsimp only [g_jn, g_cVL, g_cVV]
  unfold CVw at hx
  unfold mBec mVal
  have key : ∀ v : Int64, FOp S w i (if tt = (0 : Int32) then (if (lg_cmp v (0 : Int64)) = 0 then g_ck S 2 f ((f_X2_setNumber S f (nI i) 0).bind fun S10 => some S10) else g_ck S 2 f ((f_X2_setNumber S f (nI i) 1).bind fun S10 => some S10)) else if tt = (1 : Int32) then g_ck S 2 f ((f_X2_setNumber S f (nI i) (if (if v < (32767 : Int64) then v else (32767 : Int64)) < (-32768 : Int64) then (-32768 : Int64) else (if v < (32767 : Int64) then v else (32767 : Int64)))).bind fun S12 => some S12) else if tt = (2 : Int32) then g_ck S 2 f ((f_X2_setNumber S f (nI i) (if (if v < (2147483647 : Int64) then v else (2147483647 : Int64)) < (-2147483648 : Int64) then (-2147483648 : Int64) else (if v < (2147483647 : Int64) then v else (2147483647 : Int64)))).bind fun S14 => some S14) else if tt = (3 : Int32) then g_ck S 2 f ((f_X2_setNumber S f (nI i) v).bind fun S16 => some S16) else g_ck S 2 f ((f_X2_setDigits S f (nI i) v).bind fun S17 => some S17)) (fun w1 => CVw tt w1 i (mPut tt v)) := by
    intro v
    simp only [g_ck_t h.1]
    rcases ht with rfl | rfl | rfl | rfl | rfl
    · rw [if_pos rfl, mPut0]
      by_cases hv : v = 0
      · rw [if_pos ((cmp_eq0 _ _).mpr hv), if_pos hv]
        exact setNumber_CV _ h hi (by decide)
      · rw [if_neg (fun q => hv ((cmp_eq0 _ _).mp q)), if_neg hv]
        exact setNumber_CV _ h hi (by decide)
    · rw [if_neg (by decide), if_pos rfl, mPut1, mClamp_eq (by decide)]
      exact setNumber_CV _ h hi (by decide)
    · rw [if_neg (by decide), if_neg (by decide), if_pos rfl, mPut2, mClamp_eq (by decide)]
      exact setNumber_CV _ h hi (by decide)
    · rw [if_neg (by decide), if_neg (by decide), if_neg (by decide), if_pos rfl, mPut3]
      exact setNumber_CV _ h hi (by decide)
    · rw [if_neg (by decide), if_neg (by decide), if_neg (by decide), if_neg (by decide), mPut4]
      refine (FOp.id2 ?_)
      refine (setDigits_eq h hi).mono fun w1 _ q => ?_
      unfold CVw
      rw [if_pos rfl]
      exact q
  by_cases h4 : tf = 4
  · rw [if_pos h4] at hx ⊢
    rw [if_pos h4, g_ck_t h.1, numberTold_eq h hi hx, Option.bind_some]
    exact key (mNum x.2)
  · rw [if_neg h4] at hx ⊢
    rw [if_neg h4, g_ck_t h.1, numberAt_eq h hi, Option.bind_some, hx]
    exact key x.1
