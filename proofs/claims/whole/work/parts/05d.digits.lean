/-! ===== the decimal digits of a long ===== -/
/-- k digits of n, the highest first; while ah holds a 0 is left out, but for the last -/
def dgL : Nat → Nat → Bool → List Nat
  | 0, _, _ => []
  | k + 1, n, ah => if ah = true ∧ n / 10 ^ k % 10 = 0 ∧ 0 < k then dgL k n true else (n / 10 ^ k % 10 + 48) :: dgL k n false
def mDig (v : Int64) : List Nat := (if v < 0 then [45] else []) ++ dgL 19 v.toInt.natAbs true
theorem dgL_len : ∀ k n ah, (dgL k n ah).length ≤ k := by
  intro k
  induction k with
  | zero => intro n ah; exact Nat.le_refl _
  | succ k ih =>
    intro n ah
    unfold dgL
    split
    · exact Nat.le_succ_of_le (ih n true)
    · exact Nat.succ_le_succ (ih n false)
theorem dgL_ok : ∀ k n ah, ∀ c ∈ dgL k n ah, 0 < c ∧ c < 256 := by
  intro k
  induction k with
  | zero => intro n ah c h; cases h
  | succ k ih =>
    intro n ah c h
    unfold dgL at h
    split at h
    · exact ih n true c h
    · rcases List.mem_cons.mp h with rfl | h
      · omega
      · exact ih n false c h
/-- fixed width -/
theorem dgL_snoc : ∀ k n, dgL (k + 1) n false = dgL k (n / 10) false ++ [n % 10 + 48] := by
  intro k
  induction k with
  | zero =>
    intro n
    simp [dgL]
  | succ k ih =>
    intro n
    have e1 : dgL (k + 2) n false = (n / 10 ^ (k + 1) % 10 + 48) :: dgL (k + 1) n false := by
      conv => lhs; unfold dgL
      rw [if_neg (by simp)]
    have e2 : dgL (k + 1) (n / 10) false = (n / 10 / 10 ^ k % 10 + 48) :: dgL k (n / 10) false := by
      conv => lhs; unfold dgL
      rw [if_neg (by simp)]
    rw [e1, e2, ih n, Nat.div_div_eq_div_mul, Nat.pow_succ, Nat.mul_comm 10]
    rfl
/-- the lowest digit first, as long as there is one -/
def rvD : Nat → Nat → List Nat
  | 0, _ => []
  | k + 1, n => if n < 10 then [n + 48] else (n % 10 + 48) :: rvD k (n / 10)
theorem rvD_full : ∀ k n, 10 ^ k ≤ n → n < 10 ^ (k + 1) → ∀ m, k < m → (rvD m n).reverse = dgL (k + 1) n false := by
  intro k
  induction k with
  | zero =>
    intro n h1 h2 m hm
    obtain ⟨m, rfl⟩ : ∃ q, m = q + 1 := ⟨m - 1, by omega⟩
    unfold rvD
    rw [if_pos (by simpa using h2)]
    have : n % 10 = n := Nat.mod_eq_of_lt (by simpa using h2)
    simp [dgL, this]
  | succ k ih =>
    intro n h1 h2 m hm
    obtain ⟨m, rfl⟩ : ∃ q, m = q + 1 := ⟨m - 1, by omega⟩
    have h10 : 10 ≤ n := Nat.le_trans (by rw [Nat.pow_succ]; exact Nat.le_mul_of_pos_left 10 (Nat.pow_pos (by decide))) h1
    unfold rvD
    rw [if_neg (by omega), List.reverse_cons, ih (n / 10) ?_ ?_ m (by omega), ← dgL_snoc]
    · rw [Nat.le_div_iff_mul_le (by decide), ← Nat.pow_succ]; exact h1
    · rw [Nat.div_lt_iff_lt_mul (by decide), ← Nat.pow_succ]; exact h2
theorem rvD_eq : ∀ k n, n < 10 ^ (k + 1) → ∀ m, k < m → (rvD m n).reverse = dgL (k + 1) n true := by
  intro k
  induction k with
  | zero =>
    intro n h m hm
    obtain ⟨m, rfl⟩ : ∃ q, m = q + 1 := ⟨m - 1, by omega⟩
    have h2 : n < 10 := by simpa using h
    unfold rvD
    rw [if_pos h2]
    have : n % 10 = n := Nat.mod_eq_of_lt h2
    simp [dgL, this]
  | succ k ih =>
    intro n h m hm
    by_cases hs : n < 10 ^ (k + 1)
    · rw [ih n hs m (by omega)]
      conv => rhs; unfold dgL
      rw [if_pos ⟨rfl, by rw [Nat.div_eq_of_lt hs], by omega⟩]
    · have hs : 10 ^ (k + 1) ≤ n := by omega
      rw [rvD_full (k + 1) n hs h m hm]
      have hd : n / 10 ^ (k + 1) % 10 ≠ 0 := by
        have h1 : 1 ≤ n / 10 ^ (k + 1) := by
          rw [Nat.le_div_iff_mul_le (Nat.pow_pos (by decide))]; omega
        have h2 : n / 10 ^ (k + 1) < 10 := by
          rw [Nat.div_lt_iff_lt_mul (Nat.pow_pos (by decide)), Nat.mul_comm, ← Nat.pow_succ]; exact h
        omega
      conv => lhs; unfold dgL
      conv => rhs; unfold dgL
      rw [if_neg (by simp), if_neg (fun q => hd q.2.1)]
/-! ===== longs and their numbers ===== -/
theorem l_min (v : Int64) : -9223372036854775808 ≤ v.toInt ∧ v.toInt ≤ 9223372036854775807 := ⟨v.minValue_le_toInt, v.toInt_le⟩
theorem l_abs (v : Int64) : v.toInt.natAbs < 10 ^ 19 := by
  have := l_min v
  omega
theorem l_lt0 (v : Int64) : v < 0 ↔ v.toInt < 0 := by rw [Int64.lt_iff_toInt_lt]; rfl
theorem l_div (v : Int64) {p : Nat} (h0 : 0 < p) (hp : p < 2 ^ 63) : (v / lN p).toInt = v.toInt.tdiv p := by
  have h1 := l_min v
  have hq : (lN p).toInt = (p : Int) := pk_lT hp
  rw [Int64.toInt_div, hq]
  have h2 : (v.toInt.tdiv p).natAbs ≤ v.toInt.natAbs := by
    rw [Int.natAbs_tdiv]
    exact Nat.div_le_self _ _
  have h3 : v.toInt.tdiv p ≤ 9223372036854775807 := by
    by_cases hn : v.toInt ≤ 0
    · have h4 : 0 ≤ (-v.toInt).tdiv p := Int.tdiv_nonneg (by omega) (by omega)
      rw [Int.neg_tdiv] at h4
      omega
    · omega
  apply Int.bmod_eq_of_le
  · omega
  · omega
theorem l_digit (v : Int64) {p : Nat} (h0 : 0 < p) (hp : p < 2 ^ 63) (q : Int64) (hq : q = v / lN p) :
    (if 0 < q - q / (10 : Int64) * (10 : Int64) then q - q / (10 : Int64) * (10 : Int64) else -(q - q / (10 : Int64) * (10 : Int64))).toInt32 = nI (v.toInt.natAbs / p % 10) := by
  have e1 : q.toInt = v.toInt.tdiv p := by rw [hq]; exact l_div v h0 hp
  have e2 : (q / (10 : Int64)).toInt = q.toInt.tdiv 10 := l_div q (p := 10) (by decide) (by decide)
  have hb := l_min q
  have e3 : (q / (10 : Int64) * (10 : Int64)).toInt = q.toInt.tdiv 10 * 10 := by
    rw [Int64.toInt_mul, e2]
    have : (10 : Int64).toInt = 10 := rfl
    rw [this]
    have h2 : (q.toInt.tdiv 10).natAbs = q.toInt.natAbs / 10 := Int.natAbs_tdiv q.toInt 10
    apply Int.bmod_eq_of_le <;> omega
  have e4 : (q - q / (10 : Int64) * (10 : Int64)).toInt = q.toInt.tmod 10 := by
    rw [Int64.toInt_sub, e3]
    have h1 := Int.mul_tdiv_add_tmod q.toInt 10
    have h2 := Int.natAbs_tmod q.toInt 10
    have h3 : q.toInt - q.toInt.tdiv 10 * 10 = q.toInt.tmod 10 := by omega
    rw [h3]
    have h4 : (q.toInt.tmod 10).natAbs < 10 := by rw [Int.natAbs_tmod]; exact Nat.mod_lt _ (by decide)
    apply Int.bmod_eq_of_le <;> omega
  generalize q - q / (10 : Int64) * (10 : Int64) = r at e4 ⊢
  have h4 : r.toInt.natAbs = v.toInt.natAbs / p % 10 := by
    rw [e4, Int.natAbs_tmod, e1, Int.natAbs_tdiv]
    rfl
  have h5 : v.toInt.natAbs / p % 10 < 10 := Nat.mod_lt _ (by decide)
  have h6 : (if 0 < r then r else -r) = lN (v.toInt.natAbs / p % 10) := by
    apply Int64.toInt_inj.mp
    rw [pk_lT (by omega), ← h4]
    by_cases hr : 0 < r
    · rw [if_pos hr]
      have : 0 < r.toInt := by rw [Int64.lt_iff_toInt_lt] at hr; exact hr
      omega
    · rw [if_neg hr, Int64.toInt_neg]
      have : ¬ 0 < r.toInt := fun z => hr (by rw [Int64.lt_iff_toInt_lt]; exact z)
      rw [Int.bmod_eq_of_le] <;> omega
  rw [h6, lN_i]
