/-! ===== rows of the wb_ family, pasted; then what an update leaves as it was ===== -/
theorem wb_tb (n : Nat) : (lN n).toBitVec = BitVec.ofNat 64 n := rfl
theorem wb_inj {a b : Int64} (h : a.toBitVec = b.toBitVec) : a = b := Int64.toBitVec_inj.mp h
theorem wb_tn {n : Nat} (h : n < 2 ^ 64) : (lN n).toBitVec.toNat = n := by rw [wb_tb, BitVec.toNat_ofNat, Nat.mod_eq_of_lt h]
theorem wb_of (x : Int64) : ∃ n, n < 2 ^ 64 ∧ x = lN n := ⟨x.toBitVec.toNat, x.toBitVec.isLt, wb_inj (by rw [wb_tb]; simp)⟩
theorem wb_of32 (x : Int32) : ∃ n, n < 2 ^ 32 ∧ x = nI n := ⟨x.toBitVec.toNat, x.toBitVec.isLt, Int32.toBitVec_inj.mp (by show _ = BitVec.ofNat 32 _; simp)⟩
theorem wb_c : ∀ k, k < 64 → ((nI k).toInt64 &&& 63) = lN k := by decide +kernel
theorem wb_cu : ∀ k, k < 64 → ((nI k).toInt64.toUInt64 &&& Int64.toUInt64 63) = UInt64.ofNat k := by decide +kernel
theorem wb_sm : ∀ k, k < 64 → (BitVec.ofNat 64 k).smod 64 = BitVec.ofNat 64 k := by decide +kernel
theorem wb_pw {a b : Nat} (h : a ≤ b) : 2 ^ b = 2 ^ a * 2 ^ (b - a) := by rw [← Nat.pow_add]; congr 1; omega
theorem wb_lt2 {a b : Nat} (h : a < b) : 2 ^ a < 2 ^ b := Nat.pow_lt_pow_right (by decide) h
theorem wb_mod (n : Nat) : lN n = lN (n % 2 ^ 64) := wb_inj (by rw [wb_tb, wb_tb]; apply BitVec.eq_of_toNat_eq; rw [BitVec.toNat_ofNat, BitVec.toNat_ofNat, Nat.mod_mod])
theorem wb_shr {n k : Nat} (hn : n < 2 ^ 64) (hk : k < 64) : ((lN n).toUInt64 >>> ((nI k).toInt64.toUInt64 &&& Int64.toUInt64 63)).toInt64 = lN (n / 2 ^ k) := by
  rw [wb_cu k hk]
  apply wb_inj
  apply BitVec.eq_of_toNat_eq
  show ((lN n).toUInt64 >>> UInt64.ofNat k).toNat = (BitVec.ofNat 64 _).toNat
  have h1 : (UInt64.ofNat k).toNat = k := by
    show (BitVec.ofNat 64 k).toNat = k
    rw [BitVec.toNat_ofNat, Nat.mod_eq_of_lt (by omega)]
  have h2 : (lN n).toUInt64.toNat = n := wb_tn hn
  rw [UInt64.toNat_shiftRight, h1, h2, Nat.mod_eq_of_lt hk, Nat.shiftRight_eq_div_pow, BitVec.toNat_ofNat, Nat.mod_eq_of_lt (Nat.lt_of_le_of_lt (Nat.div_le_self _ _) hn)]
theorem wb_shl (n : Nat) {k : Nat} (hk : k < 64) : lN n <<< ((nI k).toInt64 &&& 63) = lN (n * 2 ^ k) := by
  rw [wb_c k hk]
  apply wb_inj
  rw [Int64.toBitVec_shiftLeft, wb_tb, wb_tb, wb_tb, wb_sm k hk]
  apply BitVec.eq_of_toNat_eq
  rw [BitVec.shiftLeft_eq', BitVec.toNat_shiftLeft, BitVec.toNat_ofNat, BitVec.toNat_ofNat, BitVec.toNat_ofNat, Nat.mod_eq_of_lt (show k < 2 ^ 64 by omega), Nat.shiftLeft_eq, Nat.mul_mod, Nat.mod_mod, ← Nat.mul_mod]
theorem wb_and {a b : Nat} (ha : a < 2 ^ 64) (hb : b < 2 ^ 64) : lN a &&& lN b = lN (a &&& b) := by
  apply wb_inj
  rw [Int64.toBitVec_and, wb_tb, wb_tb, wb_tb]
  apply BitVec.eq_of_toNat_eq
  rw [BitVec.toNat_and, BitVec.toNat_ofNat, BitVec.toNat_ofNat, BitVec.toNat_ofNat, Nat.mod_eq_of_lt ha, Nat.mod_eq_of_lt hb, Nat.mod_eq_of_lt (Nat.and_lt_two_pow _ hb)]
theorem wb_or {a b : Nat} (ha : a < 2 ^ 64) (hb : b < 2 ^ 64) : lN a ||| lN b = lN (a ||| b) := by
  apply wb_inj
  rw [Int64.toBitVec_or, wb_tb, wb_tb, wb_tb]
  apply BitVec.eq_of_toNat_eq
  rw [BitVec.toNat_or, BitVec.toNat_ofNat, BitVec.toNat_ofNat, BitVec.toNat_ofNat, Nat.mod_eq_of_lt ha, Nat.mod_eq_of_lt hb, Nat.mod_eq_of_lt (Nat.or_lt_two_pow ha hb)]
theorem wb_mask {n k : Nat} (hn : n < 2 ^ 64) (hk : k < 64) : lN n &&& lN (2 ^ k - 1) = lN (n % 2 ^ k) := by
  rw [wb_and hn (by have := wb_lt2 hk; omega), Nat.and_two_pow_sub_one_eq_mod]
theorem wb_a1 {n : Nat} (hn : n < 2 ^ 64) : lN n &&& 1 = lN (n % 2) := wb_mask (k := 1) hn (by decide)
theorem wb_bit {n k : Nat} (hn : n < 2 ^ 64) (hk : k < 64) : ((lN n).toUInt64 >>> ((nI k).toInt64.toUInt64 &&& Int64.toUInt64 63)).toInt64 &&& 1 = lN (n / 2 ^ k % 2) := by
  rw [wb_shr hn hk, wb_a1 (Nat.lt_of_le_of_lt (Nat.div_le_self _ _) hn)]
theorem q_pI_fI (S : gS) (f a : Nat) (v : Int32) : gfI (g_pI S f a v) = g_up (gfI S) f a v := rfl
theorem q_pI_fL (S : gS) (f a : Nat) (v : Int32) : gfL (g_pI S f a v) = gfL S := rfl
theorem q_pI_fR (S : gS) (f a : Nat) (v : Int32) : gfR (g_pI S f a v) = gfR S := rfl
theorem q_pI_aI (S : gS) (f a : Nat) (v : Int32) : gaI (g_pI S f a v) = gaI S := rfl
theorem q_pI_aL (S : gS) (f a : Nat) (v : Int32) : gaL (g_pI S f a v) = gaL S := rfl
theorem q_pI_aR (S : gS) (f a : Nat) (v : Int32) : gaR (g_pI S f a v) = gaR S := rfl
theorem q_pI_K (S : gS) (f a : Nat) (v : Int32) : gK (g_pI S f a v) = gK S := rfl
theorem q_pI_ln (S : gS) (f a : Nat) (v : Int32) : gln (g_pI S f a v) = gln S := rfl
theorem q_pI_n (S : gS) (f a : Nat) (v : Int32) : gn (g_pI S f a v) = gn S := rfl
theorem q_pI_sl (S : gS) (f a : Nat) (v : Int32) : gsl (g_pI S f a v) = gsl S := rfl
theorem q_pI_is (S : gS) (f a : Nat) (v : Int32) (ci x : Nat) : g_is (g_pI S f a v) ci x = g_is S ci x := rfl
theorem q_pI_ck {α : Type} (S : gS) (f a : Nat) (v : Int32) (ci x : Nat) (o : Option α) : g_ck (g_pI S f a v) ci x o = g_ck S ci x o := rfl
theorem q_pL_fI (S : gS) (f a : Nat) (v : Int64) : gfI (g_pL S f a v) = gfI S := rfl
theorem q_pL_fL (S : gS) (f a : Nat) (v : Int64) : gfL (g_pL S f a v) = g_up (gfL S) f a v := rfl
theorem q_pL_fR (S : gS) (f a : Nat) (v : Int64) : gfR (g_pL S f a v) = gfR S := rfl
theorem q_pL_aI (S : gS) (f a : Nat) (v : Int64) : gaI (g_pL S f a v) = gaI S := rfl
theorem q_pL_aL (S : gS) (f a : Nat) (v : Int64) : gaL (g_pL S f a v) = gaL S := rfl
theorem q_pL_aR (S : gS) (f a : Nat) (v : Int64) : gaR (g_pL S f a v) = gaR S := rfl
theorem q_pL_K (S : gS) (f a : Nat) (v : Int64) : gK (g_pL S f a v) = gK S := rfl
theorem q_pL_ln (S : gS) (f a : Nat) (v : Int64) : gln (g_pL S f a v) = gln S := rfl
theorem q_pL_n (S : gS) (f a : Nat) (v : Int64) : gn (g_pL S f a v) = gn S := rfl
theorem q_pL_sl (S : gS) (f a : Nat) (v : Int64) : gsl (g_pL S f a v) = gsl S := rfl
theorem q_pL_is (S : gS) (f a : Nat) (v : Int64) (ci x : Nat) : g_is (g_pL S f a v) ci x = g_is S ci x := rfl
theorem q_pL_ck {α : Type} (S : gS) (f a : Nat) (v : Int64) (ci x : Nat) (o : Option α) : g_ck (g_pL S f a v) ci x o = g_ck S ci x o := rfl
theorem q_pR_fI (S : gS) (f a : Nat) (v : Option Nat) : gfI (g_pR S f a v) = gfI S := rfl
theorem q_pR_fL (S : gS) (f a : Nat) (v : Option Nat) : gfL (g_pR S f a v) = gfL S := rfl
theorem q_pR_fR (S : gS) (f a : Nat) (v : Option Nat) : gfR (g_pR S f a v) = g_up (gfR S) f a v := rfl
theorem q_pR_aI (S : gS) (f a : Nat) (v : Option Nat) : gaI (g_pR S f a v) = gaI S := rfl
theorem q_pR_aL (S : gS) (f a : Nat) (v : Option Nat) : gaL (g_pR S f a v) = gaL S := rfl
theorem q_pR_aR (S : gS) (f a : Nat) (v : Option Nat) : gaR (g_pR S f a v) = gaR S := rfl
theorem q_pR_K (S : gS) (f a : Nat) (v : Option Nat) : gK (g_pR S f a v) = gK S := rfl
theorem q_pR_ln (S : gS) (f a : Nat) (v : Option Nat) : gln (g_pR S f a v) = gln S := rfl
theorem q_pR_n (S : gS) (f a : Nat) (v : Option Nat) : gn (g_pR S f a v) = gn S := rfl
theorem q_pR_sl (S : gS) (f a : Nat) (v : Option Nat) : gsl (g_pR S f a v) = gsl S := rfl
theorem q_pR_is (S : gS) (f a : Nat) (v : Option Nat) (ci x : Nat) : g_is (g_pR S f a v) ci x = g_is S ci x := rfl
theorem q_pR_ck {α : Type} (S : gS) (f a : Nat) (v : Option Nat) (ci x : Nat) (o : Option α) : g_ck (g_pR S f a v) ci x o = g_ck S ci x o := rfl
theorem q_rI_fI (S : gS) (a : Nat) (r : Nat → Int32) : gfI (g_rI S a r) = gfI S := rfl
theorem q_rI_fL (S : gS) (a : Nat) (r : Nat → Int32) : gfL (g_rI S a r) = gfL S := rfl
theorem q_rI_fR (S : gS) (a : Nat) (r : Nat → Int32) : gfR (g_rI S a r) = gfR S := rfl
theorem q_rI_aI (S : gS) (a : Nat) (r : Nat → Int32) : gaI (g_rI S a r) = g_row (gaI S) a r := rfl
theorem q_rI_aL (S : gS) (a : Nat) (r : Nat → Int32) : gaL (g_rI S a r) = gaL S := rfl
theorem q_rI_aR (S : gS) (a : Nat) (r : Nat → Int32) : gaR (g_rI S a r) = gaR S := rfl
theorem q_rI_K (S : gS) (a : Nat) (r : Nat → Int32) : gK (g_rI S a r) = gK S := rfl
theorem q_rI_ln (S : gS) (a : Nat) (r : Nat → Int32) : gln (g_rI S a r) = gln S := rfl
theorem q_rI_n (S : gS) (a : Nat) (r : Nat → Int32) : gn (g_rI S a r) = gn S := rfl
theorem q_rI_sl (S : gS) (a : Nat) (r : Nat → Int32) : gsl (g_rI S a r) = gsl S := rfl
theorem q_rI_is (S : gS) (a : Nat) (r : Nat → Int32) (ci x : Nat) : g_is (g_rI S a r) ci x = g_is S ci x := rfl
theorem q_rI_ck {α : Type} (S : gS) (a : Nat) (r : Nat → Int32) (ci x : Nat) (o : Option α) : g_ck (g_rI S a r) ci x o = g_ck S ci x o := rfl
theorem q_rL_fI (S : gS) (a : Nat) (r : Nat → Int64) : gfI (g_rL S a r) = gfI S := rfl
theorem q_rL_fL (S : gS) (a : Nat) (r : Nat → Int64) : gfL (g_rL S a r) = gfL S := rfl
theorem q_rL_fR (S : gS) (a : Nat) (r : Nat → Int64) : gfR (g_rL S a r) = gfR S := rfl
theorem q_rL_aI (S : gS) (a : Nat) (r : Nat → Int64) : gaI (g_rL S a r) = gaI S := rfl
theorem q_rL_aL (S : gS) (a : Nat) (r : Nat → Int64) : gaL (g_rL S a r) = g_row (gaL S) a r := rfl
theorem q_rL_aR (S : gS) (a : Nat) (r : Nat → Int64) : gaR (g_rL S a r) = gaR S := rfl
theorem q_rL_K (S : gS) (a : Nat) (r : Nat → Int64) : gK (g_rL S a r) = gK S := rfl
theorem q_rL_ln (S : gS) (a : Nat) (r : Nat → Int64) : gln (g_rL S a r) = gln S := rfl
theorem q_rL_n (S : gS) (a : Nat) (r : Nat → Int64) : gn (g_rL S a r) = gn S := rfl
theorem q_rL_sl (S : gS) (a : Nat) (r : Nat → Int64) : gsl (g_rL S a r) = gsl S := rfl
theorem q_rL_is (S : gS) (a : Nat) (r : Nat → Int64) (ci x : Nat) : g_is (g_rL S a r) ci x = g_is S ci x := rfl
theorem q_rL_ck {α : Type} (S : gS) (a : Nat) (r : Nat → Int64) (ci x : Nat) (o : Option α) : g_ck (g_rL S a r) ci x o = g_ck S ci x o := rfl
theorem q_rR_fI (S : gS) (a : Nat) (r : Nat → Option Nat) : gfI (g_rR S a r) = gfI S := rfl
theorem q_rR_fL (S : gS) (a : Nat) (r : Nat → Option Nat) : gfL (g_rR S a r) = gfL S := rfl
theorem q_rR_fR (S : gS) (a : Nat) (r : Nat → Option Nat) : gfR (g_rR S a r) = gfR S := rfl
theorem q_rR_aI (S : gS) (a : Nat) (r : Nat → Option Nat) : gaI (g_rR S a r) = gaI S := rfl
theorem q_rR_aL (S : gS) (a : Nat) (r : Nat → Option Nat) : gaL (g_rR S a r) = gaL S := rfl
theorem q_rR_aR (S : gS) (a : Nat) (r : Nat → Option Nat) : gaR (g_rR S a r) = g_row (gaR S) a r := rfl
theorem q_rR_K (S : gS) (a : Nat) (r : Nat → Option Nat) : gK (g_rR S a r) = gK S := rfl
theorem q_rR_ln (S : gS) (a : Nat) (r : Nat → Option Nat) : gln (g_rR S a r) = gln S := rfl
theorem q_rR_n (S : gS) (a : Nat) (r : Nat → Option Nat) : gn (g_rR S a r) = gn S := rfl
theorem q_rR_sl (S : gS) (a : Nat) (r : Nat → Option Nat) : gsl (g_rR S a r) = gsl S := rfl
theorem q_rR_is (S : gS) (a : Nat) (r : Nat → Option Nat) (ci x : Nat) : g_is (g_rR S a r) ci x = g_is S ci x := rfl
theorem q_rR_ck {α : Type} (S : gS) (a : Nat) (r : Nat → Option Nat) (ci x : Nat) (o : Option α) : g_ck (g_rR S a r) ci x o = g_ck S ci x o := rfl
theorem g_row_s {α : Type} {f : Nat → Nat → α} {a : Nat} {r : Nat → α} : g_row f a r a = r := if_pos rfl
theorem g_row_n {α : Type} {f : Nat → Nat → α} {a b : Nat} {r : Nat → α} (h : b ≠ a) : g_row f a r b = f b := if_neg h
theorem g_row_row {α : Type} {f : Nat → Nat → α} {a : Nat} {r1 r2 : Nat → α} : g_row (g_row f a r1) a r2 = g_row f a r2 := by
  funext b
  unfold g_row
  by_cases h : b = a <;> simp [h]
theorem g_rL_rL {S : gS} {a : Nat} {r1 r2 : Nat → Int64} : g_rL (g_rL S a r1) a r2 = g_rL S a r2 := by
  have : g_row (gaL (g_rL S a r1)) a r2 = g_row (gaL S) a r2 := g_row_row
  unfold g_rL at this ⊢
  rw [this]
  rfl
theorem g_rI_rI {S : gS} {a : Nat} {r1 r2 : Nat → Int32} : g_rI (g_rI S a r1) a r2 = g_rI S a r2 := by
  have : g_row (gaI (g_rI S a r1)) a r2 = g_row (gaI S) a r2 := g_row_row
  unfold g_rI at this ⊢
  rw [this]
  rfl
theorem g_rL_id {S : gS} {a : Nat} : g_rL S a (gaL S a) = S := by
  have : g_row (gaL S) a (gaL S a) = gaL S := by
    funext b
    unfold g_row
    by_cases h : b = a
    · subst h; simp
    · simp [h]
  unfold g_rL
  rw [this]
  rfl
theorem g_rI_id {S : gS} {a : Nat} : g_rI S a (gaI S a) = S := by
  have : g_row (gaI S) a (gaI S a) = gaI S := by
    funext b
    unfold g_row
    by_cases h : b = a
    · subst h; simp
    · simp [h]
  unfold g_rI
  rw [this]
  rfl
/-! ===== the letters of a word ===== -/
def lt8 (x : Int64) (k : Nat) : Nat := x.toBitVec.toNat / 2 ^ (8 * k) % 256
theorem lt8_lt (x : Int64) (k : Nat) : lt8 x k < 256 := Nat.mod_lt _ (by decide)
theorem lt8_N {n k : Nat} (hn : n < 2 ^ 64) : lt8 (lN n) k = n / 2 ^ (8 * k) % 256 := by
  unfold lt8
  rw [wb_tn hn]
theorem lt8_read (x : Int64) {k : Nat} (hk : k < 8) : (((x.toUInt64 >>> ((nI (8 * k)).toInt64.toUInt64 &&& Int64.toUInt64 63)).toInt64).toInt32 &&& (255 : Int32)) = nI (lt8 x k) := by
  obtain ⟨n, hn, rfl⟩ := wb_of x
  rw [wb_shr hn (by omega), lN_i, pk_and _ 8 rfl, lt8_N hn]
  congr 1
  show (BitVec.ofNat 32 (n / 2 ^ (8 * k))).toNat % 2 ^ 8 = _
  rw [BitVec.toNat_ofNat, Nat.mod_mod_of_dvd _ (Nat.pow_dvd_pow 2 (by decide))]
theorem lt8_0 (k : Nat) : lt8 0 k = 0 := by
  have : (0 : Int64) = lN 0 := rfl
  rw [this, lt8_N (by decide), Nat.zero_div]
/-- a letter put where there was none -/
theorem lt8_or {x : Int64} {c r k : Nat} (hc : c < 256) (hr : r < 8) (h0 : lt8 x r = 0) : lt8 (x ||| ((nI c).toInt64 <<< ((nI (8 * r)).toInt64 &&& 63))) k = if k = r then c else lt8 x k := by
  obtain ⟨n, hn, rfl⟩ := wb_of x
  have hp : c * 2 ^ (8 * r) < 2 ^ 64 := by
    have h1 : 2 ^ (8 * r) ≤ 2 ^ 56 := Nat.pow_le_pow_right (by decide) (by omega)
    calc c * 2 ^ (8 * r) ≤ 255 * 2 ^ 56 := Nat.mul_le_mul (by omega) h1
      _ < _ := by decide
  rw [nI_l (by omega : c < 2 ^ 31), wb_shl c (by omega), wb_or hn hp]
  have ho : n ||| c * 2 ^ (8 * r) < 2 ^ 64 := Nat.or_lt_two_pow hn hp
  rw [lt8_N ho]
  rw [lt8_N hn] at h0 ⊢
  have e256 : (256 : Nat) = 2 ^ 8 := rfl
  rw [e256] at h0 ⊢
  apply Nat.eq_of_testBit_eq
  intro i
  have hz : ∀ i, i < 8 → n.testBit (8 * r + i) = false := by
    intro i hi
    have h := congrArg (fun q => Nat.testBit q i) h0
    simp only [Nat.testBit_mod_two_pow, Nat.testBit_div_two_pow, Nat.zero_testBit, hi, decide_true, Bool.true_and] at h
    rw [Nat.add_comm]
    exact h
  rw [Nat.testBit_mod_two_pow, Nat.testBit_div_two_pow, Nat.testBit_or, Nat.testBit_mul_two_pow]
  by_cases hi : i < 8
  · by_cases hk : k = r
    · subst hk
      rw [if_pos rfl]
      have h1 := hz i hi
      rw [Nat.add_comm] at h1
      simp [hi, h1]
    · rw [if_neg hk, Nat.testBit_mod_two_pow, Nat.testBit_div_two_pow]
      simp only [hi, decide_true, Bool.true_and]
      have : c.testBit (i + 8 * k - 8 * r) = false ∨ ¬ 8 * r ≤ i + 8 * k := by
        by_cases hle : 8 * r ≤ i + 8 * k
        · left
          apply Nat.testBit_lt_two_pow
          calc c < 2 ^ 8 := hc
            _ ≤ _ := Nat.pow_le_pow_right (by decide) (by omega)
        · exact Or.inr hle
      rcases this with h | h
      · simp [h]
      · simp [h]
  · simp only [hi, decide_false, Bool.false_and]
    by_cases hk : k = r
    · rw [if_pos hk]
      symm
      apply Nat.testBit_lt_two_pow
      calc c < 2 ^ 8 := hc
        _ ≤ _ := Nat.pow_le_pow_right (by decide) (by omega)
    · rw [if_neg hk, Nat.testBit_mod_two_pow]
      simp [hi]
