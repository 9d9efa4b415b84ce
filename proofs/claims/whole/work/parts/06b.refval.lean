/-! ===== the reference's values: tell, told, become ===== -/
theorem lt8_sread (x : Int64) {k : Nat} (hk : k < 8) : ((x >>> ((nI (8 * k)).toInt64 &&& 63)).toInt32 &&& (255 : Int32)) = nI (lt8 x k) := by
  rw [wb_c (8 * k) (by omega), pk_and _ 8 rfl]
  congr 1
  unfold lt8
  have e1 : (x >>> lN (8 * k)).toInt32.toBitVec = (x.toBitVec.sshiftRight (8 * k)).setWidth 32 := by
    show (BitVec.signExtend 32 (x >>> lN (8 * k)).toBitVec) = _
    rw [Int64.toBitVec_shiftRight, wb_tb, wb_sm _ (by omega)]
    unfold BitVec.sshiftRight'
    rw [BitVec.toNat_ofNat, Nat.mod_eq_of_lt (by omega)]
    rw [BitVec.signExtend_eq_setWidth_of_le _ (by decide)]
  rw [e1, BitVec.toNat_setWidth, Nat.mod_mod_of_dvd _ (Nat.pow_dvd_pow 2 (by decide))]
  apply Nat.eq_of_testBit_eq
  intro i
  rw [show (256 : Nat) = 2 ^ 8 from rfl, Nat.testBit_mod_two_pow, Nat.testBit_mod_two_pow, Nat.testBit_div_two_pow]
  by_cases hi : i < 8
  · simp only [hi, decide_true, Bool.true_and]
    rw [BitVec.testBit_toNat, BitVec.testBit_toNat, BitVec.getLsbD_sshiftRight]
    have h1 : ¬ 64 ≤ i := by omega
    have h2 : 8 * k + i < 64 := by omega
    simp [h1, h2, Nat.add_comm i]
  · simp [hi]
def RVv (t : Int32) (nb : Nat → Int64) (ln ch : Nat → Int32) (s : Nat) (x : mV) : Prop := if t = 4 then RTx ln ch s x.2 else nb s = x.1
theorem RVv.num {t : Int32} {nb : Nat → Int64} {ln ch : Nat → Int32} {s : Nat} {x : mV} (ht : t ≠ 4) (h : nb s = x.1) : RVv t nb ln ch s x := by unfold RVv; rw [if_neg ht]; exact h
theorem tell_loop {s : Nat} (hs : s < 656) (v : Int64) (u2 u3 u4 : Int32) : ∀ (k n : Nat) (S : gS) (nb : Nat → Int64) (ln ch dg : Nat → Int32) (T : List Nat), k ≤ 8 → k < n → RefOk S → RTx ln ch s T → T.length + k ≤ 24 →
    ROp S s nb ln ch (l_X9_tell_107 237 (nI s) u2 u3 u4 v n (Q4 S nb ln ch dg) (shB k)) (fun _ ln1 ch1 => RTx ln1 ch1 s (T ++ mBr v k)) := by
  intro k
  induction k with
  | zero =>
    intro n S nb ln ch dg T hk hn h hT hl
    obtain ⟨n, rfl⟩ : ∃ m, n = m + 1 := ⟨n - 1, by omega⟩
    rw [l_X9_tell_107, if_pos ((shB_neg (by omega)).mpr rfl), show T ++ mBr v 0 = T from List.append_nil T]
    exact ⟨_, _, _, _, rfl, OnlyS.refl, hT⟩
  | succ k ih =>
    intro n S nb ln ch dg T hk hn h hT hl
    obtain ⟨n, rfl⟩ : ∃ m, n = m + 1 := ⟨n - 1, by omega⟩
    rw [l_X9_tell_107, if_neg (fun q => by have := (shB_neg hk).mp q; omega)]
    unfold g_cVV
    rw [Q4_ck, ck9 h, shB_step, show shB (k + 1) = nI (8 * k) from rfl, lt8_sread v (by omega)]
    refine ROp.bind (addChar_R h hs hT (by omega) (lt8_lt v k)) fun nb1 ln1 ch1 dg1 q => ?_
    obtain ⟨-, q⟩ := q
    have hlen : (T ++ if lt8 v k = 0 then [] else [lt8 v k]).length + k ≤ 24 := by
      rw [List.length_append]
      by_cases h0 : lt8 v k = 0 <;> simp [h0] <;> omega
    have := ih n S nb1 ln1 ch1 dg1 _ (by omega) (by omega) h q hlen
    rw [List.append_assoc] at this
    exact this
def mJoin (a b : Int32) : Int64 := (a.toInt64 <<< ((32 : Int32).toInt64 &&& 63)) ||| (b.toInt64 &&& (4294967295 : Int64))
theorem stL_R {S : gS} {s : Nat} {nb : Nat → Int64} {ln ch dg : Nat → Int32} {x : Int64} {T : List Nat} {t : Int32} (h : RefOk S) (hs : s < 656) (ht : t ≠ 4) : ROp S s nb ln ch (g_stL (Q4 S nb ln ch dg) 238 (nI s) x fun S5 => some S5) (fun nb1 ln1 ch1 => RVv t nb1 ln1 ch1 s (x, T)) := by
  unfold g_stL
  rw [Q4_ck, g_ck_t (ri_numbers h), Q4_gln, rl_numbers h, g_ix_t hs (by decide), nI_clamp (by omega), Q4_aL, Q4_nb]
  exact ⟨_, _, _, _, rfl, ⟨fun k hk => ⟨pk_uLn hk, rfl⟩, fun _ _ => rfl⟩, RVv.num ht pk_uLs⟩
theorem tell_eq {S : gS} {s : Nat} {nb : Nat → Int64} {ln ch dg : Nat → Int32} {t a b : Int32} (h : RefOk S) (hs : s < 656) (ht : t = 0 ∨ t = 1 ∨ t = 2 ∨ t = 3 ∨ t = 4) : ROp S s nb ln ch (f_X9_tell (Q4 S nb ln ch dg) 237 (nI s) t a b) (fun nb1 ln1 ch1 => RVv t nb1 ln1 ch1 s (mTell t (mJoin a b))) := by
  unfold f_X9_tell g_cVV
  rw [Q4_ck, ck9 h]
  refine ROp.bind (clear_R h hs) fun nb1 ln1 ch1 dg1 q => ?_
  obtain ⟨q0, q⟩ := q
  unfold g_lt g_getR
  rw [show ((a.toInt64 <<< ((32 : Int32).toInt64 &&& 63)) ||| (b.toInt64 &&& (4294967295 : Int64))) = mJoin a b from rfl]
  simp only [Nat.reduceMul, Nat.reduceAdd, Q4_ck, ck9 h, Q4_fR, rf_numbers h, Option.bind_some]
  rcases ht with rfl | rfl | rfl | rfl | rfl
  · rw [if_pos rfl, mTell0]
    exact stL_R h hs (by decide)
  · rw [if_neg (by decide), if_pos rfl, mTell1]
    exact stL_R h hs (by decide)
  · rw [if_neg (by decide), if_neg (by decide), if_pos rfl, mTell2]
    exact stL_R h hs (by decide)
  · rw [if_neg (by decide), if_neg (by decide), if_neg (by decide), if_pos rfl, mTell3]
    exact stL_R h hs (by decide)
  · rw [if_neg (by decide), if_neg (by decide), if_neg (by decide), if_neg (by decide), mTell4]
    refine (tell_loop hs (mJoin a b) 4 a b 8 100 S nb1 ln1 ch1 dg1 [] (by decide) (by decide) h q (by decide)).mono fun nb2 ln2 ch2 _ z => ?_
    unfold RVv
    rw [if_pos rfl]
    exact z
theorem isIn_eq (S : gS) (v lo hi : Int32) : f_X9_isIn S v lo hi = some (if v < lo ∨ hi < v then 0 else 1, S) := by
  dsimp only [f_X9_isIn, g_jn]
  by_cases h1 : v < lo
  · rw [if_pos h1, if_pos (Or.inl h1)]
  · by_cases h2 : hi < v
    · rw [if_neg h1, if_pos h2, if_pos (Or.inr h2)]
    · rw [if_neg h1, if_neg h2, if_neg (fun q => q.elim h1 h2)]
theorem told_loop {S : gS} {s : Nat} {nb : Nat → Int64} {ln ch dg : Nat → Int32} {T : List Nat} (h : RefOk S) (hs : s < 656) (hT : RTx ln ch s T) (u3 : Int32) (K : gS → Int64 → Int32 → Option (Int64 × gS)) : ∀ (d n j : Nat) (a : Int64), j + d = T.length → d < n →
    l_X9_told_51 237 (nI s) (nI T.length) u3 n (Q4 S nb ln ch dg) a (nI j) K = match mFold (T.drop j) a with
      | none => some (0, Q4 S nb ln ch dg)
      | some b => K (Q4 S nb ln ch dg) b (nI T.length) := by
  obtain ⟨t1, t2, t3, t4⟩ := hT
  intro d
  induction d with
  | zero =>
    intro n j a hj hn
    obtain ⟨n, rfl⟩ : ∃ m, n = m + 1 := ⟨n - 1, by omega⟩
    have : j = T.length := by omega
    subst this
    rw [l_X9_told_51, if_pos (nI_le (Nat.le_refl _) (by omega)), List.drop_length]
    rfl
  | succ d ih =>
    intro n j a hj hn
    obtain ⟨n, rfl⟩ : ∃ m, n = m + 1 := ⟨n - 1, by omega⟩
    rw [l_X9_told_51, if_neg (by rw [nI_leI (by omega) (by omega)]; omega), drop_at (by omega)]
    dsimp only [g_getR, g_ldI, g_lt, g_cI, Nat.reduceMul, Nat.reduceAdd]
    rw [Q4_ck, ck9 h, Q4_fR, rf_chars h, Option.bind_some, Q4_ck, g_ck_t (ri_chars h), Q4_gln, rl_chars h, mul24, nI_add, g_ix_t (by omega) (by decide), nI_clamp (by omega), Q4_a240, t4 j (by omega), isIn_eq, Option.bind_some]
    have hc : T.getD j 0 < 256 := by
      have := t3 (T.getD j 0) (by rw [List.getD_eq_getElem?_getD, List.getElem?_eq_getElem (by omega)]; exact List.getElem_mem _)
      exact this.2
    have e48 : (48 : Int32) = nI 48 := rfl
    have e9 : (9 : Int32) = nI 9 := rfl
    unfold mFold
    by_cases c1 : T.getD j 0 < 48
    · have hneg : nI (T.getD j 0) - (48 : Int32) < 0 := pk_sneg (by decide) c1
      dsimp only
      rw [if_pos (Or.inl hneg), if_pos rfl, if_pos (Or.inl c1)]
    · rw [e48, sub_nI (by omega)]
      have hnn : ¬ nI (T.getD j 0 - 48) < 0 := nI_pos (by omega)
      dsimp only
      by_cases c2 : 57 < T.getD j 0
      · rw [if_pos (show nI (T.getD j 0 - 48) < 0 ∨ (9 : Int32) < nI (T.getD j 0 - 48) by right; rw [e9, nI_ltI (by omega) (by omega)]; omega), if_pos rfl, if_pos (Or.inr c2)]
      · rw [if_neg (show ¬ (nI (T.getD j 0 - 48) < 0 ∨ (9 : Int32) < nI (T.getD j 0 - 48)) from fun q => q.elim hnn (fun z => by rw [e9, nI_ltI (by omega) (by omega)] at z; omega)), if_neg (show ¬ (1 : Int32) = 0 by decide), if_neg (by omega), nI_l (by omega), add1]
        exact ih n (j + 1) _ (by omega) (by omega)
theorem told_eq {S : gS} {s : Nat} {nb : Nat → Int64} {ln ch dg : Nat → Int32} {T : List Nat} (h : RefOk S) (hs : s < 656) (hT : RTx ln ch s T) : f_X9_told (Q4 S nb ln ch dg) 237 (nI s) = some (mNum T, Q4 S nb ln ch dg) := by
  have hT0 := hT
  obtain ⟨t1, t2, t3, t4⟩ := hT
  have key : ∀ z : Nat, z = mSt T → ((f_X9_isIn (Q4 S nb ln ch dg) (nI T.length - nI z) (nI 1) (nI 18)).bind fun q => if q.1 = nI 0 then some ((0 : Int64), q.2) else l_X9_told_51 237 (nI s) (nI T.length) (nI z) 100 q.2 0 (nI z) (fun S14 v15 v16 => if nI z = nI 1 then some (-v15, S14) else some (v15, S14))) = some (mNum T, Q4 S nb ln ch dg) := by
    intro z hz
    have hz1 : z ≤ 1 := by rw [hz]; unfold mSt; split <;> omega
    rw [isIn_eq, Option.bind_some]
    dsimp only
    unfold mNum
    rw [← hz]
    by_cases hlt : T.length < z
    · have h0 : T.length = 0 := by omega
      have h1 : z = 1 := by omega
      rw [if_pos (show T.length < z + 1 ∨ z + 18 < T.length by omega), if_pos (show nI T.length - nI z < nI 1 ∨ nI 18 < nI T.length - nI z by left; rw [h0, h1]; decide), if_pos (show (0 : Int32) = nI 0 from rfl)]
    · rw [sub_nI (by omega)]
      by_cases c1 : T.length < z + 1 ∨ z + 18 < T.length
      · rw [if_pos c1, if_pos (show nI (T.length - z) < nI 1 ∨ nI 18 < nI (T.length - z) by
          rcases c1 with c | c
          · left; rw [nI_ltI (by omega) (by omega)]; omega
          · right; rw [nI_ltI (by omega) (by omega)]; omega), if_pos (show (0 : Int32) = nI 0 from rfl)]
      · rw [if_neg c1, if_neg (show ¬ (nI (T.length - z) < nI 1 ∨ nI 18 < nI (T.length - z)) by rw [nI_ltI (by omega) (by omega), nI_ltI (by omega) (by omega)]; omega), if_neg (show ¬ (1 : Int32) = nI 0 by decide), told_loop h hs hT0 (nI z) _ (T.length - z) 100 z 0 (by omega) (by omega)]
        cases mFold (T.drop z) 0 with
        | none => rfl
        | some a =>
          show (if nI z = nI 1 then some (-a, _) else some (a, _)) = some (if z = 1 then -a else a, _)
          by_cases e : z = 1
          · rw [if_pos e, if_pos (by rw [e])]
          · rw [if_neg e, if_neg (by rw [nI_eq (by omega) (by omega)]; exact e)]
  unfold f_X9_told
  dsimp only [g_getR, g_ldI, g_jn, g_cI, Nat.reduceMul, Nat.reduceAdd]
  rw [Q4_ck, ck9 h, Q4_fR, rf_lengths h, Option.bind_some, Q4_ck, g_ck_t (ri_lengths h), Q4_gln, rl_lengths h, g_ix_t hs (by decide), nI_clamp (by omega), Q4_a239, t1, Q4_ck, ck9 h, rf_chars h, Option.bind_some, Q4_ck, g_ck_t (ri_chars h), rl_chars h, mul24, g_ix_t (by omega) (by decide), nI_clamp (by omega), Q4_a240, show (1 : Int32) = nI 1 from rfl, show (18 : Int32) = nI 18 from rfl, show (0 : Int32) = nI 0 from rfl]
  by_cases hz : T.length = 0
  · rw [if_pos (show nI T.length ≤ nI 0 by rw [hz]; decide)]
    refine key 0 ?_
    have : T = [] := List.length_eq_zero_iff.mp hz
    subst this
    rfl
  · rw [if_neg (show ¬ nI T.length ≤ nI 0 by rw [nI_leI (by omega) (by omega)]; omega), show ch (24 * s) = nI (T.getD 0 0) from t4 0 (by omega), show (45 : Int32) = nI 45 from rfl]
    have hc : T.getD 0 0 < 256 := by
      have := t3 (T.getD 0 0) (by rw [List.getD_eq_getElem?_getD, List.getElem?_eq_getElem (by omega)]; exact List.getElem_mem _)
      exact this.2
    by_cases e : T.getD 0 0 = 45
    · rw [if_pos (show nI (T.getD 0 0) = nI 45 by rw [e])]
      exact key 1 (by unfold mSt; rw [if_pos e])
    · rw [if_neg (show ¬ nI (T.getD 0 0) = nI 45 by rw [nI_eq (by omega) (by omega)]; exact e)]
      exact key 0 (by unfold mSt; rw [if_neg e])
