/-! ===== the reference: digits, become, copies ===== -/
theorem addChar_E {S : gS} {s c : Nat} {nb : Nat → Int64} {ln ch dg : Nat → Int32} {T : List Nat} (h : RefOk S) (hs : s < 656) (hT : RTx ln ch s T) (hl : T.length < 24) (hc : c < 256) : ∃ ln1 ch1, f_X9_addChar (Q4 S nb ln ch dg) 237 (nI s) (nI c) = some (Q4 S nb ln1 ch1 dg) ∧ OnlyS s nb nb ln ln1 ch ch1 ∧ RTx ln1 ch1 s (T ++ (if c = 0 then [] else [c])) := by
  obtain ⟨t1, t2, t3, t4⟩ := hT
  unfold f_X9_addChar
  by_cases h0 : c = 0
  · rw [if_pos (show nI c = 0 by rw [h0]; rfl), if_pos h0, List.append_nil]
    exact ⟨_, _, rfl, OnlyS.refl, t1, t2, t3, t4⟩
  · rw [if_neg (fun q => h0 ((nI_eq0 (by omega)).mp q)), if_neg h0]
    simp only [g_getI, g_getL, g_getR, g_putI, g_putZ, g_putL, g_putR, g_ldI, g_ldL, g_ldR, g_stI, g_stZ, g_stL, g_stR, g_alen, g_ldX, g_cVI, g_cVL, g_cVR, g_cVV, g_cI, g_cL, g_cN, g_lt, g_jn, g_cpI, g_cpL, g_z, Nat.reduceMul, Nat.reduceAdd, Option.bind_some, or_true, true_or, if_true, q_pI_fI, q_pI_fL, q_pI_fR, q_pI_aI, q_pI_aL, q_pI_aR, q_pI_K, q_pI_ln, q_pI_n, q_pI_sl, q_pI_is, q_pI_ck, q_pL_fI, q_pL_fL, q_pL_fR, q_pL_aI, q_pL_aL, q_pL_aR, q_pL_K, q_pL_ln, q_pL_n, q_pL_sl, q_pL_is, q_pL_ck, q_pR_fI, q_pR_fL, q_pR_fR, q_pR_aI, q_pR_aL, q_pR_aR, q_pR_K, q_pR_ln, q_pR_n, q_pR_sl, q_pR_is, q_pR_ck, q_rI_fI, q_rI_fL, q_rI_fR, q_rI_aI, q_rI_aL, q_rI_aR, q_rI_K, q_rI_ln, q_rI_n, q_rI_sl, q_rI_is, q_rI_ck, q_rL_fI, q_rL_fL, q_rL_fR, q_rL_aI, q_rL_aL, q_rL_aR, q_rL_K, q_rL_ln, q_rL_n, q_rL_sl, q_rL_is, q_rL_ck, q_rR_fI, q_rR_fL, q_rR_fR, q_rR_aI, q_rR_aL, q_rR_aR, q_rR_K, q_rR_ln, q_rR_n, q_rR_sl, q_rR_is, q_rR_ck, Q4_ck, ck9 h, Q4_fR, rf_chars h, rf_lengths h, g_ck_t (ri_chars h), g_ck_t (ri_lengths h), Q4_gln, rl_chars h, rl_lengths h, Q4_a240, Q4_a239, mul24]
    rw [g_ix_t (by omega) (by decide), nI_clamp (by omega), t1, nI_add, g_ix_t (by omega) (by decide), nI_clamp (by omega), g_ix_t (by omega) (by decide), Q4_ch, g_row_n (show (239 : Nat) ≠ 240 by decide), Q4_a239, t1, add1, g_ix_t (by omega) (by decide), Q4_ln]
    refine ⟨_, _, rfl, ⟨fun k hk => ⟨rfl, pk_un hk⟩, fun j hj => pk_un (by omega)⟩, ?_, ?_, ?_, ?_⟩
    · rw [pk_us, List.length_append]; rfl
    · rw [List.length_append]; exact hl
    · intro x hx
      rcases List.mem_append.mp hx with hx | hx
      · exact t3 x hx
      · rw [List.mem_singleton.mp hx]; exact ⟨Nat.pos_of_ne_zero h0, hc⟩
    · intro j hj
      rw [List.length_append, List.length_singleton] at hj
      rw [getD_app]
      by_cases hlt : j < T.length
      · rw [if_pos hlt, pk_un (by omega), t4 j hlt]
      · have : j = T.length := by omega
        rw [if_neg hlt, if_pos this, this, pk_us]

theorem l_rem10 (q : Int64) : (q - q / (10 : Int64) * (10 : Int64)).toInt = q.toInt.tmod 10 := by
  have e2 : (q / (10 : Int64)).toInt = q.toInt.tdiv 10 := l_div q (p := 10) (by decide) (by decide)
  have hb := l_min q
  have e3 : (q / (10 : Int64) * (10 : Int64)).toInt = q.toInt.tdiv 10 * 10 := by
    rw [Int64.toInt_mul, e2]
    have : (10 : Int64).toInt = 10 := rfl
    rw [this]
    have h2 : (q.toInt.tdiv 10).natAbs = q.toInt.natAbs / 10 := Int.natAbs_tdiv q.toInt 10
    apply Int.bmod_eq_of_le <;> omega
  rw [Int64.toInt_sub, e3]
  have h1 := Int.mul_tdiv_add_tmod q.toInt 10
  have h3 : q.toInt - q.toInt.tdiv 10 * 10 = q.toInt.tmod 10 := by omega
  rw [h3]
  have h4 : (q.toInt.tmod 10).natAbs < 10 := by rw [Int.natAbs_tmod]; exact Nat.mod_lt _ (by decide)
  apply Int.bmod_eq_of_le <;> omega
theorem l_dig2 (q : Int64) : (if 0 ≤ (q - q / (10 : Int64) * (10 : Int64)).toInt32 then (q - q / (10 : Int64) * (10 : Int64)).toInt32 else -(q - q / (10 : Int64) * (10 : Int64)).toInt32) = nI (q.toInt.natAbs % 10) := by
  have e := l_rem10 q
  generalize q - q / (10 : Int64) * (10 : Int64) = r at e ⊢
  have h4 : r.toInt.natAbs = q.toInt.natAbs % 10 := by rw [e, Int.natAbs_tmod]; rfl
  have h5 : q.toInt.natAbs % 10 < 10 := Nat.mod_lt _ (by decide)
  have e2 : r.toInt32.toInt = r.toInt := by
    rw [Int64.toInt_toInt32]
    apply Int.bmod_eq_of_le <;> omega
  apply Int32.toInt_inj.mp
  rw [nI_toInt (by omega), ← h4]
  by_cases hr : 0 ≤ r.toInt32
  · rw [if_pos hr, e2]
    have : 0 ≤ r.toInt := by rw [Int32.le_iff_toInt_le, e2] at hr; exact hr
    omega
  · rw [if_neg hr, Int32.toInt_neg, e2]
    have : ¬ 0 ≤ r.toInt := fun z => hr (by rw [Int32.le_iff_toInt_le, e2]; exact z)
    rw [Int.bmod_eq_of_le] <;> omega
theorem l_div10 (q : Int64) : (q / (10 : Int64)).toInt.natAbs = q.toInt.natAbs / 10 := by
  rw [show (10 : Int64) = lN 10 from rfl, l_div q (p := 10) (by decide) (by decide), Int.natAbs_tdiv]
  rfl
theorem l_zero (q : Int64) : q = 0 ↔ q.toInt.natAbs = 0 := by
  rw [Int.natAbs_eq_zero]
  exact ⟨fun h => by rw [h]; rfl, fun h => Int64.toInt_inj.mp h⟩
theorem putD_step {S : gS} {s cnt n : Nat} {nb : Nat → Int64} {ln ch dg : Nat → Int32} {v q : Int64} {K : gS → Int32 → Int64 → Option gS} (h : RefOk S) (hc : cnt < 24) (hq : cnt = 0 ∨ q ≠ 0) :
    l_X9_putDigits_11 237 (nI s) v (n + 1) (Q4 S nb ln ch dg) (nI cnt) q K = l_X9_putDigits_11 237 (nI s) v n (Q4 S nb ln ch (upd dg cnt (nI (q.toInt.natAbs % 10 + 48)))) (nI (cnt + 1)) (q / 10) K := by
  rw [l_X9_putDigits_11]
  dsimp only [g_jn, g_lt, g_getR, g_stI, Nat.reduceMul, Nat.reduceAdd]
  have hd := l_dig2 q
  have body : (if 0 ≤ (q - q / (10 : Int64) * (10 : Int64)).toInt32 then g_ck (Q4 S nb ln ch dg) 10 241 (g_ix (gln (Q4 S nb ln ch dg) 241) (nI cnt) (l_X9_putDigits_11 237 (nI s) v n (g_rI (Q4 S nb ln ch dg) 241 (upd (gaI (Q4 S nb ln ch dg) 241) (nI cnt).toNatClampNeg (48 + (q - q / (10 : Int64) * (10 : Int64)).toInt32))) (nI cnt + 1) (q / 10) K)) else g_ck (Q4 S nb ln ch dg) 10 241 (g_ix (gln (Q4 S nb ln ch dg) 241) (nI cnt) (l_X9_putDigits_11 237 (nI s) v n (g_rI (Q4 S nb ln ch dg) 241 (upd (gaI (Q4 S nb ln ch dg) 241) (nI cnt).toNatClampNeg (48 + -(q - q / (10 : Int64) * (10 : Int64)).toInt32))) (nI cnt + 1) (q / 10) K))) = l_X9_putDigits_11 237 (nI s) v n (Q4 S nb ln ch (upd dg cnt (nI (q.toInt.natAbs % 10 + 48)))) (nI (cnt + 1)) (q / 10) K := by
    by_cases hr : 0 ≤ (q - q / (10 : Int64) * (10 : Int64)).toInt32
    · rw [if_pos hr] at hd ⊢
      rw [hd, Q4_ck, g_ck_t (ri_digits h), Q4_gln, rl_digits h, g_ix_t hc (by decide), nI_clamp (by omega), Q4_a241, Q4_dg, add1, show (48 : Int32) = nI 48 from rfl, nI_add, Nat.add_comm 48]
    · rw [if_neg hr] at hd ⊢
      rw [hd, Q4_ck, g_ck_t (ri_digits h), Q4_gln, rl_digits h, g_ix_t hc (by decide), nI_clamp (by omega), Q4_a241, Q4_dg, add1, show (48 : Int32) = nI 48 from rfl, nI_add, Nat.add_comm 48]
  rw [Q4_ck, ck9 h, Q4_fR, rf_digits h, Option.bind_some]
  rcases hq with hq | hq
  · rw [if_pos (show nI cnt = 0 by rw [hq]; rfl)]
    exact body
  · by_cases h0 : cnt = 0
    · rw [if_pos (show nI cnt = 0 by rw [h0]; rfl)]
      exact body
    · rw [if_neg (fun z => h0 ((nI_eq0 (by omega)).mp z)), if_neg (fun z => hq ((cmp_eq0 _ _).mp z))]
      exact body
theorem putD_exit {S : gS} {s cnt n : Nat} {v : Int64} {K : gS → Int32 → Int64 → Option gS} (h0 : 0 < cnt) (hc : cnt < 25) : l_X9_putDigits_11 237 (nI s) v (n + 1) S (nI cnt) 0 K = K S (nI cnt) 0 := by
  rw [l_X9_putDigits_11]
  dsimp only [g_jn, g_lt]
  rw [if_neg (fun z => by have := (nI_eq0 (by omega)).mp z; omega), if_pos ((cmp_eq0 _ _).mpr rfl)]
theorem putD_loop {S : gS} {s : Nat} {nb : Nat → Int64} {ln ch : Nat → Int32} {v : Int64} {K : gS → Int32 → Int64 → Option gS} (h : RefOk S) : ∀ (m n cnt : Nat) (q : Int64) (dg : Nat → Int32), q.toInt.natAbs < 10 ^ (m + 1) → m + 2 < n → cnt + m < 24 → (cnt = 0 ∨ q ≠ 0) →
    ∃ dg1, l_X9_putDigits_11 237 (nI s) v n (Q4 S nb ln ch dg) (nI cnt) q K = K (Q4 S nb ln ch dg1) (nI (cnt + (rvD (m + 1) q.toInt.natAbs).length)) 0 ∧ (∀ j, j < cnt → dg1 j = dg j) ∧ ∀ j, j < (rvD (m + 1) q.toInt.natAbs).length → dg1 (cnt + j) = nI ((rvD (m + 1) q.toInt.natAbs).getD j 0) := by
  intro m
  have base : ∀ (m n cnt : Nat) (q : Int64) (dg : Nat → Int32), q.toInt.natAbs < 10 → 2 < n → cnt < 24 → (cnt = 0 ∨ q ≠ 0) →
    ∃ dg1, l_X9_putDigits_11 237 (nI s) v n (Q4 S nb ln ch dg) (nI cnt) q K = K (Q4 S nb ln ch dg1) (nI (cnt + (rvD (m + 1) q.toInt.natAbs).length)) 0 ∧ (∀ j, j < cnt → dg1 j = dg j) ∧ ∀ j, j < (rvD (m + 1) q.toInt.natAbs).length → dg1 (cnt + j) = nI ((rvD (m + 1) q.toInt.natAbs).getD j 0) := by
    intro m n cnt q dg h10 hn hc hq
    obtain ⟨n, rfl⟩ : ∃ k, n = k + 2 := ⟨n - 2, by omega⟩
    have hz : q / 10 = 0 := (l_zero _).mpr (by rw [l_div10]; omega)
    have hr : rvD (m + 1) q.toInt.natAbs = [q.toInt.natAbs + 48] := by unfold rvD; rw [if_pos h10]
    rw [putD_step h hc hq, hz, putD_exit (by omega) (by omega), hr]
    refine ⟨_, rfl, fun j hj => pk_un (by omega), fun j hj => ?_⟩
    have : j = 0 := by simpa using hj
    subst this
    show upd dg cnt (nI (q.toInt.natAbs % 10 + 48)) cnt = _
    rw [pk_us, Nat.mod_eq_of_lt h10]
    rfl
  induction m with
  | zero =>
    intro n cnt q dg ha hn hc hq
    exact base 0 n cnt q dg (by simpa using ha) (by omega) (by omega) hq
  | succ m ih =>
    intro n cnt q dg ha hn hc hq
    by_cases h10 : q.toInt.natAbs < 10
    · exact base (m + 1) n cnt q dg h10 (by omega) (by omega) hq
    · obtain ⟨n, rfl⟩ : ∃ k, n = k + 1 := ⟨n - 1, by omega⟩
      have hr : rvD (m + 1 + 1) q.toInt.natAbs = (q.toInt.natAbs % 10 + 48) :: rvD (m + 1) (q.toInt.natAbs / 10) := by
        conv => lhs; unfold rvD
        rw [if_neg h10]
      have hlt : (q / 10).toInt.natAbs < 10 ^ (m + 1) := by
        rw [l_div10, Nat.div_lt_iff_lt_mul (by decide), ← Nat.pow_succ]; exact ha
      obtain ⟨dg1, g1, g2, g3⟩ := ih n (cnt + 1) (q / 10) (upd dg cnt (nI (q.toInt.natAbs % 10 + 48))) hlt (by omega) (by omega) (Or.inr (fun z => by have := (l_zero _).mp z; rw [l_div10] at this; omega))
      rw [l_div10] at g1 g3
      rw [putD_step h (by omega) hq, hr]
      refine ⟨dg1, ?_, fun j hj => (g2 j (by omega)).trans (pk_un (by omega)), fun j hj => ?_⟩
      · rw [g1, List.length_cons, Nat.add_assoc, Nat.add_comm 1]
      · cases j with
        | zero => rw [Nat.add_zero, g2 cnt (by omega), pk_us]; rfl
        | succ j =>
          rw [List.length_cons] at hj
          rw [show cnt + (j + 1) = cnt + 1 + j by omega, g3 j (by omega)]
          rfl
theorem rvD_len : ∀ m a, 0 < (rvD (m + 1) a).length ∧ (rvD (m + 1) a).length ≤ m + 1 := by
  intro m
  induction m with
  | zero => intro a; unfold rvD; split <;> simp [rvD]
  | succ m ih =>
    intro a
    unfold rvD
    split
    · simp
    · have := ih (a / 10)
      rw [List.length_cons]
      omega
theorem rvD_ok : ∀ m a, ∀ c ∈ rvD m a, 0 < c ∧ c < 256 := by
  intro m
  induction m with
  | zero => intro a c h; cases h
  | succ m ih =>
    intro a c h
    unfold rvD at h
    split at h
    · rw [List.mem_singleton.mp h]; omega
    · rcases List.mem_cons.mp h with rfl | h
      · omega
      · exact ih _ c h
theorem putD_out {s : Nat} (hs : s < 656) (v : Int64) (u5 : Int64) (L : List Nat) (hL : ∀ c ∈ L, 0 < c ∧ c < 256) : ∀ (u n : Nat) (S : gS) (nb : Nat → Int64) (ln ch dg : Nat → Int32) (T : List Nat), u ≤ L.length → u < n → RefOk S → RTx ln ch s T → T.length + u ≤ 24 → (∀ j, j < u → dg j = nI (L.getD j 0)) →
    ROp S s nb ln ch (l_X9_putDigits_82 237 (nI s) v u5 n (Q4 S nb ln ch dg) (nI u)) (fun _ ln1 ch1 => RTx ln1 ch1 s (T ++ (L.take u).reverse)) := by
  intro u
  induction u with
  | zero =>
    intro n S nb ln ch dg T hu hn h hT hl hdg
    obtain ⟨n, rfl⟩ : ∃ m, n = m + 1 := ⟨n - 1, by omega⟩
    rw [l_X9_putDigits_82, if_pos (show nI 0 ≤ 0 by decide)]
    refine ⟨_, _, _, _, rfl, OnlyS.refl, ?_⟩
    simpa using hT
  | succ u ih =>
    intro n S nb ln ch dg T hu hn h hT hl hdg
    obtain ⟨n, rfl⟩ : ∃ m, n = m + 1 := ⟨n - 1, by omega⟩
    rw [l_X9_putDigits_82, if_neg (nI_nle (by omega) (by omega))]
    dsimp only [g_getR, g_ldI, g_cVV, Nat.reduceMul, Nat.reduceAdd]
    have hm : L.getD u 0 ∈ L := by rw [List.getD_eq_getElem?_getD, List.getElem?_eq_getElem (by omega)]; exact List.getElem_mem _
    have hok := hL _ hm
    have hl19 : u < 24 := by omega
    rw [Q4_ck, ck9 h, Q4_fR, rf_digits h, Option.bind_some, Q4_ck, g_ck_t (ri_digits h), Q4_gln, rl_digits h, pk_m1, g_ix_t hl19 (by decide), nI_clamp (by omega), Q4_a241, hdg u (by omega), Q4_ck, ck9 h]
    obtain ⟨ln1, ch1, g1, g2, g3⟩ := addChar_E (nb := nb) (dg := dg) (c := L.getD u 0) h hs hT (by omega) hok.2
    rw [g1, Option.bind_some]
    rw [if_neg (by omega)] at g3
    have ht : (L.take (u + 1)).reverse = [L.getD u 0] ++ (L.take u).reverse := by
      rw [List.take_succ, List.getElem?_eq_getElem (by omega), List.getD_eq_getElem?_getD, List.getElem?_eq_getElem (by omega)]
      simp
    rw [ht, ← List.append_assoc]
    obtain ⟨nb2, ln2, ch2, dg2, k1, k2, k3⟩ := ih n S nb ln1 ch1 dg (T ++ [L.getD u 0]) (by omega) (by omega) h g3 (by rw [List.length_append, List.length_singleton]; omega) (fun j hj => hdg j (by omega))
    exact ⟨nb2, ln2, ch2, dg2, k1, g2.trans k2, k3⟩
theorem putDigits_eq {S : gS} {s : Nat} {nb : Nat → Int64} {ln ch dg : Nat → Int32} {v : Int64} (h : RefOk S) (hs : s < 656) : ROp S s nb ln ch (f_X9_putDigits (Q4 S nb ln ch dg) 237 (nI s) v) (fun _ ln1 ch1 => RTx ln1 ch1 s (mDig v)) := by
  unfold f_X9_putDigits g_cVV
  rw [Q4_ck, ck9 h]
  refine ROp.bind (clear_R h hs) fun nb1 ln1 ch1 dg1 q => ?_
  obtain ⟨q0, q⟩ := q
  dsimp only [g_jn]
  rw [show (0 : Int32) = nI 0 from rfl]
  obtain ⟨dg2, g1, -, g3⟩ := putD_loop (S := S) (s := s) (nb := nb1) (ln := ln1) (ch := ch1) (v := v) (K := fun S14 v15 v16 => if nI 0 ≤ lg_cmp v 0 then l_X9_putDigits_82 237 (nI s) v v16 100 S14 v15 else g_ck S14 9 237 ((f_X9_addChar S14 237 (nI s) 45).bind fun S22 => l_X9_putDigits_82 237 (nI s) v v16 100 S22 v15)) h 18 100 0 v dg1 (l_abs v) (by decide) (by decide) (Or.inl rfl)
  refine Eq.mpr (congrArg (fun o => ROp S s nb1 ln1 ch1 o _) g1) ?_
  try dsimp only
  rw [Nat.zero_add] at *
  have hlen : 0 < (rvD 19 v.toInt.natAbs).length ∧ (rvD 19 v.toInt.natAbs).length ≤ 19 := rvD_len 18 v.toInt.natAbs
  have hc : (nI 0 ≤ lg_cmp v 0) ↔ ¬ v < 0 := by
    show (0 ≤ lg_cmp v 0) ↔ _
    rw [lg_cmp_ge, Int64.not_lt]
  have hdg : ∀ j, j < (rvD 19 v.toInt.natAbs).length → dg2 j = nI ((rvD 19 v.toInt.natAbs).getD j 0) := fun j hj => by
    have := g3 j hj
    rwa [Nat.zero_add] at this
  have hrev : ((rvD 19 v.toInt.natAbs).take (rvD 19 v.toInt.natAbs).length).reverse = dgL 19 v.toInt.natAbs true := by
    rw [List.take_length]
    exact rvD_eq 18 _ (l_abs v) 19 (by decide)
  unfold mDig
  by_cases hv : v < 0
  · rw [if_neg (fun z => hc.mp z hv), if_pos hv, Q4_ck, ck9 h, show (45 : Int32) = nI 45 from rfl]
    obtain ⟨ln3, ch3, k1, k2, k3⟩ := addChar_E (nb := nb1) (dg := dg2) (c := 45) h hs q (by decide) (by decide)
    rw [k1, Option.bind_some]
    rw [if_neg (by decide)] at k3
    obtain ⟨nb4, ln4, ch4, dg4, p1, p2, p3⟩ := putD_out hs v 0 (rvD 19 v.toInt.natAbs) (rvD_ok 19 _) _ 100 S nb1 ln3 ch3 dg2 [45] (Nat.le_refl _) (by omega) h k3 (by show 1 + _ ≤ 24; omega) hdg
    rw [hrev] at p3
    exact ⟨nb4, ln4, ch4, dg4, p1, k2.trans p2, p3⟩
  · rw [if_pos (hc.mpr hv), if_neg hv]
    have := putD_out hs v 0 (rvD 19 v.toInt.natAbs) (rvD_ok 19 _) _ 100 S nb1 ln1 ch1 dg2 [] (Nat.le_refl _) (by omega) h q (by show 0 + _ ≤ 24; omega) hdg
    rw [hrev] at this
    exact this
theorem nearest_eq {S : gS} {v lo hi : Int64} (h : lo ≤ hi) : f_X9_nearest S v lo hi = some (mClamp lo hi v, S) := by
  unfold f_X9_nearest mClamp
  by_cases h1 : v < lo
  · rw [if_neg (show ¬ 0 ≤ lg_cmp v lo from fun q => by rw [lg_cmp_ge] at q; exact Int64.lt_irrefl (Int64.lt_of_lt_of_le h1 q)), if_pos h1]
  · rw [if_pos (show 0 ≤ lg_cmp v lo by rw [lg_cmp_ge]; exact Int64.not_lt.mp h1), if_neg h1]
    by_cases h2 : hi < v
    · rw [if_neg (show ¬ lg_cmp v hi ≤ 0 from fun q => by rw [cmp_le0] at q; exact Int64.lt_irrefl (Int64.lt_of_lt_of_le h2 q)), if_pos h2]
    · rw [if_pos (show lg_cmp v hi ≤ 0 by rw [cmp_le0]; exact Int64.not_lt.mp h2), if_neg h2]
theorem rbecome_eq {S : gS} {s : Nat} {nb : Nat → Int64} {ln ch dg : Nat → Int32} {tf tt : Int32} {x : mV} (h : RefOk S) (hs : s < 656) (hx : RVv tf nb ln ch s x) (ht : tt = 0 ∨ tt = 1 ∨ tt = 2 ∨ tt = 3 ∨ tt = 4) : ROp S s nb ln ch (f_X9_become (Q4 S nb ln ch dg) 237 (nI s) tf tt) (fun nb1 ln1 ch1 => RVv tt nb1 ln1 ch1 s (mBec tf tt x)) := by
  unfold f_X9_become
  dsimp only [g_jn, g_cVL, g_cVV, g_getR, g_cL, Nat.reduceMul, Nat.reduceAdd]
  unfold RVv at hx
  unfold mBec mVal
  have tail : ∀ (v : Int64) (nb1 : Nat → Int64) (ln1 ch1 dg1 : Nat → Int32), RTx ln1 ch1 s [] → ROp S s nb1 ln1 ch1
      (if tt = (0 : Int32) then (if lg_cmp v (0 : Int64) = 0 then g_stL (Q4 S nb1 ln1 ch1 dg1) 238 (nI s) 0 fun S12 => some S12 else g_stL (Q4 S nb1 ln1 ch1 dg1) 238 (nI s) 1 fun S12 => some S12)
       else if tt = (1 : Int32) then ((f_X9_nearest (Q4 S nb1 ln1 ch1 dg1) v (-32768 : Int64) (32767 : Int64)).bind fun z => g_stL z.2 238 (nI s) z.1 fun S17 => some S17)
       else if tt = (2 : Int32) then ((f_X9_nearest (Q4 S nb1 ln1 ch1 dg1) v (-2147483648 : Int64) (2147483647 : Int64)).bind fun z => g_stL z.2 238 (nI s) z.1 fun S22 => some S22)
       else if tt = (3 : Int32) then g_stL (Q4 S nb1 ln1 ch1 dg1) 238 (nI s) v fun S25 => some S25
       else g_ck (Q4 S nb1 ln1 ch1 dg1) 9 237 ((f_X9_putDigits (Q4 S nb1 ln1 ch1 dg1) 237 (nI s) v).bind fun S26 => some S26)) (fun nb2 ln2 ch2 => RVv tt nb2 ln2 ch2 s (mPut tt v)) := by
    intro v nb1 ln1 ch1 dg1 hq
    rcases ht with rfl | rfl | rfl | rfl | rfl
    · rw [if_pos rfl, mPut0]
      by_cases hv : v = 0
      · rw [if_pos ((cmp_eq0 _ _).mpr hv), if_pos hv]
        exact stL_R h hs (by decide)
      · rw [if_neg (fun q => hv ((cmp_eq0 _ _).mp q)), if_neg hv]
        exact stL_R h hs (by decide)
    · rw [if_neg (by decide), if_pos rfl, mPut1, nearest_eq (by decide), Option.bind_some]
      exact stL_R h hs (by decide)
    · rw [if_neg (by decide), if_neg (by decide), if_pos rfl, mPut2, nearest_eq (by decide), Option.bind_some]
      exact stL_R h hs (by decide)
    · rw [if_neg (by decide), if_neg (by decide), if_neg (by decide), if_pos rfl, mPut3]
      exact stL_R h hs (by decide)
    · rw [if_neg (by decide), if_neg (by decide), if_neg (by decide), if_neg (by decide), mPut4, Q4_ck, ck9 h]
      rw [show ((f_X9_putDigits (Q4 S nb1 ln1 ch1 dg1) 237 (nI s) v).bind fun S26 => some S26) = f_X9_putDigits (Q4 S nb1 ln1 ch1 dg1) 237 (nI s) v from by cases f_X9_putDigits (Q4 S nb1 ln1 ch1 dg1) 237 (nI s) v <;> rfl]
      refine (putDigits_eq h hs).mono fun nb2 ln2 ch2 _ z => ?_
      unfold RVv
      rw [if_pos rfl]
      exact z
  have key : ∀ v : Int64, ROp S s nb ln ch (g_ck (Q4 S nb ln ch dg) 9 237 ((f_X9_clear (Q4 S nb ln ch dg) 237 (nI s)).bind fun S4 =>
      if tt = (0 : Int32) then g_ck S4 9 237 ((gfR S4 576 237).bind fun a6 => if lg_cmp v (0 : Int64) = 0 then g_stL S4 a6 (nI s) 0 fun S12 => some S12 else g_stL S4 a6 (nI s) 1 fun S12 => some S12)
       else if tt = (1 : Int32) then g_ck S4 9 237 ((gfR S4 576 237).bind fun a14 => (f_X9_nearest S4 v (-32768 : Int64) (32767 : Int64)).bind fun z => g_stL z.2 a14 (nI s) z.1 fun S17 => some S17)
       else if tt = (2 : Int32) then g_ck S4 9 237 ((gfR S4 576 237).bind fun a19 => (f_X9_nearest S4 v (-2147483648 : Int64) (2147483647 : Int64)).bind fun z => g_stL z.2 a19 (nI s) z.1 fun S22 => some S22)
       else if tt = (3 : Int32) then g_ck S4 9 237 ((gfR S4 576 237).bind fun a24 => g_stL S4 a24 (nI s) v fun S25 => some S25)
       else g_ck S4 9 237 ((f_X9_putDigits S4 237 (nI s) v).bind fun S26 => some S26))) (fun nb2 ln2 ch2 => RVv tt nb2 ln2 ch2 s (mPut tt v)) := by
    intro v
    rw [Q4_ck, ck9 h]
    refine ROp.bind (clear_R h hs) fun nb1 ln1 ch1 dg1 q => ?_
    have := tail v nb1 ln1 ch1 dg1 q.2
    simp only [Q4_ck, ck9 h, Q4_fR, rf_numbers h, Option.bind_some] at this ⊢
    exact this
  by_cases h4 : tf = 4
  · rw [if_pos h4] at hx ⊢
    rw [if_pos h4, Q4_ck, ck9 h, told_eq h hs hx, Option.bind_some]
    exact key (mNum x.2)
  · rw [if_neg h4] at hx ⊢
    rw [if_neg h4, Q4_ck, ck9 h, Q4_fR, rf_numbers h, Option.bind_some]
    unfold g_ldL
    rw [Q4_ck, g_ck_t (ri_numbers h), Q4_gln, rl_numbers h, g_ix_t hs (by decide), nI_clamp (by omega), Q4_aL, hx]
    exact key x.1
/-! copies -/
def cpCh (ch : Nat → Int32) (a b k : Nat) : Nat → Int32 := fun j => if 24 * b ≤ j ∧ j < 24 * b + k then ch (24 * a + (j - 24 * b)) else ch j
theorem copy_loop {S : gS} {a b : Nat} {nb : Nat → Int64} {ln ch0 dg : Nat → Int32} (h : RefOk S) (ha : a < 656) (hb : b < 656) (hab : a ≠ b) : ∀ (d n k : Nat), k + d = 24 → d < n →
    l_X9_copy_26 237 (nI a) (nI b) n (Q4 S nb ln (cpCh ch0 a b k) dg) (nI k) = some (Q4 S nb ln (cpCh ch0 a b 24) dg) := by
  intro d
  induction d with
  | zero =>
    intro n k hk hn
    obtain ⟨n, rfl⟩ : ∃ m, n = m + 1 := ⟨n - 1, by omega⟩
    have : k = 24 := by omega
    subst this
    rw [l_X9_copy_26, if_pos (by decide)]
  | succ d ih =>
    intro n k hk hn
    obtain ⟨n, rfl⟩ : ∃ m, n = m + 1 := ⟨n - 1, by omega⟩
    rw [l_X9_copy_26, if_neg (show ¬ (24 : Int32) ≤ nI k from (show ¬ nI 24 ≤ nI k by rw [nI_leI (by omega) (by omega)]; omega))]
    dsimp only [g_getR, g_ldI, g_stI, Nat.reduceMul, Nat.reduceAdd]
    rw [Q4_ck, ck9 h, Q4_fR, rf_chars h, Option.bind_some, ck9 (Q4_ok h), Option.bind_some, mul24, mul24, nI_add, nI_add, Q4_ck, g_ck_t (ri_chars h), Q4_gln, rl_chars h, g_ix_t (by omega) (by decide), Q4_ck, g_ck_t (ri_chars h), g_ix_t (by omega) (by decide), nI_clamp (by omega), nI_clamp (by omega), Q4_a240, Q4_ch, add1]
    have e : upd (cpCh ch0 a b k) (24 * b + k) (cpCh ch0 a b k (24 * a + k)) = cpCh ch0 a b (k + 1) := by
      funext j
      unfold upd cpCh
      by_cases hj : j = 24 * b + k
      · subst hj
        rw [if_pos rfl, if_neg (by omega), if_pos (by omega)]
        congr 1
        omega
      · rw [if_neg hj]
        by_cases hin : 24 * b ≤ j ∧ j < 24 * b + k
        · rw [if_pos hin, if_pos (by omega)]
        · rw [if_neg hin, if_neg (by omega)]
    rw [e]
    exact ih n (k + 1) (by omega) (by omega)
theorem copy_eq {S : gS} {a b : Nat} {nb : Nat → Int64} {ln ch dg : Nat → Int32} (h : RefOk S) (ha : a < 656) (hb : b < 656) (hab : a ≠ b) : f_X9_copy (Q4 S nb ln ch dg) 237 (nI a) (nI b) = some (Q4 S (vp_updL nb b (nb a)) (upd ln b (ln a)) (cpCh ch a b 24) dg) := by
  unfold f_X9_copy
  simp only [g_getI, g_getL, g_getR, g_putI, g_putZ, g_putL, g_putR, g_ldI, g_ldL, g_ldR, g_stI, g_stZ, g_stL, g_stR, g_alen, g_ldX, g_cVI, g_cVL, g_cVR, g_cVV, g_cI, g_cL, g_cN, g_lt, g_jn, g_cpI, g_cpL, g_z, Nat.reduceMul, Nat.reduceAdd, Option.bind_some, or_true, true_or, if_true, q_pI_fI, q_pI_fL, q_pI_fR, q_pI_aI, q_pI_aL, q_pI_aR, q_pI_K, q_pI_ln, q_pI_n, q_pI_sl, q_pI_is, q_pI_ck, q_pL_fI, q_pL_fL, q_pL_fR, q_pL_aI, q_pL_aL, q_pL_aR, q_pL_K, q_pL_ln, q_pL_n, q_pL_sl, q_pL_is, q_pL_ck, q_pR_fI, q_pR_fL, q_pR_fR, q_pR_aI, q_pR_aL, q_pR_aR, q_pR_K, q_pR_ln, q_pR_n, q_pR_sl, q_pR_is, q_pR_ck, q_rI_fI, q_rI_fL, q_rI_fR, q_rI_aI, q_rI_aL, q_rI_aR, q_rI_K, q_rI_ln, q_rI_n, q_rI_sl, q_rI_is, q_rI_ck, q_rL_fI, q_rL_fL, q_rL_fR, q_rL_aI, q_rL_aL, q_rL_aR, q_rL_K, q_rL_ln, q_rL_n, q_rL_sl, q_rL_is, q_rL_ck, q_rR_fI, q_rR_fL, q_rR_fR, q_rR_aI, q_rR_aL, q_rR_aR, q_rR_K, q_rR_ln, q_rR_n, q_rR_sl, q_rR_is, q_rR_ck, Q4_ck, ck9 h, Q4_fR, rf_numbers h, rf_lengths h, g_ck_t (ri_numbers h), g_ck_t (ri_lengths h), Q4_gln, rl_numbers h, rl_lengths h, Q4_aL, Q4_a239]
  simp (disch := omega) only [g_ix_t, nI_clamp, Q4_nb, Q4_ln]
  have e0 : cpCh ch a b 0 = ch := by
    funext j
    unfold cpCh
    rw [if_neg (by omega)]
  have := copy_loop (S := S) (nb := vp_updL nb b (nb a)) (ln := upd ln b (ln a)) (ch0 := ch) (dg := dg) h ha hb hab 24 100 0 (by omega) (by omega)
  rw [e0] at this
  exact this
