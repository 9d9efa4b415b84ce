/-! ===== write of the reference: the draft into a form, a new row ===== -/
theorem upd_self {f : Nat → Int32} {a : Nat} : upd f a (f a) = f := by
  funext j
  by_cases e : j = a
  · rw [e, pk_us]
  · rw [pk_un e]
theorem updL_self {f : Nat → Int64} {a : Nat} : vp_updL f a (f a) = f := by
  funext j
  by_cases e : j = a
  · rw [e, pk_uLs]
  · rw [pk_uLn e]
theorem copySelf_loop {S : gS} {a : Nat} (hI : Imm S) (ha : a < 656) : ∀ (d fu k : Nat), k + d = 24 → d < fu → l_X9_copy_26 237 (nI a) (nI a) fu S (nI k) = some S := by
  have hR := hI.ref
  intro d
  induction d with
  | zero =>
    intro fu k hk hf
    obtain ⟨fu, rfl⟩ : ∃ m, fu = m + 1 := ⟨fu - 1, by omega⟩
    rw [l_X9_copy_26, show (24 : Int32) = nI 24 from rfl, if_pos (nI_le (by omega) (by omega))]
  | succ d ih =>
    intro fu k hk hf
    obtain ⟨fu, rfl⟩ : ∃ m, fu = m + 1 := ⟨fu - 1, by omega⟩
    rw [l_X9_copy_26, if_neg (show ¬ (24 : Int32) ≤ nI k from nI_ge (b := 24) (by omega) (by omega))]
    simp only [g_getI, g_getL, g_getR, g_putI, g_putZ, g_putL, g_putR, g_ldI, g_ldL, g_ldR, g_stI, g_stZ, g_stL, g_stR, g_alen, g_ldX, g_cVI, g_cVL, g_cVR, g_cVV, g_cI, g_cL, g_cN, g_lt, g_jn, g_cpI, g_cpL, g_z, Nat.reduceMul, Nat.reduceAdd, Option.bind_some, or_true, true_or, if_true, ck9 hR, rf_chars hR, g_ck_t (ri_chars hR), rl_chars hR, mul24, nI_add, add1]
    rw [g_ix_t (by omega) (by decide), nI_clamp (by omega), g_ix_t (by omega) (by decide), upd_self, g_rI_id]
    exact ih fu (k + 1) (by omega) (by omega)
theorem copySelf_R {S : gS} {a : Nat} (hI : Imm S) (ha : a < 656) : f_X9_copy S 237 (nI a) (nI a) = some S := by
  have hR := hI.ref
  unfold f_X9_copy
  simp only [g_getI, g_getL, g_getR, g_putI, g_putZ, g_putL, g_putR, g_ldI, g_ldL, g_ldR, g_stI, g_stZ, g_stL, g_stR, g_alen, g_ldX, g_cVI, g_cVL, g_cVR, g_cVV, g_cI, g_cL, g_cN, g_lt, g_jn, g_cpI, g_cpL, g_z, Nat.reduceMul, Nat.reduceAdd, Option.bind_some, or_true, true_or, if_true, q_pI_fI, q_pI_fL, q_pI_fR, q_pI_aI, q_pI_aL, q_pI_aR, q_pI_K, q_pI_ln, q_pI_n, q_pI_sl, q_pI_is, q_pI_ck, q_pL_fI, q_pL_fL, q_pL_fR, q_pL_aI, q_pL_aL, q_pL_aR, q_pL_K, q_pL_ln, q_pL_n, q_pL_sl, q_pL_is, q_pL_ck, q_pR_fI, q_pR_fL, q_pR_fR, q_pR_aI, q_pR_aL, q_pR_aR, q_pR_K, q_pR_ln, q_pR_n, q_pR_sl, q_pR_is, q_pR_ck, q_rI_fI, q_rI_fL, q_rI_fR, q_rI_aI, q_rI_aL, q_rI_aR, q_rI_K, q_rI_ln, q_rI_n, q_rI_sl, q_rI_is, q_rI_ck, q_rL_fI, q_rL_fL, q_rL_fR, q_rL_aI, q_rL_aL, q_rL_aR, q_rL_K, q_rL_ln, q_rL_n, q_rL_sl, q_rL_is, q_rL_ck, q_rR_fI, q_rR_fL, q_rR_fR, q_rR_aI, q_rR_aL, q_rR_aR, q_rR_K, q_rR_ln, q_rR_n, q_rR_sl, q_rR_is, q_rR_ck, ck9 hR, rf_numbers hR, g_ck_t (ri_numbers hR), rl_numbers hR, rf_lengths hR, g_ck_t (ri_lengths hR), rl_lengths hR]
  rw [g_ix_t (by omega) (by decide), nI_clamp (by omega), g_ix_t (by omega) (by decide), g_ix_t (by omega) (by decide), g_ix_t (by omega) (by decide), updL_self, g_rL_id, upd_self, g_rI_id]
  exact copySelf_loop hI ha 24 100 0 (by omega) (by omega)
theorem take_snoc {T : List Nat} {j : Nat} (h : j < T.length) : T.take (j + 1) = T.take j ++ [T.getD j 0] := by
  rw [List.take_succ, some_getD (List.getElem?_eq_getElem h), List.getElem?_eq_getElem h]
  rfl
theorem dletters_loop {b i : Nat} {T : List Nat} {u2 u4 : Int32} {K : gS → Int32 → Option gS} (hT : T.length ≤ 24) (hc : ∀ c ∈ T, 0 < c ∧ c < 256) (hi : i < 8) (hb : b + 8 ≤ 656) : ∀ (d fu j : Nat) (S : gS), j + d = T.length → d < fu → Imm S → gaI S 258 i = nI T.length → (∀ q, q < T.length → gaI S 259 (24 * i + q) = nI (T.getD q 0)) → RTx (gaI S 239) (gaI S 240) (b + i) (T.take j) → ∃ S1, l_X9_drafted_50 237 (nI b) u2 (nI i) u4 fu S (nI j) K = K S1 (nI T.length) ∧ RE V4 [] S S1 ∧ (∀ k, k ≠ b + i → SlotEq S S1 k) ∧ RTx (gaI S1 239) (gaI S1 240) (b + i) T := by
  intro d
  induction d with
  | zero =>
    intro fu j S hj hf hI h1 h2 h3
    have hR := hI.ref
    obtain ⟨fu, rfl⟩ : ∃ m, fu = m + 1 := ⟨fu - 1, by omega⟩
    have : j = T.length := by omega
    subst this
    rw [List.take_length] at h3
    refine ⟨S, ?_, RE.refl, fun _ _ => SlotEq.refl, h3⟩
    rw [l_X9_drafted_50]
    simp only [g_getI, g_getL, g_getR, g_putI, g_putZ, g_putL, g_putR, g_ldI, g_ldL, g_ldR, g_stI, g_stZ, g_stL, g_stR, g_alen, g_ldX, g_cVI, g_cVL, g_cVR, g_cVV, g_cI, g_cL, g_cN, g_lt, g_jn, g_cpI, g_cpL, g_z, Nat.reduceMul, Nat.reduceAdd, Option.bind_some, or_true, true_or, if_true, ck9 hR, rf_letterCount hR, g_ck_t (ri_letterCount hR), rl_letterCount hR]
    rw [g_ix_t (by omega) (by decide), nI_clamp (by omega), h1, if_pos (nI_le (by omega) (by omega))]
  | succ d ih =>
    intro fu j S hj hf hI h1 h2 h3
    have hR := hI.ref
    obtain ⟨fu, rfl⟩ : ∃ m, fu = m + 1 := ⟨fu - 1, by omega⟩
    have hjl : j < T.length := by omega
    obtain ⟨c1, c2⟩ := hc (T.getD j 0) (by rw [some_getD (List.getElem?_eq_getElem hjl)]; exact List.getElem_mem hjl)
    obtain ⟨S2, a1, a2, a3, a4⟩ := addChar_V (S := S) (s := b + i) (c := T.getD j 0) (T := T.take j) hI (by omega) h3 (by rw [List.length_take]; omega) c2
    rw [if_neg (show ¬ T.getD j 0 = 0 by omega), ← take_snoc hjl] at a4
    obtain ⟨S1, b1, b2, b3, b4⟩ := ih fu (j + 1) S2 (by omega) (by omega) (a2.imm hI) (by rw [a2.aI (by decide)]; exact h1) (by rw [a2.aI (by decide)]; exact h2) a4
    refine ⟨S1, ?_, a2.trans b2, fun k hk => (a3 k hk).trans (b3 k hk), b4⟩
    rw [l_X9_drafted_50]
    simp only [g_getI, g_getL, g_getR, g_putI, g_putZ, g_putL, g_putR, g_ldI, g_ldL, g_ldR, g_stI, g_stZ, g_stL, g_stR, g_alen, g_ldX, g_cVI, g_cVL, g_cVR, g_cVV, g_cI, g_cL, g_cN, g_lt, g_jn, g_cpI, g_cpL, g_z, Nat.reduceMul, Nat.reduceAdd, Option.bind_some, or_true, true_or, if_true, ck9 hR, rf_letterCount hR, g_ck_t (ri_letterCount hR), rl_letterCount hR, rf_letterRow hR, g_ck_t (ri_letterRow hR), rl_letterRow hR, mul24, nI_add, add1]
    rw [g_ix_t (by omega) (by decide), nI_clamp (by omega), h1, if_neg (nI_ge hjl (by omega)), g_ix_t (by omega) (by decide), nI_clamp (by omega), h2 j hjl, a1, Option.bind_some]
    exact b1
/-- what the reference needs to know of the draft -/
def drOk (dr : mDr) : Prop := ∀ q, q < 8 → (dr q).2.length ≤ 24 ∧ ∀ c ∈ (dr q).2, 0 < c ∧ c < 256
theorem drafted_loop {b s : Nat} {l : List mCol} {dr : mDr} (ho : scOk l) (hs : s < 2) (hd : drOk dr) (hb : b + 8 ≤ 656) : ∀ (d fu i : Nat) (S : gS), i + d = l.length → d < fu → Imm S → SchR S s l → DraftR S dr → (∀ j c, j < i → l[j]? = some c → RVS c.2 S (b + j) (mDf dr j c.2)) → ∃ S1, l_X9_drafted_2 237 (nI b) (nI s) fu S (nI i) = some S1 ∧ RE V4 [] S S1 ∧ (∀ k, (k < b ∨ b + 8 ≤ k) → SlotEq S S1 k) ∧ ∀ j c, l[j]? = some c → RVS c.2 S1 (b + j) (mDf dr j c.2) := by
  have hl := ho.1
  intro d
  induction d with
  | zero =>
    intro fu i S hi hf hI hS hD hlo
    have hR := hI.ref
    obtain ⟨fu, rfl⟩ : ∃ m, fu = m + 1 := ⟨fu - 1, by omega⟩
    refine ⟨S, ?_, RE.refl, fun _ _ => SlotEq.refl, fun j c hj => hlo j c (by have := lt_of_some hj; omega) hj⟩
    rw [l_X9_drafted_2]
    simp only [g_getR, g_ldI, Nat.reduceMul, Nat.reduceAdd, Option.bind_some, ck9 hR, rf_columns hR, g_ck_t (ri_columns hR), rl_columns hR]
    rw [g_ix_t (by omega) (by decide), nI_clamp (by omega), hS.1, if_pos (nI_le (by omega) (by omega))]
  | succ d ih =>
    intro fu i S hi hf hI hS hD hlo
    have hR := hI.ref
    obtain ⟨fu, rfl⟩ : ∃ m, fu = m + 1 := ⟨fu - 1, by omega⟩
    have hil : i < l.length := by omega
    have hc := List.getElem?_eq_getElem hil
    have hti := (hS.2 i _ hc).2
    have hit := ho.2.1 _ (List.mem_of_getElem? hc)
    obtain ⟨dd1, dd2, dd3⟩ := hD i (by omega)
    obtain ⟨dn1, dn2⟩ := hd i (by omega)
    have fin : ∀ S2, RE V4 [] S S2 → (∀ k, k ≠ b + i → SlotEq S S2 k) → RVS (l[i]).2 S2 (b + i) (mDf dr i (l[i]).2) → ∃ S1, l_X9_drafted_2 237 (nI b) (nI s) fu S2 (nI i + 1) = some S1 ∧ RE V4 [] S S1 ∧ (∀ k, (k < b ∨ b + 8 ≤ k) → SlotEq S S1 k) ∧ ∀ j c, l[j]? = some c → RVS c.2 S1 (b + j) (mDf dr j c.2) := by
      intro S2 e2 w2 v2
      obtain ⟨S1, a1, a2, a3, a4⟩ := ih fu (i + 1) S2 (by omega) (by omega) (e2.imm hI) (hS.e e2 (by decide)) (hD.e e2 (by decide)) (fun j c hj hjc => by
        by_cases q : j = i
        · subst q
          rw [hc] at hjc
          cases hjc
          exact v2
        · exact (hlo j c (by omega) hjc).slot (w2 _ (by omega)))
      exact ⟨S1, by rw [add1]; exact a1, e2.trans a2, fun k hk => (w2 k (by omega)).trans (a3 k hk), a4⟩
    have told : ¬ ((l[i]).2 = 4 ∧ 0 < (dr i).2.length) → ∃ S1, (g_cVV S 9 237 (f_X9_tell S 237 (nI (b + i)) (l[i]).2 (gaI S 256 i) (gaI S 257 i)) fun S12 => l_X9_drafted_2 237 (nI b) (nI s) fu S12 (nI i + 1)) = some S1 ∧ RE V4 [] S S1 ∧ (∀ k, (k < b ∨ b + 8 ≤ k) → SlotEq S S1 k) ∧ ∀ j c, l[j]? = some c → RVS c.2 S1 (b + j) (mDf dr j c.2) := by
      intro hno
      obtain ⟨S2, b1, b2, b3, b4⟩ := tell_V (S := S) (s := b + i) (t := (l[i]).2) (a := gaI S 256 i) (b := gaI S 257 i) hI (by omega) hit
      unfold g_cVV
      rw [ck9 hR, b1, Option.bind_some]
      refine fin S2 b2 b3 ?_
      unfold mDf
      rw [if_neg hno, ← dd1]
      exact b4
    rw [l_X9_drafted_2]
    simp only [g_getR, g_ldI, g_jn, Nat.reduceMul, Nat.reduceAdd, Option.bind_some, ck9 hR, rf_columns hR, g_ck_t (ri_columns hR), rl_columns hR, rf_types hR, g_ck_t (ri_types hR), rl_types hR, rf_letterCount hR, g_ck_t (ri_letterCount hR), rl_letterCount hR, rf_draftA hR, g_ck_t (ri_draftA hR), rl_draftA hR, rf_draftB hR, g_ck_t (ri_draftB hR), rl_draftB hR]
    rw [show (8 : Int32) * nI s + nI i = nI (8 * s + i) by rw [show (8 : Int32) = nI 8 from rfl, pk_mul, nI_add], nI_add]
    rw [g_ix_t (by omega) (by decide), nI_clamp (by omega), hS.1, if_neg (nI_ge hil (by omega)), g_ix_t (by omega) (by decide), nI_clamp (by omega), hti]
    simp (disch := omega) only [g_ix_t, nI_clamp, dd2]
    by_cases e4 : (l[i]).2 = 4
    · rw [if_pos e4]
      by_cases e5 : 0 < (dr i).2.length
      · rw [if_neg (show ¬ nI (dr i).2.length ≤ 0 from nI_nle (by omega) (by omega))]
        obtain ⟨S2, b1, b2, b3, b4⟩ := clear_V (S := S) (s := b + i) hI (by omega)
        unfold g_cVV
        rw [ck9 hR, b1, Option.bind_some]
        obtain ⟨S3, c1, c2, c3, c4⟩ := dletters_loop (b := b) (i := i) (T := (dr i).2) (u2 := nI s) (u4 := (l[i]).2) (K := fun S22 _ => l_X9_drafted_2 237 (nI b) (nI s) fu S22 (nI i + 1)) dn1 dn2 (by omega) hb (dr i).2.length 100 0 S2 (by omega) (by omega) (b2.imm hI) (by rw [b2.aI (by decide)]; exact dd2) (by rw [b2.aI (by decide)]; exact dd3) b4.2
        rw [show (0 : Int32) = nI 0 from rfl, c1]
        refine fin S3 (b2.trans c2) (fun k hk => (b3 k hk).trans (c3 k hk)) ?_
        unfold mDf
        rw [if_pos ⟨e4, e5⟩]
        unfold RVS RVv
        rw [if_pos e4]
        exact c4
      · rw [if_pos (show nI (dr i).2.length ≤ 0 by rw [show (dr i).2.length = 0 by omega]; decide)]
        exact told (fun q => e5 q.2)
    · rw [if_neg e4]
      exact told (fun q => e4 q.1)
theorem drafted_R {S : gS} {b s : Nat} {l : List mCol} {dr : mDr} (hI : Imm S) (ho : scOk l) (hs : s < 2) (hd : drOk dr) (hb : b + 8 ≤ 656) (hS : SchR S s l) (hD : DraftR S dr) : ∃ S1, f_X9_drafted S 237 (nI b) (nI s) = some S1 ∧ RE V4 [] S S1 ∧ (∀ k, (k < b ∨ b + 8 ≤ k) → SlotEq S S1 k) ∧ FormR S1 b (tys l) (mDfs dr (tys l)) := by
  obtain ⟨S1, a1, a2, a3, a4⟩ := drafted_loop ho hs hd hb l.length 100 0 S (by omega) (by have := ho.1; omega) hI hS hD (fun j c hj => by omega)
  refine ⟨S1, a1, a2, a3, FormR.of (by rw [mDfs_len, tys_len]) fun i c x hc hx => ?_⟩
  rw [mDfs_get (get_tys hc) hx]
  exact a4 i c hc
/-! a new row -/
theorem php : ∀ (n : Nat) (f : Nat → Nat), (∀ a, a < n + 1 → f a < n) → (∀ a b, a < n + 1 → b < n + 1 → f a = f b → a = b) → False := by
  intro n
  induction n with
  | zero => intro f h _; exact absurd (h 0 (by omega)) (by omega)
  | succ n ih =>
    intro f h hi
    refine ih (fun a => if f a = n then f (n + 1) else f a) (fun a ha => ?_) (fun a b ha hb hab => ?_)
    · show (if f a = n then f (n + 1) else f a) < n
      by_cases e : f a = n
      · rw [if_pos e]
        have h1 := h (n + 1) (by omega)
        have : f (n + 1) ≠ n := fun z => by
          have := hi a (n + 1) (by omega) (by omega) (e.trans z.symm)
          omega
        omega
      · rw [if_neg e]
        have := h a (by omega)
        omega
    · replace hab : (if f a = n then f (n + 1) else f a) = (if f b = n then f (n + 1) else f b) := hab
      by_cases e : f a = n
      · rw [if_pos e] at hab
        by_cases e2 : f b = n
        · exact hi a b (by omega) (by omega) (e.trans e2.symm)
        · rw [if_neg e2] at hab
          have := hi (n + 1) b (by omega) (by omega) hab
          omega
      · rw [if_neg e] at hab
        by_cases e2 : f b = n
        · rw [if_pos e2] at hab
          have := hi a (n + 1) (by omega) (by omega) hab
          omega
        · rw [if_neg e2] at hab
          exact hi a b (by omega) (by omega) hab
theorem free_slot {S : gS} {n : Nat} (hn : n < 40) (h3 : ∀ s, s < 40 → (gaI S 247 s = 0 ∨ (gaI S 247 s = 1 ∧ ∃ i, i < n ∧ gaI S 243 i = nI s))) : ∃ s, s < 40 ∧ gaI S 247 s = 0 := by
  refine Classical.byContradiction fun hno => ?_
  have hu : ∀ s, s < 40 → ∃ i, i < n ∧ gaI S 243 i = nI s := fun s hs => by
    rcases h3 s hs with q | q
    · exact absurd ⟨s, hs, q⟩ hno
    · exact q.2
  have hf : ∀ s, ∃ i, s < 40 → i < n ∧ gaI S 243 i = nI s := fun s => by
    by_cases e : s < 40
    · obtain ⟨i, i1⟩ := hu s e
      exact ⟨i, fun _ => i1⟩
    · exact ⟨0, fun z => absurd z e⟩
  refine php 39 (fun s => Classical.choose (hf s)) (fun a ha => ?_) (fun a b ha hb hab => ?_)
  · have := (Classical.choose_spec (hf a) ha).1
    omega
  · have h1 := (Classical.choose_spec (hf a) ha).2
    have h2 := (Classical.choose_spec (hf b) hb).2
    replace hab : Classical.choose (hf a) = Classical.choose (hf b) := hab
    rw [hab] at h1
    exact (nI_eq (by omega) (by omega)).mp (h1.symm.trans h2)
theorem free_loop {S : gS} {u1 u2 : Int32} {K : gS → Int32 → Option (Int32 × gS)} (hI : Imm S) : ∀ (d fu k : Nat), k + d = 40 → d < fu → (∃ s, k ≤ s ∧ s < 40 ∧ gaI S 247 s = 0) → ∃ s, s < 40 ∧ gaI S 247 s = 0 ∧ l_X9_insert_37 237 u1 u2 fu S (nI k) K = K S (nI s) := by
  have hR := hI.ref
  intro d
  induction d with
  | zero => intro fu k hk hf h; obtain ⟨s, s1, s2, s3⟩ := h; omega
  | succ d ih =>
    intro fu k hk hf h
    obtain ⟨fu, rfl⟩ : ∃ m, fu = m + 1 := ⟨fu - 1, by omega⟩
    have one : l_X9_insert_37 237 u1 u2 (fu + 1) S (nI k) K = if gaI S 247 k = 0 then K S (nI k) else l_X9_insert_37 237 u1 u2 fu S (nI (k + 1)) K := by
      rw [l_X9_insert_37]
      simp only [g_getR, g_ldI, Nat.reduceMul, Nat.reduceAdd, Option.bind_some, ck9 hR, rf_isUsed hR, g_ck_t (ri_isUsed hR), rl_isUsed hR]
      rw [g_ix_t (by omega) (by decide), nI_clamp (by omega), add1]
    rw [one]
    by_cases e : gaI S 247 k = 0
    · exact ⟨k, by omega, e, if_pos e⟩
    · rw [if_neg e]
      obtain ⟨s, s1, s2, s3⟩ := h
      have : s ≠ k := fun z => e (z ▸ s3)
      exact ih fu (k + 1) (by omega) (by omega) ⟨s, by omega, s2, s3⟩
theorem rinsert_loop {tb : List mRow} {key : Int32} {K : gS → Int32 → Option (Int32 × gS)} (hs : Srt tb) (hl : tb.length < 40) : ∀ (d fu : Nat) (S : gS), cntLe key tb + d ≤ tb.length → d < fu → Imm S → BO S → (∀ (j : Nat) (r : mRow), j < cntLe key tb + d → tb[j]? = some r → gaI S 242 j = r.1) → ∃ S1, l_X9_insert_5 237 key fu S (nI (cntLe key tb + d)) K = K S1 (nI (cntLe key tb)) ∧ RE A5 [] S S1 ∧ Sh5 S S1 (fun j => if cntLe key tb < j ∧ j ≤ cntLe key tb + d then j - 1 else j) := by
  have hlo := cntLe_lo key tb
  have hhi := fun i r => cntLe_hi key tb i r hs
  generalize cntLe key tb = i at hlo hhi ⊢
  intro d
  induction d with
  | zero =>
    intro fu S hi hf hI hB hk
    have hR := hI.ref
    obtain ⟨fu, rfl⟩ : ∃ m, fu = m + 1 := ⟨fu - 1, by omega⟩
    refine ⟨S, ?_, RE.refl, Sh5.id.congr fun j => if_neg (by omega)⟩
    show l_X9_insert_5 237 key (fu + 1) S (nI i) K = _
    rw [l_X9_insert_5]
    by_cases e : i = 0
    · rw [if_pos (by rw [e]; decide)]
    · rw [if_neg (show ¬ nI i ≤ 0 from nI_nle (by omega) (by omega)), show nI i - (1 : Int32) = nI (i - 1) from sub_nI (b := 1) (by omega)]
      have hil : i - 1 < tb.length := by omega
      have hc := List.getElem?_eq_getElem hil
      simp only [g_getR, g_ldI, Nat.reduceMul, Nat.reduceAdd, Option.bind_some, ck9 hR, rf_keys hR, g_ck_t (ri_keys hR), rl_keys hR]
      rw [g_ix_t (by omega) (by decide), nI_clamp (by omega), hk (i - 1) _ (by omega) hc, if_pos (Int32.not_lt.mp (hlo (i - 1) _ (by omega) hc))]
  | succ d ih =>
    intro fu S hi hf hI hB hk
    have hR := hI.ref
    obtain ⟨fu, rfl⟩ : ∃ m, fu = m + 1 := ⟨fu - 1, by omega⟩
    have hil : i + d < tb.length := by omega
    have hc := List.getElem?_eq_getElem hil
    obtain ⟨S2, a1, a2, a3⟩ := moveRow_R (S := S) (a := i + d) (b := i + d + 1) hI (by omega) (by omega) hB
    obtain ⟨S1, b1, b2, b3⟩ := ih fu S2 (by omega) (by omega) (a2.imm hI) (a3.bo hB) (fun j r hj hjr => by
      rw [a3 242 (by decide) j]
      show gaI S 242 (if j = i + d + 1 then i + d else j) = r.1
      rw [if_neg (by omega)]
      exact hk j r (by omega) hjr)
    refine ⟨S1, ?_, a2.trans b2, (a3.trans b3).congr fun j => ?_⟩
    · rw [← b1, show i + (d + 1) = i + d + 1 from rfl, l_X9_insert_5, if_neg (show ¬ nI (i + d + 1) ≤ 0 from nI_nle (by omega) (by omega)), show nI (i + d + 1) - (1 : Int32) = nI (i + d) from sub_nI (b := 1) (by omega), add_m1]
      simp only [g_getR, g_ldI, g_cVV, Nat.reduceMul, Nat.reduceAdd, Option.bind_some, ck9 hR, rf_keys hR, g_ck_t (ri_keys hR), rl_keys hR, a1]
      rw [g_ix_t (by omega) (by decide), nI_clamp (by omega), hk (i + d) _ (by omega) hc, if_neg (fun z => absurd (hhi (i + d) _ (by omega) hc) (Int32.not_lt.mpr z))]
    · by_cases c : i < j ∧ j ≤ i + d
      · rw [if_pos c, if_pos (by omega), if_neg (by omega)]
      · rw [if_neg c]
        by_cases e : j = i + d + 1
        · rw [if_pos e, if_pos (by omega), e]
          rfl
        · rw [if_neg e, if_neg (by omega)]
/-- a table but for one row -/
def TabX (S : gS) (tb : List mRow) (i : Nat) (sc nx : List mCol) (run : Bool) : Prop := gfI S 582 237 = nI tb.length ∧ (∀ i j, i < tb.length → j < tb.length → gaI S 243 i = gaI S 243 j → i = j) ∧ ((∀ s, s < 40 → (gaI S 247 s = 0 ∨ (gaI S 247 s = 1 ∧ ∃ i, i < tb.length ∧ gaI S 243 i = nI s))) ∧ BO S) ∧ ∀ j r, j ≠ i → tb[j]? = some r → RowR S j r sc nx run
theorem TabX.put {A F : List Nat} {S S1 : gS} {tb : List mRow} {sc nx : List mCol} {run : Bool} {i s : Nat} {r1 : mRow} (h : TabX S tb i sc nx run) (hs : sc.length ≤ 8) (hn : run = true → nx.length ≤ 8) (hlt : i < tb.length) (hsi : gaI S 243 i = nI s) (e : RE A F S S1) (hA : ∀ a ∈ [242, 243, 247], a ∉ A) (hF : 582 ∉ F) (ex : ∀ x ∈ [244, 245, 246], ∀ j, j ≠ i → gaI S1 x j = gaI S x j) (w : ∀ k, (k < 16 * s ∨ 16 * s + 16 ≤ k) → k < 648 → SlotEq S S1 k) (hB : BO S1) (hr : RowR S1 i r1 sc nx run) : TableR S1 (tb.set i r1) sc nx run := by
  obtain ⟨h1, h2, ⟨h3, -⟩, h4⟩ := h
  have x2 : gaI S1 242 = gaI S 242 := e.aI (hA 242 (by decide))
  have x3 : gaI S1 243 = gaI S 243 := e.aI (hA 243 (by decide))
  have x7 : gaI S1 247 = gaI S 247 := e.aI (hA 247 (by decide))
  refine ⟨by rw [List.length_set, e.fI hF]; exact h1, by rw [List.length_set, x3]; exact h2, ⟨by rw [List.length_set, x7, x3]; exact h3, hB⟩, fun j z hj => ?_⟩
  rw [List.getElem?_set] at hj
  by_cases c : i = j
  · subst c
    rw [if_pos rfl, if_pos hlt] at hj
    cases hj
    exact hr
  · rw [if_neg c] at hj
    exact (h4 j z (fun q => c q.symm) hj).oth hs hn x2 x3 x7 (fun x hx => ex x hx j (fun q => c q.symm)) (fun q => c (h2 i j hlt (lt_of_some hj) (hsi.trans q.symm))) w
theorem mIns_set {i : Nat} {r r1 : mRow} {tb : List mRow} (h : i ≤ tb.length) : (mIns i r tb).set i r1 = mIns i r1 tb := by
  unfold mIns
  rw [List.set_append_right _ _ (by rw [List.length_take]; omega), List.length_take, show i - min i tb.length = 0 by omega]
  rfl
theorem insert_R {S : gS} {tb : List mRow} {sc nx : List mCol} {run : Bool} {key : Int32} {r0 : mRow} (h : TableR S tb sc nx run) (hI : Imm S) (hs : Srt tb) (hl : tb.length < 40) : ∃ S1 s, f_X9_insert S 237 key = some (nI (cntLe key tb), S1) ∧ RE [242, 243, 244, 245, 246, 247] [582] S S1 ∧ s < 40 ∧ gaI S1 243 (cntLe key tb) = nI s ∧ gaI S1 247 s = 1 ∧ gaI S1 242 (cntLe key tb) = key ∧ gaI S1 244 (cntLe key tb) = 0 ∧ TabX S1 (mIns (cntLe key tb) r0 tb) (cntLe key tb) sc nx run := by
  obtain ⟨h1, h2, ⟨h3, hB⟩, h4⟩ := h
  have hR := hI.ref
  have hc := cntLe_le key tb
  obtain ⟨S2, b1, b2, b3⟩ := rinsert_loop (key := key) (K := fun S5 v6 => (
l_X9_insert_37 237 key v6 100 S5 (0 : Int32) (fun S9 v10 => (
g_getR S9 9 10 237 fun a11 =>
g_stZ S9 a11 v10 (1 : Int32) fun S12 =>
g_getR S12 9 4 237 fun a13 =>
g_stI S12 a13 v6 key fun S14 =>
g_getR S14 9 5 237 fun a15 =>
g_stI S14 a15 v6 v10 fun S16 =>
g_getR S16 9 7 237 fun a17 =>
g_stI S16 a17 v6 (0 : Int32) fun S18 =>
g_getR S18 9 8 237 fun a19 =>
g_stZ S18 a19 v6 (0 : Int32) fun S20 =>
g_getR S20 9 9 237 fun a21 =>
g_stZ S20 a21 v6 (0 : Int32) fun S22 =>
g_getI S22 9 6 237 fun x23 =>
g_putI S22 9 6 237 (x23 + (1 : Int32)) fun S24 =>
some (v6, S24))))) hs hl (tb.length - cntLe key tb) 100 S (by omega) (by omega) hI hB (fun j r _ hjr => (h4 j r hjr).1)
  generalize cntLe key tb = i at hc b1 b3 ⊢
  rw [show i + (tb.length - i) = tb.length by omega] at b1 b3
  have hI2 := b2.imm hI
  have hR2 := hI2.ref
  obtain ⟨s0, s1, s2⟩ := free_slot hl h3
  have u2 : gaI S2 247 = gaI S 247 := b2.aI (by decide)
  obtain ⟨s, c1, c2, c3⟩ := free_loop (S := S2) (u1 := key) (u2 := nI i) (K := fun S9 v10 => (
g_getR S9 9 10 237 fun a11 =>
g_stZ S9 a11 v10 (1 : Int32) fun S12 =>
g_getR S12 9 4 237 fun a13 =>
g_stI S12 a13 (nI i) key fun S14 =>
g_getR S14 9 5 237 fun a15 =>
g_stI S14 a15 (nI i) v10 fun S16 =>
g_getR S16 9 7 237 fun a17 =>
g_stI S16 a17 (nI i) (0 : Int32) fun S18 =>
g_getR S18 9 8 237 fun a19 =>
g_stZ S18 a19 (nI i) (0 : Int32) fun S20 =>
g_getR S20 9 9 237 fun a21 =>
g_stZ S20 a21 (nI i) (0 : Int32) fun S22 =>
g_getI S22 9 6 237 fun x23 =>
g_putI S22 9 6 237 (x23 + (1 : Int32)) fun S24 =>
some (nI i, S24))) hI2 40 100 0 (by omega) (by omega) ⟨s0, by omega, s1, by rw [u2]; exact s2⟩
  have n2 : gfI S2 582 237 = nI tb.length := by rw [b2.fI (by decide)]; exact h1
  rw [u2] at c2
  generalize hS3 : g_pI (g_rI (g_rI (g_rI (g_rI (g_rI (g_rI S2 247 (upd (gaI S2 247) s 1)) 242 (upd (gaI S2 242) i key)) 243 (upd (gaI S2 243) i (nI s))) 244 (upd (gaI S2 244) i 0)) 245 (upd (gaI S2 245) i 0)) 246 (upd (gaI S2 246) i 0)) 582 237 (nI (tb.length + 1)) = S3
  have e3 : RE [242, 243, 244, 245, 246, 247] [582] S2 S3 := by
    rw [← hS3]
    exact ((((((RE.rI (by decide)).trans (RE.rI (by decide))).trans (RE.rI (by decide))).trans (RE.rI (by decide))).trans (RE.rI (by decide))).trans (RE.rI (by decide))).trans (RE.pI (by decide))
  have sh : ∀ x ∈ A5, ∀ j, gaI S2 x j = gaI S x (if i < j ∧ j ≤ tb.length then j - 1 else j) := b3
  have v242 : gaI S3 242 = upd (gaI S2 242) i key := by rw [← hS3]; simp only [q_pI_fI, q_pI_fL, q_pI_fR, q_pI_aI, q_pI_aL, q_pI_aR, q_pI_K, q_pI_ln, q_pI_n, q_pI_sl, q_pI_is, q_pI_ck, q_pL_fI, q_pL_fL, q_pL_fR, q_pL_aI, q_pL_aL, q_pL_aR, q_pL_K, q_pL_ln, q_pL_n, q_pL_sl, q_pL_is, q_pL_ck, q_pR_fI, q_pR_fL, q_pR_fR, q_pR_aI, q_pR_aL, q_pR_aR, q_pR_K, q_pR_ln, q_pR_n, q_pR_sl, q_pR_is, q_pR_ck, q_rI_fI, q_rI_fL, q_rI_fR, q_rI_aI, q_rI_aL, q_rI_aR, q_rI_K, q_rI_ln, q_rI_n, q_rI_sl, q_rI_is, q_rI_ck, q_rL_fI, q_rL_fL, q_rL_fR, q_rL_aI, q_rL_aL, q_rL_aR, q_rL_K, q_rL_ln, q_rL_n, q_rL_sl, q_rL_is, q_rL_ck, q_rR_fI, q_rR_fL, q_rR_fR, q_rR_aI, q_rR_aL, q_rR_aR, q_rR_K, q_rR_ln, q_rR_n, q_rR_sl, q_rR_is, q_rR_ck, g_row, Nat.reduceEqDiff, reduceIte]
  have v243 : gaI S3 243 = upd (gaI S2 243) i (nI s) := by rw [← hS3]; simp only [q_pI_fI, q_pI_fL, q_pI_fR, q_pI_aI, q_pI_aL, q_pI_aR, q_pI_K, q_pI_ln, q_pI_n, q_pI_sl, q_pI_is, q_pI_ck, q_pL_fI, q_pL_fL, q_pL_fR, q_pL_aI, q_pL_aL, q_pL_aR, q_pL_K, q_pL_ln, q_pL_n, q_pL_sl, q_pL_is, q_pL_ck, q_pR_fI, q_pR_fL, q_pR_fR, q_pR_aI, q_pR_aL, q_pR_aR, q_pR_K, q_pR_ln, q_pR_n, q_pR_sl, q_pR_is, q_pR_ck, q_rI_fI, q_rI_fL, q_rI_fR, q_rI_aI, q_rI_aL, q_rI_aR, q_rI_K, q_rI_ln, q_rI_n, q_rI_sl, q_rI_is, q_rI_ck, q_rL_fI, q_rL_fL, q_rL_fR, q_rL_aI, q_rL_aL, q_rL_aR, q_rL_K, q_rL_ln, q_rL_n, q_rL_sl, q_rL_is, q_rL_ck, q_rR_fI, q_rR_fL, q_rR_fR, q_rR_aI, q_rR_aL, q_rR_aR, q_rR_K, q_rR_ln, q_rR_n, q_rR_sl, q_rR_is, q_rR_ck, g_row, Nat.reduceEqDiff, reduceIte]
  have v244 : gaI S3 244 = upd (gaI S2 244) i 0 := by rw [← hS3]; simp only [q_pI_fI, q_pI_fL, q_pI_fR, q_pI_aI, q_pI_aL, q_pI_aR, q_pI_K, q_pI_ln, q_pI_n, q_pI_sl, q_pI_is, q_pI_ck, q_pL_fI, q_pL_fL, q_pL_fR, q_pL_aI, q_pL_aL, q_pL_aR, q_pL_K, q_pL_ln, q_pL_n, q_pL_sl, q_pL_is, q_pL_ck, q_pR_fI, q_pR_fL, q_pR_fR, q_pR_aI, q_pR_aL, q_pR_aR, q_pR_K, q_pR_ln, q_pR_n, q_pR_sl, q_pR_is, q_pR_ck, q_rI_fI, q_rI_fL, q_rI_fR, q_rI_aI, q_rI_aL, q_rI_aR, q_rI_K, q_rI_ln, q_rI_n, q_rI_sl, q_rI_is, q_rI_ck, q_rL_fI, q_rL_fL, q_rL_fR, q_rL_aI, q_rL_aL, q_rL_aR, q_rL_K, q_rL_ln, q_rL_n, q_rL_sl, q_rL_is, q_rL_ck, q_rR_fI, q_rR_fL, q_rR_fR, q_rR_aI, q_rR_aL, q_rR_aR, q_rR_K, q_rR_ln, q_rR_n, q_rR_sl, q_rR_is, q_rR_ck, g_row, Nat.reduceEqDiff, reduceIte]
  have v245 : gaI S3 245 = upd (gaI S2 245) i 0 := by rw [← hS3]; simp only [q_pI_fI, q_pI_fL, q_pI_fR, q_pI_aI, q_pI_aL, q_pI_aR, q_pI_K, q_pI_ln, q_pI_n, q_pI_sl, q_pI_is, q_pI_ck, q_pL_fI, q_pL_fL, q_pL_fR, q_pL_aI, q_pL_aL, q_pL_aR, q_pL_K, q_pL_ln, q_pL_n, q_pL_sl, q_pL_is, q_pL_ck, q_pR_fI, q_pR_fL, q_pR_fR, q_pR_aI, q_pR_aL, q_pR_aR, q_pR_K, q_pR_ln, q_pR_n, q_pR_sl, q_pR_is, q_pR_ck, q_rI_fI, q_rI_fL, q_rI_fR, q_rI_aI, q_rI_aL, q_rI_aR, q_rI_K, q_rI_ln, q_rI_n, q_rI_sl, q_rI_is, q_rI_ck, q_rL_fI, q_rL_fL, q_rL_fR, q_rL_aI, q_rL_aL, q_rL_aR, q_rL_K, q_rL_ln, q_rL_n, q_rL_sl, q_rL_is, q_rL_ck, q_rR_fI, q_rR_fL, q_rR_fR, q_rR_aI, q_rR_aL, q_rR_aR, q_rR_K, q_rR_ln, q_rR_n, q_rR_sl, q_rR_is, q_rR_ck, g_row, Nat.reduceEqDiff, reduceIte]
  have v246 : gaI S3 246 = upd (gaI S2 246) i 0 := by rw [← hS3]; simp only [q_pI_fI, q_pI_fL, q_pI_fR, q_pI_aI, q_pI_aL, q_pI_aR, q_pI_K, q_pI_ln, q_pI_n, q_pI_sl, q_pI_is, q_pI_ck, q_pL_fI, q_pL_fL, q_pL_fR, q_pL_aI, q_pL_aL, q_pL_aR, q_pL_K, q_pL_ln, q_pL_n, q_pL_sl, q_pL_is, q_pL_ck, q_pR_fI, q_pR_fL, q_pR_fR, q_pR_aI, q_pR_aL, q_pR_aR, q_pR_K, q_pR_ln, q_pR_n, q_pR_sl, q_pR_is, q_pR_ck, q_rI_fI, q_rI_fL, q_rI_fR, q_rI_aI, q_rI_aL, q_rI_aR, q_rI_K, q_rI_ln, q_rI_n, q_rI_sl, q_rI_is, q_rI_ck, q_rL_fI, q_rL_fL, q_rL_fR, q_rL_aI, q_rL_aL, q_rL_aR, q_rL_K, q_rL_ln, q_rL_n, q_rL_sl, q_rL_is, q_rL_ck, q_rR_fI, q_rR_fL, q_rR_fR, q_rR_aI, q_rR_aL, q_rR_aR, q_rR_K, q_rR_ln, q_rR_n, q_rR_sl, q_rR_is, q_rR_ck, g_row, Nat.reduceEqDiff, reduceIte]
  have v247 : gaI S3 247 = upd (gaI S 247) s 1 := by rw [← hS3, ← u2]; simp only [q_pI_fI, q_pI_fL, q_pI_fR, q_pI_aI, q_pI_aL, q_pI_aR, q_pI_K, q_pI_ln, q_pI_n, q_pI_sl, q_pI_is, q_pI_ck, q_pL_fI, q_pL_fL, q_pL_fR, q_pL_aI, q_pL_aL, q_pL_aR, q_pL_K, q_pL_ln, q_pL_n, q_pL_sl, q_pL_is, q_pL_ck, q_pR_fI, q_pR_fL, q_pR_fR, q_pR_aI, q_pR_aL, q_pR_aR, q_pR_K, q_pR_ln, q_pR_n, q_pR_sl, q_pR_is, q_pR_ck, q_rI_fI, q_rI_fL, q_rI_fR, q_rI_aI, q_rI_aL, q_rI_aR, q_rI_K, q_rI_ln, q_rI_n, q_rI_sl, q_rI_is, q_rI_ck, q_rL_fI, q_rL_fL, q_rL_fR, q_rL_aI, q_rL_aL, q_rL_aR, q_rL_K, q_rL_ln, q_rL_n, q_rL_sl, q_rL_is, q_rL_ck, q_rR_fI, q_rR_fL, q_rR_fR, q_rR_aI, q_rR_aL, q_rR_aR, q_rR_K, q_rR_ln, q_rR_n, q_rR_sl, q_rR_is, q_rR_ck, g_row, Nat.reduceEqDiff, reduceIte]
  have vn : gfI S3 582 237 = nI (tb.length + 1) := by rw [← hS3, q_pI_fI, g_up_s]
  have e : RE [242, 243, 244, 245, 246, 247] [582] S S3 := (b2.mono (by decide) (by decide)).trans e3
  -- row j of the new table is row g of the old one
  have old243 : ∀ j, j ≠ i → j ≤ tb.length → gaI S3 243 j = gaI S 243 (if i < j then j - 1 else j) := by
    intro j hj hj2
    rw [v243, pk_un hj, sh 243 (by decide)]
    by_cases c : i < j
    · rw [if_pos ⟨c, hj2⟩, if_pos c]
    · rw [if_neg (fun z => c z.1), if_neg c]
  have fresh : ∀ g, g < tb.length → gaI S 243 g ≠ nI s := by
    intro g hg q
    obtain ⟨-, ⟨y, y1, y2, y3, -, -⟩, -⟩ := h4 g _ (List.getElem?_eq_getElem hg)
    rw [q] at y2
    rw [← (nI_eq (by omega) (by omega)).mp y2, c2] at y3
    exact absurd y3 (by decide)
  refine ⟨S3, s, ?_, e, c1, ?_, ?_, ?_, ?_, ?_, ?_, ⟨?_, ?_⟩, ?_⟩
  · unfold f_X9_insert
    simp only [g_getI, Nat.reduceMul, Nat.reduceAdd, ck9 hR, h1]
    refine b1.trans (c3.trans ?_)
    simp only [g_getI, g_getL, g_getR, g_putI, g_putZ, g_putL, g_putR, g_ldI, g_ldL, g_ldR, g_stI, g_stZ, g_stL, g_stR, g_alen, g_ldX, g_cVI, g_cVL, g_cVR, g_cVV, g_cI, g_cL, g_cN, g_lt, g_jn, g_cpI, g_cpL, g_z, Nat.reduceMul, Nat.reduceAdd, Option.bind_some, or_true, true_or, if_true, q_pI_fI, q_pI_fL, q_pI_fR, q_pI_aI, q_pI_aL, q_pI_aR, q_pI_K, q_pI_ln, q_pI_n, q_pI_sl, q_pI_is, q_pI_ck, q_pL_fI, q_pL_fL, q_pL_fR, q_pL_aI, q_pL_aL, q_pL_aR, q_pL_K, q_pL_ln, q_pL_n, q_pL_sl, q_pL_is, q_pL_ck, q_pR_fI, q_pR_fL, q_pR_fR, q_pR_aI, q_pR_aL, q_pR_aR, q_pR_K, q_pR_ln, q_pR_n, q_pR_sl, q_pR_is, q_pR_ck, q_rI_fI, q_rI_fL, q_rI_fR, q_rI_aI, q_rI_aL, q_rI_aR, q_rI_K, q_rI_ln, q_rI_n, q_rI_sl, q_rI_is, q_rI_ck, q_rL_fI, q_rL_fL, q_rL_fR, q_rL_aI, q_rL_aL, q_rL_aR, q_rL_K, q_rL_ln, q_rL_n, q_rL_sl, q_rL_is, q_rL_ck, q_rR_fI, q_rR_fL, q_rR_fR, q_rR_aI, q_rR_aL, q_rR_aR, q_rR_K, q_rR_ln, q_rR_n, q_rR_sl, q_rR_is, q_rR_ck, ck9 hR2, rf_isUsed hR2, g_ck_t (ri_isUsed hR2), rl_isUsed hR2, rf_keys hR2, g_ck_t (ri_keys hR2), rl_keys hR2, rf_slots hR2, g_ck_t (ri_slots hR2), rl_slots hR2, rf_sorts hR2, g_ck_t (ri_sorts hR2), rl_sorts hR2, rf_lags hR2, g_ck_t (ri_lags hR2), rl_lags hR2, rf_wasBehind hR2, g_ck_t (ri_wasBehind hR2), rl_wasBehind hR2, n2, add1, g_row, Nat.reduceEqDiff, reduceIte]
    simp (disch := omega) only [g_ix_t, nI_clamp]
    rw [hS3]
  · rw [v243, pk_us]
  · rw [v247, pk_us]
  · rw [v242, pk_us]
  · rw [v244, pk_us]
  · rw [vn, mIns_len]
  · intro a b ha hb hab
    rw [mIns_len] at ha hb
    by_cases ca : a = i
    · by_cases cb : b = i
      · omega
      · rw [ca, v243, pk_us, ← v243, old243 b cb (by omega)] at hab
        exact absurd hab.symm (fresh _ (by split <;> omega))
    · by_cases cb : b = i
      · rw [old243 a ca (by omega), cb, v243, pk_us] at hab
        exact absurd hab (fresh _ (by split <;> omega))
      · rw [old243 a ca (by omega), old243 b cb (by omega)] at hab
        have := h2 _ _ (by split <;> omega) (by split <;> omega) hab
        split at this <;> split at this <;> omega
  · intro z hz
    rw [v247]
    by_cases ez : z = s
    · rw [ez, pk_us]
      exact Or.inr ⟨rfl, i, by rw [mIns_len]; omega, by rw [v243, pk_us]⟩
    · rw [pk_un ez]
      rcases h3 z hz with q | ⟨q, o, o1, o2⟩
      · exact Or.inl q
      · refine Or.inr ⟨q, ?_⟩
        by_cases c : o < i
        · refine ⟨o, by rw [mIns_len]; omega, ?_⟩
          rw [old243 o (by omega) (by omega), if_neg (by omega)]; exact o2
        · refine ⟨o + 1, by rw [mIns_len]; omega, ?_⟩
          rw [old243 (o + 1) (by omega) (by omega), if_pos (by omega)]; exact o2
  · intro j
    rw [v245, v246]
    by_cases c : j = i
    · rw [c, pk_us, pk_us]; exact ⟨Or.inl rfl, Or.inl rfl⟩
    · rw [pk_un c, pk_un c, sh 245 (by decide), sh 246 (by decide)]; exact hB _
  · intro j r hji hj
    have hjl := lt_of_some hj
    rw [mIns_len] at hjl
    have main : ∀ g, g < tb.length → tb[g]? = some r → (if i < j ∧ j ≤ tb.length then j - 1 else j) = g → RowR S3 j r sc nx run := by
      intro g hg hgr hgj
      obtain ⟨y1, ⟨y, y2, y3, y4, y5, y6⟩, y7⟩ := h4 g r hgr
      have fm : ∀ q ts vs, FormR S q ts vs → FormR S3 q ts vs := fun q ts vs hf => hf.same (e.aL (by decide)) (e.aI (by decide)) (e.aI (by decide))
      unfold RowR
      rw [v242, v243, v244, v245, v246, v247, pk_un hji, pk_un hji, pk_un hji, pk_un hji, pk_un hji, sh 242 (by decide), sh 243 (by decide), sh 244 (by decide), sh 245 (by decide), sh 246 (by decide), hgj]
      refine ⟨y1, ⟨y, y2, y3, ?_, fm _ _ _ y5, fun hr => fm _ _ _ (y6 hr)⟩, y7⟩
      rw [pk_un]
      · exact y4
      · intro q
        rw [q] at y3
        exact fresh g hg y3
    rcases Nat.lt_trichotomy j i with c | c | c
    · rw [mIns_lt hc c] at hj
      exact main j (by omega) hj (if_neg (by omega))
    · exact absurd c hji
    · rw [mIns_gt hc c] at hj
      exact main (j - 1) (by omega) hj (if_pos (by omega))
