/-! ===== down of the reference ===== -/
theorem chain_loop {a o : Nat} {h : List Int32} {tf : Int32} {v : mV} {u1 u2 u4 : Int32} {K : gS → Int32 → Int32 → Option gS} (ha : a + 8 ≤ 656) (hob : o < 8) (hl : h.length ≤ 6) (hty : ∀ t ∈ h, isTy t) : ∀ (k fu : Nat) (S : gS), k ≤ h.length → k < fu → Imm S → (∀ j t, h[j]? = some t → gaI S 263 (6 * o + j) = t) → RVS (hdT (h.drop k) tf) S (a + o) (mHist (h.drop k) tf v) → ∃ S1, l_X9_down_127 237 u1 u2 (nI a) u4 (nI o) fu S (hdT (h.drop k) tf) (nI k + -1) K = K S1 (hdT h tf) (nI 0 + -1) ∧ RE V4 [] S S1 ∧ (∀ q, q ≠ a + o → SlotEq S S1 q) ∧ RVS (hdT h tf) S1 (a + o) (mHist h tf v) := by
  intro k
  induction k with
  | zero =>
    intro fu S hk hf hI hp hv
    obtain ⟨fu, rfl⟩ : ∃ m, fu = m + 1 := ⟨fu - 1, by omega⟩
    rw [List.drop_zero] at hv ⊢
    exact ⟨S, by rw [l_X9_down_127, if_pos (by decide)], RE.refl, fun _ _ => SlotEq.refl, hv⟩
  | succ k ih =>
    intro fu S hk hf hI hp hv
    have hR := hI.ref
    obtain ⟨fu, rfl⟩ : ∃ m, fu = m + 1 := ⟨fu - 1, by omega⟩
    have hkl : k < h.length := by omega
    have hc := List.getElem?_eq_getElem hkl
    have hd := List.drop_eq_getElem_cons hkl
    obtain ⟨S2, a1, a2, a3, a4⟩ := become_V (tt := h[k]) hI (by omega) hv (hty _ (List.getElem_mem hkl))
    obtain ⟨S1, b1, b2, b3, b4⟩ := ih fu S2 (by omega) (by omega) (a2.imm hI) (by rw [a2.aI (by decide)]; exact hp) (by rw [hd]; exact a4)
    refine ⟨S1, ?_, a2.trans b2, fun q hq => (a3 q hq).trans (b3 q hq), b4⟩
    have x2 : gaI S2 263 (6 * o + k) = h[k] := by rw [a2.aI (by decide)]; exact hp k _ hc
    rw [add_m1, l_X9_down_127, if_neg (show ¬ nI k < 0 from fun z => by
      rw [show (0 : Int32) = nI 0 from rfl, nI_ltI (by omega) (by omega)] at z
      omega)]
    have hR2 := (a2.imm hI).ref
    simp only [g_getR, g_ldI, g_cVV, Nat.reduceMul, Nat.reduceAdd, Option.bind_some, ck9 hR, rf_pastTypes hR, g_ck_t (ri_pastTypes hR), rl_pastTypes hR]
    rw [show (6 : Int32) * nI o + nI k = nI (6 * o + k) by rw [show (6 : Int32) = nI 6 from rfl, pk_mul, nI_add], nI_add, g_ix_t (by omega) (by decide), nI_clamp (by omega), hp k _ hc, a1, Option.bind_some, ck9 hR2, rf_pastTypes hR2, Option.bind_some, g_ck_t (ri_pastTypes hR2), rl_pastTypes hR2, g_ix_t (by omega) (by decide), x2]
    rw [hd] at b1
    exact b1
theorem down1_loop {a : Nat} {sc : List mCol} {tr : Nat → Trk} {old : List mV} {u1 u2 : Int32} {K : gS → Int32 → Option gS} (ha : a + 8 ≤ 656) (hl : sc.length ≤ 8) (hu : u2 = nI a ∨ (u2 = -1 ∧ ∀ o, old.getD o (0, []) = (0, []))) : ∀ (d fu i : Nat) (S : gS), i + d = sc.length → d < fu → Imm S → gaI S 250 0 = nI sc.length → (∀ o, o < sc.length → (tr o = none → gaI S 262 o = 1) ∧ ∀ z, tr o = some z → gaI S 262 o = 0) → (∀ o c, (o < i ∨ u2 = nI a) → sc[o]? = some c → tr o = none → RVS c.2 S (a + o) (old.getD o (0, []))) → ∃ S1, l_X9_down_7 237 u1 u2 (nI a) fu S (nI i) K = K S1 (nI sc.length) ∧ RE V4 [] S S1 ∧ (∀ k, (k < a ∨ a + 8 ≤ k) → SlotEq S S1 k) ∧ ∀ o c, sc[o]? = some c → tr o = none → RVS c.2 S1 (a + o) (old.getD o (0, [])) := by
  intro d
  induction d with
  | zero =>
    intro fu i S hi hf hI hc hd hv
    have hR := hI.ref
    obtain ⟨fu, rfl⟩ : ∃ m, fu = m + 1 := ⟨fu - 1, by omega⟩
    have : i = sc.length := by omega
    subst this
    refine ⟨S, ?_, RE.refl, fun _ _ => SlotEq.refl, fun o c ho ht => hv o c (Or.inl (lt_of_some ho)) ho ht⟩
    rw [l_X9_down_7]
    simp only [g_getR, g_ldI, Nat.reduceMul, Nat.reduceAdd, Option.bind_some, ck9 hR, rf_columns hR, g_ck_t (ri_columns hR), rl_columns hR]
    rw [show (0 : Int32) = nI 0 from rfl, g_ix_t (by decide) (by decide), nI_clamp (by decide), hc, if_pos (nI_le (by omega) (by omega))]
  | succ d ih =>
    intro fu i S hi hf hI hc hd hv
    have hR := hI.ref
    obtain ⟨fu, rfl⟩ : ∃ m, fu = m + 1 := ⟨fu - 1, by omega⟩
    have hil : i < sc.length := by omega
    have fin : ∀ S2, RE V4 [] S S2 → (∀ k, k ≠ a + i → SlotEq S S2 k) → (∀ c, sc[i]? = some c → tr i = none → RVS c.2 S2 (a + i) (old.getD i (0, []))) → (∀ k, u2 = nI a → SlotEq S S2 k) → ∃ S1, l_X9_down_7 237 u1 u2 (nI a) fu S2 (nI i + 1) K = K S1 (nI sc.length) ∧ RE V4 [] S S1 ∧ (∀ k, (k < a ∨ a + 8 ≤ k) → SlotEq S S1 k) ∧ ∀ o c, sc[o]? = some c → tr o = none → RVS c.2 S1 (a + o) (old.getD o (0, [])) := by
      intro S2 e2 w2 v2 w3
      obtain ⟨S1, a1, a2, a3, a4⟩ := ih fu (i + 1) S2 (by omega) (by omega) (e2.imm hI) (by rw [e2.aI (by decide)]; exact hc) (by rw [e2.aI (by decide)]; exact hd) (fun o c ho hoc ht => by
        by_cases q : o = i
        · subst q; exact v2 c hoc ht
        · rcases ho with z | z
          · exact (hv o c (Or.inl (by omega)) hoc ht).slot (w2 _ (by omega))
          · exact (hv o c (Or.inr z) hoc ht).slot (w3 _ z))
      exact ⟨S1, by rw [add1]; exact a1, e2.trans a2, fun k hk => (w2 k (by omega)).trans (a3 k hk), a4⟩
    have one : l_X9_down_7 237 u1 u2 (nI a) (fu + 1) S (nI i) K = if gaI S 262 i = 0 then l_X9_down_7 237 u1 u2 (nI a) fu S (nI i + 1) K else if 0 ≤ u2 then (g_cVV S 9 237 (f_X9_copy S 237 (u2 + nI i) (nI (a + i))) fun S8 => l_X9_down_7 237 u1 u2 (nI a) fu S8 (nI i + 1) K) else (g_cVV S 9 237 (f_X9_clear S 237 (nI (a + i))) fun S9 => l_X9_down_7 237 u1 u2 (nI a) fu S9 (nI i + 1) K) := by
      rw [l_X9_down_7]
      simp only [g_getR, g_ldI, g_jn, Nat.reduceMul, Nat.reduceAdd, Option.bind_some, ck9 hR, rf_columns hR, g_ck_t (ri_columns hR), rl_columns hR, rf_dropped hR, g_ck_t (ri_dropped hR), rl_dropped hR, nI_add]
      rw [show g_ix 3 (0 : Int32) = g_ix 3 (nI 0) from rfl, g_ix_t (α := gS) (k := 0) (by decide) (by decide), show gaI S 250 (0 : Int32).toNatClampNeg = gaI S 250 0 from rfl, hc, if_neg (nI_ge hil (by omega)), g_ix_t (by omega) (by decide), nI_clamp (by omega)]
    rw [one]
    cases ht : tr i with
    | some z =>
      rw [if_pos ((hd i hil).2 z ht)]
      exact fin S RE.refl (fun _ _ => SlotEq.refl) (fun c _ q => by rw [ht] at q; cases q) (fun _ _ => SlotEq.refl)
    | none =>
      rw [if_neg (by rw [(hd i hil).1 ht]; decide)]
      rcases hu with q | ⟨q, hz⟩
      · rw [q, if_pos (show (0 : Int32) ≤ nI a from nI_le (a := 0) (by omega) (by omega)), nI_add]
        unfold g_cVV
        rw [ck9 hR, copySelf_R hI (by omega), Option.bind_some]
        have := fin S RE.refl (fun _ _ => SlotEq.refl) (fun c hc _ => hv i c (Or.inr q) hc ht) (fun _ _ => SlotEq.refl)
        rw [q] at this
        exact this
      · have hna : ¬ u2 = nI a := fun z => nI_m1 (k := a) (by omega) (z.symm.trans q)
        rw [if_neg (by rw [q]; decide)]
        obtain ⟨S2, b1, b2, b3, b4⟩ := clear_V (S := S) (s := a + i) hI (by omega)
        unfold g_cVV
        rw [ck9 hR, b1, Option.bind_some]
        refine fin S2 b2 b3 (fun c _ _ => ?_) (fun _ z => absurd z hna)
        rw [hz]
        unfold RVS RVv
        by_cases t4 : c.2 = 4
        · rw [if_pos t4]; exact b4.2
        · rw [if_neg t4]; exact b4.1
theorem down2_loop {a b n c0 : Nat} {sc nx : List mCol} {tr : Nat → Trk} {old vs : List mV} {u2 : Int32} (ha : a + 8 ≤ 656) (hb : b + 8 ≤ 656) (hab : a + 8 ≤ b ∨ b + 8 ≤ a) (hl : sc.length ≤ 8) (hnl : nx.length ≤ 8) (hn : n = sc.length) (hc0 : c0 ≤ 6) (hty : ∀ o c z h, sc[o]? = some c → tr o = some (z, h) → c.2 = hdT h (mTyAt nx z)) : ∀ (d fu j : Nat) (S : gS), j + d = nx.length → d < fu → Imm S → SchR S 1 nx → Rep S n nx tr c0 → FormR S b (tys nx) vs → (∀ o c, sc[o]? = some c → tr o = none → RVS c.2 S (a + o) (old.getD o (0, []))) → (∀ o c z h, sc[o]? = some c → tr o = some (z, h) → z < j → RVS c.2 S (a + o) (mHist h (mTyAt nx z) (vs.getD z (0, [])))) → ∃ S1, l_X9_down_64 237 (nI b) u2 (nI a) fu S (nI j) = some S1 ∧ RE V4 [] S S1 ∧ (∀ k, (k < a ∨ a + 8 ≤ k) → SlotEq S S1 k) ∧ (∀ o c, sc[o]? = some c → tr o = none → RVS c.2 S1 (a + o) (old.getD o (0, []))) ∧ ∀ o c z h, sc[o]? = some c → tr o = some (z, h) → RVS c.2 S1 (a + o) (mHist h (mTyAt nx z) (vs.getD z (0, []))) := by
  intro d
  induction d with
  | zero =>
    intro fu j S hj hf hI hS hRep hF hA hB
    have hR := hI.ref
    obtain ⟨fu, rfl⟩ : ∃ m, fu = m + 1 := ⟨fu - 1, by omega⟩
    have : j = nx.length := by omega
    subst this
    refine ⟨S, ?_, RE.refl, fun _ _ => SlotEq.refl, hA, fun o c z h ho ht => hB o c z h ho ht ?_⟩
    · rw [l_X9_down_64]
      simp only [g_getR, g_ldI, Nat.reduceMul, Nat.reduceAdd, Option.bind_some, ck9 hR, rf_columns hR, g_ck_t (ri_columns hR), rl_columns hR]
      rw [show (1 : Int32) = nI 1 from rfl, g_ix_t (by decide) (by decide), nI_clamp (by decide), hS.1, if_pos (nI_le (by omega) (by omega))]
    · exact (hRep.1 o z h (by have := lt_of_some ho; omega) ht).1
  | succ d ih =>
    intro fu j S hj hf hI hS hRep hF hA hB
    have hR := hI.ref
    obtain ⟨fu, rfl⟩ : ∃ m, fu = m + 1 := ⟨fu - 1, by omega⟩
    have hjl : j < nx.length := by omega
    have hvl : vs.length = nx.length := by rw [hF.1, tys_len]
    have one : l_X9_down_64 237 (nI b) u2 (nI a) (fu + 1) S (nI j) = if 0 ≤ gaI S 261 j then (g_cVV S 9 237 (f_X9_copy S 237 (nI (b + j)) (nI a + gaI S 261 j)) fun S18 =>
    g_getR S18 9 12 237 fun a19 =>
    g_ldI S18 10 a19 ((8 : Int32) + nI j) fun x20 =>
    g_getR S18 9 37 237 fun a21 =>
    g_ldI S18 10 a21 (gaI S 261 j) fun x22 =>
    g_lt (x22 - (1 : Int32)) fun x23 =>
    l_X9_down_127 237 (nI b) u2 (nI a) (nI j) (gaI S 261 j) 100 S18 x20 x23 (fun S29 _ _ => l_X9_down_64 237 (nI b) u2 (nI a) fu S29 (nI j + 1))) else l_X9_down_64 237 (nI b) u2 (nI a) fu S (nI j + 1) := by
      rw [l_X9_down_64]
      rw [show ∀ F : Nat → Option gS, g_getR S 9 13 237 F = F 250 from fun F => by simp only [g_getR, Nat.reduceMul, Nat.reduceAdd, ck9 hR, rf_columns hR, Option.bind_some]]
      rw [show ∀ F : Int32 → Option gS, g_ldI S 10 250 (1 : Int32) F = F (nI nx.length) from fun F => by
        unfold g_ldI
        rw [g_ck_t (ri_columns hR), rl_columns hR, show (1 : Int32) = nI 1 from rfl, g_ix_t (by decide) (by decide), nI_clamp (by decide), hS.1]]
      rw [if_neg (nI_ge hjl (by omega))]
      rw [show ∀ F : Nat → Option gS, g_getR S 9 34 237 F = F 261 from fun F => by simp only [g_getR, Nat.reduceMul, Nat.reduceAdd, ck9 hR, rf_origins hR, Option.bind_some]]
      rw [show ∀ F : Int32 → Option gS, g_ldI S 10 261 (nI j) F = F (gaI S 261 j) from fun F => by
        unfold g_ldI
        rw [g_ck_t (ri_origins hR), rl_origins hR, g_ix_t (by omega) (by decide), nI_clamp (by omega)]]
      rw [g_jn, nI_add]
    rw [one]
    rcases hRep.2.2 j hjl with y | ⟨o, h, y1, y2, y3⟩
    · rw [if_neg (by rw [y]; decide)]
      obtain ⟨S1, z1, z2⟩ := ih fu (j + 1) S (by omega) (by omega) hI hS hRep hF hA (fun o c z h ho ht hz => by
        by_cases q : z = j
        · subst q
          have := (hRep.1 o z h (by have := lt_of_some ho; omega) ht).2.1
          rw [y] at this
          exact absurd this.symm (nI_m1 (by have := lt_of_some ho; omega))
        · exact hB o c z h ho ht (by omega))
      exact ⟨S1, by rw [add1]; exact z1, z2⟩
    · obtain ⟨a1, a2, a3, a4, a5, a6, a7⟩ := hRep.1 o j h y1 y3
      rw [y2, if_pos (show (0 : Int32) ≤ nI o from nI_le (a := 0) (by omega) (by omega)), nI_add]
      obtain ⟨S2, b1, b2, b3, b4⟩ := copy_V (S := S) (a := b + j) (b := a + o) hI (by omega) (by omega) (by omega)
      have hI2 := b2.imm hI
      have hR2 := hI2.ref
      have x20 : gaI S2 249 (8 + j) = mTyAt nx j := by rw [b2.aI (by decide)]; exact hS.tyAt hjl
      have x22 : gaI S2 264 o = nI h.length := by rw [b2.aI (by decide)]; exact a4
      have hx0 := getD_some (d := ((0 : Int64), ([] : List Nat))) (show j < vs.length by omega)
      have hv0 := b4.v (hF.get (List.getElem?_eq_getElem hjl) hx0)
      rw [← mTyAt_of (List.getElem?_eq_getElem hjl)] at hv0
      obtain ⟨S3, c1, c2, c3, c4⟩ := chain_loop (a := a) (o := o) (h := h) (tf := mTyAt nx j) (v := vs.getD j (0, [])) (u1 := nI b) (u2 := u2) (u4 := nI j) (K := fun S29 _ _ => l_X9_down_64 237 (nI b) u2 (nI a) fu S29 (nI j + 1)) ha (by omega) (by omega) a6 h.length 100 S2 (by omega) (by omega) hI2 (by rw [b2.aI (by decide)]; exact a7) (by rw [List.drop_length]; exact hv0)
      rw [List.drop_length] at c1
      have e3 := b2.trans c2
      have w3 : ∀ k, k ≠ a + o → SlotEq S S3 k := fun k hk => (b3 k hk).trans (c3 k hk)
      obtain ⟨S1, z1, z2, z3, z4⟩ := ih fu (j + 1) S3 (by omega) (by omega) (e3.imm hI) (hS.e e3 (by decide)) (hRep.e e3 (by decide)) (hF.slots fun k q1 q2 => w3 k (by rw [tys_len] at q2; omega)) (fun o2 c ho2 ht => by
        have : o2 ≠ o := fun q => by subst q; rw [y3] at ht; cases ht
        exact (hA o2 c ho2 ht).slot (w3 _ (by omega))) (fun o2 c z h2 ho2 ht hz => by
        by_cases q : o2 = o
        · subst q
          rw [y3] at ht
          cases ht
          rw [hty o2 c j h ho2 y3]
          exact c4
        · have : z ≠ j := fun q2 => by
            subst q2
            have := (hRep.1 o2 z h2 (by have := lt_of_some ho2; omega) ht).2.1
            rw [y2] at this
            exact q ((nI_eq (by omega) (by have := lt_of_some ho2; omega)).mp this).symm
          exact (hB o2 c z h2 ho2 ht (by omega)).slot (w3 _ (by omega)))
      refine ⟨S1, ?_, e3.trans z2, fun k hk => (w3 k (by omega)).trans (z3 k hk), z4⟩
      unfold g_cVV
      rw [ck9 hR, b1, Option.bind_some]
      simp only [g_getR, g_ldI, g_lt, Nat.reduceMul, Nat.reduceAdd, Option.bind_some, ck9 hR2, rf_types hR2, g_ck_t (ri_types hR2), rl_types hR2, rf_pasts hR2, g_ck_t (ri_pasts hR2), rl_pasts hR2]
      rw [show (8 : Int32) + nI j = nI (8 + j) by rw [show (8 : Int32) = nI 8 from rfl, nI_add], g_ix_t (by omega) (by decide), nI_clamp (by omega), x20, g_ix_t (by omega) (by decide), nI_clamp (by omega), x22, sub_m1]
      refine c1.trans ?_
      rw [add1]
      exact z1
theorem down_R {S : gS} {a b : Nat} {u2 : Int32} {mg : List mStep} {sc nx : List mCol} {vs old : List mV} (hI : Imm S) (ha : a + 8 ≤ 656) (hb : b + 8 ≤ 656) (hab : a + 8 ≤ b ∨ b + 8 ≤ a) (hP : PlanR S 6 mg) (hc : gfI S 598 237 = nI mg.length) (hm : plOk mg) (h0 : SchR S 0 sc) (ho : scOk sc) (hg : mgOk mg sc) (hx : nx = mSchs sc mg) (h1 : SchR S 1 nx) (hno : scOk nx) (hF : FormR S b (tys nx) vs) (hold : (u2 = nI a ∧ FormR S a (tys sc) old) ∨ (u2 = -1 ∧ old = List.replicate sc.length (0, []))) : ∃ S1, f_X9_down S 237 (nI b) u2 (nI a) = some S1 ∧ RE [238, 239, 240, 241, 248, 249, 250, 261, 262, 263, 264] [] S S1 ∧ (∀ q, (q < a ∨ a + 8 ≤ q) → SlotEq S S1 q) ∧ FormR S1 a (tys sc) (mDown mg sc vs old) ∧ ∀ j l', j < 2 → l'.length ≤ 8 → SchR S j l' → SchR S1 j l' := by
  have hol := ho.1
  have hml := hm.1
  obtain ⟨S1, a1, a2, a3, a4⟩ := follow_R hI hP hc hm h0 ho hg
  have hI1 := a2.imm hI
  have sl1 : ∀ q, SlotEq S S1 q := fun q => a2.slot (by decide) (by decide) (by decide)
  rw [← hx] at a4
  have hu : u2 = nI a ∨ (u2 = -1 ∧ ∀ o, old.getD o (0, []) = (0, [])) := by
    rcases hold with q | ⟨q, q2⟩
    · exact Or.inl q.1
    · refine Or.inr ⟨q, fun o => ?_⟩
      rw [q2, List.getD_eq_getElem?_getD, List.getElem?_replicate]
      split <;> rfl
  obtain ⟨S2, b1, b2, b3, b4⟩ := down1_loop (a := a) (sc := sc) (tr := fun o => trF mg sc (some (o, []))) (old := old) (u1 := nI b) (u2 := u2) (K := fun S10 _ => l_X9_down_64 237 (nI b) u2 (nI a) 100 S10 (0 : Int32)) ha hol hu sc.length 100 0 S1 (by omega) (by omega) hI1 (a3 0 sc (by decide) hol h0).1 (fun o ho2 => ⟨fun q => a4.2.1 o ho2 q, fun z q => by
      obtain ⟨z, h⟩ := z
      exact (a4.1 o z h ho2 q).2.2.1⟩) (fun o c q1 q2 q3 => by
      rcases q1 with q | q
      · omega
      · rcases hold with y | y
        · have hlt := lt_of_some q2
          have hlo : old.length = sc.length := by rw [y.2.1, tys_len]
          exact (y.2.get q2 (getD_some (by omega))).slot (sl1 _)
        · exact absurd (q.symm.trans y.1) (nI_m1 (by omega)))
  have hI2 := b2.imm hI1
  have sn2 : SchR S2 1 nx := (a3 1 nx (by decide) hno.1 h1).e b2 (by decide)
  have hty : ∀ o c z h, sc[o]? = some c → trF mg sc (some (o, [])) = some (z, h) → c.2 = hdT h (mTyAt nx z) ∧ mBackV mg sc o vs = some (mHist h (mTyAt nx z) (vs.getD z (0, []))) := by
    intro o c z h hoc ht
    obtain ⟨g, g1, g2, g3⟩ := (back_hist (vs := vs) mg sc o [] hm.2 hg (lt_of_some hoc)).2 z h ht
    rw [List.nil_append] at g1
    subst g1
    rw [hx, ← g3, mTyAt_of hoc]
    exact ⟨rfl, g2⟩
  obtain ⟨S3, c1, c2, c3, c4, c5⟩ := down2_loop (a := a) (b := b) (n := sc.length) (c0 := mg.length) (sc := sc) (nx := nx) (tr := fun o => trF mg sc (some (o, []))) (old := old) (vs := vs) (u2 := u2) ha hb hab hol hno.1 rfl hml (fun o c z h q1 q2 => (hty o c z h q1 q2).1) nx.length 100 0 S2 (by omega) (by have := hno.1; omega) hI2 sn2 (a4.e b2 (by decide)) ((hF.slots fun k _ _ => sl1 k).slots fun k q1 q2 => b3 k (by rw [tys_len] at q2; have := hno.1; omega)) b4 (fun o c z h _ _ hz => by omega)
  refine ⟨S3, ?_, ((a2.mono (by decide) (by decide)).trans (b2.mono (by decide) (by decide))).trans (c2.mono (by decide) (by decide)), fun q hq => ((sl1 q).trans (b3 q hq)).trans (c3 q hq), FormR.of ?_ fun i c x hc hx => ?_, fun j l' hj hl' h' => ((a3 j l' hj hl' h').e b2 (by decide)).e c2 (by decide)⟩
  · unfold f_X9_down g_cVV
    rw [ck9 hI.ref, a1, Option.bind_some]
    exact b1.trans c1
  · unfold mDown; rw [List.length_map, List.length_range]
  · have hi := lt_of_some hc
    unfold mDown at hx
    rw [List.getElem?_map, List.getElem?_range hi] at hx
    cases hx
    show RVS c.2 S3 (a + i) ((mBackV mg sc i vs).getD (old.getD i (0, [])))
    cases ht : trF mg sc (some (i, [])) with
    | none =>
      rw [(back_hist (vs := vs) mg sc i [] hm.2 hg hi).1 ht]
      exact c4 i c hc ht
    | some z =>
      obtain ⟨z, h⟩ := z
      rw [(hty i c z h hc ht).2]
      exact c5 i c z h hc ht
