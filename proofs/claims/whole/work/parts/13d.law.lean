/-! ===== one turn of the law, and all of them ===== -/
theorem ldx {E : gE} {i j : Nat} {x : Int32} (hx : x = nI j) (h : i + j < eN E) (hN : eN E ≤ 3072) : ∀ (F : Int32 → Option (Int32 × gS)), g_ldX (eN E) (eX E) (nI i + x) F = F (eX E (i + j)) := by
  intro F
  unfold g_ldX
  rw [hx, nI_add, g_ix_t h (by omega), nI_clamp (by omega)]
theorem ldx0 {E : gE} {i : Nat} (h : i < eN E) (hN : eN E ≤ 3072) : ∀ (F : Int32 → Option (Int32 × gS)), g_ldX (eN E) (eX E) (nI i) F = F (eX E i) := by
  intro F
  unfold g_ldX
  rw [g_ix_t h (by omega), nI_clamp (by omega)]
theorem law_plan {E : gE} {S : gS} {m : mS} {k : Nat} (h : Inv S m) (hk : 6 * k + 6 ≤ eN E) (hN : eN E ≤ 3072) (hx : eX E (6 * k) &&& (31 : Int32) = 0) : ∃ S2 m2, Inv S2 m2 ∧ ∀ fu, l_L_law_18 E 0 237 (fu + 1) S (nI (6 * k)) = l_L_law_18 E 0 237 fu S2 (nI (6 * k) + 6) := by
  have cond : ¬ nI (eN E) - (6 : Int32) < nI (6 * k) := by
    rw [show nI (eN E) - (6 : Int32) = nI (eN E - 6) from sub_nI (b := 6) (by omega), nI_ltI (by omega) (by omega)]
    omega
  have ld0 := ldx0 (E := E) (i := 6 * k) (by omega) hN
  have lt0 : ∀ F : Int32 → Option (Int32 × gS), g_lt (eX E (6 * k) &&& (31 : Int32)) F = F 0 := fun F => by
    unfold g_lt
    rw [hx]
  have ld1 := ldx (E := E) (i := 6 * k) (j := 1) (x := 1) rfl (by omega) hN
  have ld2 := ldx (E := E) (i := 6 * k) (j := 2) (x := 2) rfl (by omega) hN
  have ld3 := ldx (E := E) (i := 6 * k) (j := 3) (x := 3) rfl (by omega) hN
  have ld4 := ldx (E := E) (i := 6 * k) (j := 4) (x := 4) rfl (by omega) hN
  have ld5 := ldx (E := E) (i := 6 * k) (j := 5) (x := 5) rfl (by omega) hN
  obtain ⟨S2, i2, p2⟩ := pair_I (m' := (mPlan m (eX E (6 * k + 1)) (eX E (6 * k + 2)) (eX E (6 * k + 3)) (eX E (6 * k + 4)) (eX E (6 * k + 5))).2) (oR := fun S1 => f_X9_plan S1 237 (eX E (6 * k + 1)) (eX E (6 * k + 2)) (eX E (6 * k + 3)) (eX E (6 * k + 4)) (eX E (6 * k + 5))) h (plan_C h.1 h.2.2.1) (fun S1 hR => plan_R hR h.2.2.1) (mPlan_ok h.2.2.1) (mPlan_nt h.2.2.2)
  refine ⟨S2, _, i2, fun fu => ?_⟩
  rw [l_L_law_18, if_neg cond, ld0]
  rw [lt0, g_jn]
  dsimp only
  rw [if_pos rfl]
  simp only [ld1, ld2, ld3, ld4, ld5]
  exact p2 (fun S9 => l_L_law_18 E 0 237 fu S9 (nI (6 * k) + 6))
theorem law_scrap {E : gE} {S : gS} {m : mS} {k : Nat} (h : Inv S m) (hk : 6 * k + 6 ≤ eN E) (hN : eN E ≤ 3072) (hx : eX E (6 * k) &&& (31 : Int32) = 1) : ∃ S2 m2, Inv S2 m2 ∧ ∀ fu, l_L_law_18 E 0 237 (fu + 1) S (nI (6 * k)) = l_L_law_18 E 0 237 fu S2 (nI (6 * k) + 6) := by
  have cond : ¬ nI (eN E) - (6 : Int32) < nI (6 * k) := by
    rw [show nI (eN E) - (6 : Int32) = nI (eN E - 6) from sub_nI (b := 6) (by omega), nI_ltI (by omega) (by omega)]
    omega
  have ld0 := ldx0 (E := E) (i := 6 * k) (by omega) hN
  have lt0 : ∀ F : Int32 → Option (Int32 × gS), g_lt (eX E (6 * k) &&& (31 : Int32)) F = F 1 := fun F => by
    unfold g_lt
    rw [hx]
  obtain ⟨S2, i2, p2⟩ := pair_I (m' := (mScrap m ).2) (oR := fun S1 => f_X9_scrap S1 237 ) h (scrap_C h.1 h.2.2.1) (fun S1 hR => scrap_R hR h.2.2.1) (mScrap_ok h.2.2.1) (mScrap_nt h.2.2.2)
  refine ⟨S2, _, i2, fun fu => ?_⟩
  rw [l_L_law_18, if_neg cond, ld0]
  rw [lt0, g_jn]
  dsimp only
  rw [if_neg (show ¬ (1 : Int32) = 0 by decide), if_pos rfl]
  exact p2 (fun S9 => l_L_law_18 E 0 237 fu S9 (nI (6 * k) + 6))
theorem law_draft {E : gE} {S : gS} {m : mS} {k : Nat} (h : Inv S m) (hk : 6 * k + 6 ≤ eN E) (hN : eN E ≤ 3072) (hx : eX E (6 * k) &&& (31 : Int32) = 2) : ∃ S2 m2, Inv S2 m2 ∧ ∀ fu, l_L_law_18 E 0 237 (fu + 1) S (nI (6 * k)) = l_L_law_18 E 0 237 fu S2 (nI (6 * k) + 6) := by
  have cond : ¬ nI (eN E) - (6 : Int32) < nI (6 * k) := by
    rw [show nI (eN E) - (6 : Int32) = nI (eN E - 6) from sub_nI (b := 6) (by omega), nI_ltI (by omega) (by omega)]
    omega
  have ld0 := ldx0 (E := E) (i := 6 * k) (by omega) hN
  have lt0 : ∀ F : Int32 → Option (Int32 × gS), g_lt (eX E (6 * k) &&& (31 : Int32)) F = F 2 := fun F => by
    unfold g_lt
    rw [hx]
  have ld1 := ldx (E := E) (i := 6 * k) (j := 1) (x := 1) rfl (by omega) hN
  have ld2 := ldx (E := E) (i := 6 * k) (j := 2) (x := 2) rfl (by omega) hN
  have ld3 := ldx (E := E) (i := 6 * k) (j := 3) (x := 3) rfl (by omega) hN
  obtain ⟨S2, i2, p2⟩ := pair_I (m' := (mDraft m (eX E (6 * k + 1)) (eX E (6 * k + 2)) (eX E (6 * k + 3))).2) (oR := fun S1 => f_X9_draft S1 237 (eX E (6 * k + 1)) (eX E (6 * k + 2)) (eX E (6 * k + 3))) h (draft_C h.1 h.2.2.1) (fun S1 hR => draft_R hR h.2.2.1) (mDraft_ok h.2.2.1) (mDraft_nt h.2.2.2)
  refine ⟨S2, _, i2, fun fu => ?_⟩
  rw [l_L_law_18, if_neg cond, ld0]
  rw [lt0, g_jn]
  dsimp only
  rw [if_neg (show ¬ (2 : Int32) = 0 by decide), if_neg (show ¬ (2 : Int32) = 1 by decide), if_pos rfl]
  simp only [ld1, ld2, ld3]
  exact p2 (fun S9 => l_L_law_18 E 0 237 fu S9 (nI (6 * k) + 6))
theorem law_letters {E : gE} {S : gS} {m : mS} {k : Nat} (h : Inv S m) (hk : 6 * k + 6 ≤ eN E) (hN : eN E ≤ 3072) (hx : eX E (6 * k) &&& (31 : Int32) = 3) : ∃ S2 m2, Inv S2 m2 ∧ ∀ fu, l_L_law_18 E 0 237 (fu + 1) S (nI (6 * k)) = l_L_law_18 E 0 237 fu S2 (nI (6 * k) + 6) := by
  have cond : ¬ nI (eN E) - (6 : Int32) < nI (6 * k) := by
    rw [show nI (eN E) - (6 : Int32) = nI (eN E - 6) from sub_nI (b := 6) (by omega), nI_ltI (by omega) (by omega)]
    omega
  have ld0 := ldx0 (E := E) (i := 6 * k) (by omega) hN
  have lt0 : ∀ F : Int32 → Option (Int32 × gS), g_lt (eX E (6 * k) &&& (31 : Int32)) F = F 3 := fun F => by
    unfold g_lt
    rw [hx]
  have ld1 := ldx (E := E) (i := 6 * k) (j := 1) (x := 1) rfl (by omega) hN
  have ld2 := ldx (E := E) (i := 6 * k) (j := 2) (x := 2) rfl (by omega) hN
  have ld3 := ldx (E := E) (i := 6 * k) (j := 3) (x := 3) rfl (by omega) hN
  obtain ⟨S2, i2, p2⟩ := pair_I (m' := (mLetters m (eX E (6 * k + 1)) (eX E (6 * k + 2)) (eX E (6 * k + 3))).2) (oR := fun S1 => f_X9_letters S1 237 (eX E (6 * k + 1)) (eX E (6 * k + 2)) (eX E (6 * k + 3))) h (letters_C h.1 h.2.2.1) (fun S1 hR => letters_R hR h.2.2.1 (fun q hq => (h.dr q hq).1)) (mLetters_ok h.2.2.1) (mLetters_nt h.2.2.2)
  refine ⟨S2, _, i2, fun fu => ?_⟩
  rw [l_L_law_18, if_neg cond, ld0]
  rw [lt0, g_jn]
  dsimp only
  rw [if_neg (show ¬ (3 : Int32) = 0 by decide), if_neg (show ¬ (3 : Int32) = 1 by decide), if_neg (show ¬ (3 : Int32) = 2 by decide), if_pos rfl]
  simp only [ld1, ld2, ld3]
  exact p2 (fun S9 => l_L_law_18 E 0 237 fu S9 (nI (6 * k) + 6))
theorem law_write {E : gE} {S : gS} {m : mS} {k : Nat} (h : Inv S m) (hk : 6 * k + 6 ≤ eN E) (hN : eN E ≤ 3072) (hx : eX E (6 * k) &&& (31 : Int32) = 4) : ∃ S2 m2, Inv S2 m2 ∧ ∀ fu, l_L_law_18 E 0 237 (fu + 1) S (nI (6 * k)) = l_L_law_18 E 0 237 fu S2 (nI (6 * k) + 6) := by
  have cond : ¬ nI (eN E) - (6 : Int32) < nI (6 * k) := by
    rw [show nI (eN E) - (6 : Int32) = nI (eN E - 6) from sub_nI (b := 6) (by omega), nI_ltI (by omega) (by omega)]
    omega
  have ld0 := ldx0 (E := E) (i := 6 * k) (by omega) hN
  have lt0 : ∀ F : Int32 → Option (Int32 × gS), g_lt (eX E (6 * k) &&& (31 : Int32)) F = F 4 := fun F => by
    unfold g_lt
    rw [hx]
  have ld1 := ldx (E := E) (i := 6 * k) (j := 1) (x := 1) rfl (by omega) hN
  have ld2 := ldx (E := E) (i := 6 * k) (j := 2) (x := 2) rfl (by omega) hN
  by_cases hb : eX E (6 * k + 2) = 0
  · obtain ⟨S2, i2, p2⟩ := pair_I (m' := (mWrite m (eX E (6 * k + 1)) 0).2) (oR := fun S1 => f_X9_write S1 237 (eX E (6 * k + 1)) 0) h (write_C h.1 h.2.2.1) (fun S1 hR => write_R hR h.2.2.1 h.2.2.2 h.dr) (mWrite_ok h.2.2.1) (mWrite_nt h.2.2.2)
    refine ⟨S2, _, i2, fun fu => ?_⟩
    rw [l_L_law_18, if_neg cond, ld0]
    rw [lt0, g_jn]
    dsimp only
    rw [if_neg (show ¬ (4 : Int32) = 0 by decide), if_neg (show ¬ (4 : Int32) = 1 by decide), if_neg (show ¬ (4 : Int32) = 2 by decide), if_neg (show ¬ (4 : Int32) = 3 by decide), if_pos rfl]
    simp only [ld1, ld2, g_jn]
    simp only [if_pos hb]
    exact p2 (fun S9 => l_L_law_18 E 0 237 fu S9 (nI (6 * k) + 6))
  · obtain ⟨S2, i2, p2⟩ := pair_I (m' := (mWrite m (eX E (6 * k + 1)) 1).2) (oR := fun S1 => f_X9_write S1 237 (eX E (6 * k + 1)) 1) h (write_C h.1 h.2.2.1) (fun S1 hR => write_R hR h.2.2.1 h.2.2.2 h.dr) (mWrite_ok h.2.2.1) (mWrite_nt h.2.2.2)
    refine ⟨S2, _, i2, fun fu => ?_⟩
    rw [l_L_law_18, if_neg cond, ld0]
    rw [lt0, g_jn]
    dsimp only
    rw [if_neg (show ¬ (4 : Int32) = 0 by decide), if_neg (show ¬ (4 : Int32) = 1 by decide), if_neg (show ¬ (4 : Int32) = 2 by decide), if_neg (show ¬ (4 : Int32) = 3 by decide), if_pos rfl]
    simp only [ld1, ld2, g_jn]
    simp only [if_neg hb]
    exact p2 (fun S9 => l_L_law_18 E 0 237 fu S9 (nI (6 * k) + 6))
theorem law_remove {E : gE} {S : gS} {m : mS} {k : Nat} (h : Inv S m) (hk : 6 * k + 6 ≤ eN E) (hN : eN E ≤ 3072) (hx : eX E (6 * k) &&& (31 : Int32) = 5) : ∃ S2 m2, Inv S2 m2 ∧ ∀ fu, l_L_law_18 E 0 237 (fu + 1) S (nI (6 * k)) = l_L_law_18 E 0 237 fu S2 (nI (6 * k) + 6) := by
  have cond : ¬ nI (eN E) - (6 : Int32) < nI (6 * k) := by
    rw [show nI (eN E) - (6 : Int32) = nI (eN E - 6) from sub_nI (b := 6) (by omega), nI_ltI (by omega) (by omega)]
    omega
  have ld0 := ldx0 (E := E) (i := 6 * k) (by omega) hN
  have lt0 : ∀ F : Int32 → Option (Int32 × gS), g_lt (eX E (6 * k) &&& (31 : Int32)) F = F 5 := fun F => by
    unfold g_lt
    rw [hx]
  have ld1 := ldx (E := E) (i := 6 * k) (j := 1) (x := 1) rfl (by omega) hN
  obtain ⟨S2, i2, p2⟩ := pair_I (m' := (mRemove m (eX E (6 * k + 1))).2) (oR := fun S1 => f_X9_remove S1 237 (eX E (6 * k + 1))) h (remove_C h.1 h.2.2.1) (fun S1 hR => remove_R hR h.2.2.1 h.2.2.2) (mRemove_ok h.2.2.1) (mRemove_nt h.2.2.2)
  refine ⟨S2, _, i2, fun fu => ?_⟩
  rw [l_L_law_18, if_neg cond, ld0]
  rw [lt0, g_jn]
  dsimp only
  rw [if_neg (show ¬ (5 : Int32) = 0 by decide), if_neg (show ¬ (5 : Int32) = 1 by decide), if_neg (show ¬ (5 : Int32) = 2 by decide), if_neg (show ¬ (5 : Int32) = 3 by decide), if_neg (show ¬ (5 : Int32) = 4 by decide), if_pos rfl]
  simp only [ld1]
  exact p2 (fun S9 => l_L_law_18 E 0 237 fu S9 (nI (6 * k) + 6))
theorem law_read {E : gE} {S : gS} {m : mS} {k : Nat} (h : Inv S m) (hk : 6 * k + 6 ≤ eN E) (hN : eN E ≤ 3072) (hx : eX E (6 * k) &&& (31 : Int32) = 6) : ∃ S2 m2, Inv S2 m2 ∧ ∀ fu, l_L_law_18 E 0 237 (fu + 1) S (nI (6 * k)) = l_L_law_18 E 0 237 fu S2 (nI (6 * k) + 6) := by
  have cond : ¬ nI (eN E) - (6 : Int32) < nI (6 * k) := by
    rw [show nI (eN E) - (6 : Int32) = nI (eN E - 6) from sub_nI (b := 6) (by omega), nI_ltI (by omega) (by omega)]
    omega
  have ld0 := ldx0 (E := E) (i := 6 * k) (by omega) hN
  have lt0 : ∀ F : Int32 → Option (Int32 × gS), g_lt (eX E (6 * k) &&& (31 : Int32)) F = F 6 := fun F => by
    unfold g_lt
    rw [hx]
  have ld1 := ldx (E := E) (i := 6 * k) (j := 1) (x := 1) rfl (by omega) hN
  have ld2 := ldx (E := E) (i := 6 * k) (j := 2) (x := 2) rfl (by omega) hN
  by_cases hb : eX E (6 * k + 2) = 0
  · obtain ⟨S2, i2, p2⟩ := pair_I (m' := (mRead m (eX E (6 * k + 1)) 0).2) (oR := fun S1 => f_X9_read S1 237 (eX E (6 * k + 1)) 0) h (read_C h.1 h.2.2.1) (fun S1 hR => read_R hR h.2.2.1) (mRead_ok h.2.2.1) (mRead_nt h.2.2.2)
    refine ⟨S2, _, i2, fun fu => ?_⟩
    rw [l_L_law_18, if_neg cond, ld0]
    rw [lt0, g_jn]
    dsimp only
    rw [if_neg (show ¬ (6 : Int32) = 0 by decide), if_neg (show ¬ (6 : Int32) = 1 by decide), if_neg (show ¬ (6 : Int32) = 2 by decide), if_neg (show ¬ (6 : Int32) = 3 by decide), if_neg (show ¬ (6 : Int32) = 4 by decide), if_neg (show ¬ (6 : Int32) = 5 by decide), if_pos rfl]
    simp only [ld1, ld2, g_jn]
    simp only [if_pos hb]
    exact p2 (fun S9 => l_L_law_18 E 0 237 fu S9 (nI (6 * k) + 6))
  · obtain ⟨S2, i2, p2⟩ := pair_I (m' := (mRead m (eX E (6 * k + 1)) 1).2) (oR := fun S1 => f_X9_read S1 237 (eX E (6 * k + 1)) 1) h (read_C h.1 h.2.2.1) (fun S1 hR => read_R hR h.2.2.1) (mRead_ok h.2.2.1) (mRead_nt h.2.2.2)
    refine ⟨S2, _, i2, fun fu => ?_⟩
    rw [l_L_law_18, if_neg cond, ld0]
    rw [lt0, g_jn]
    dsimp only
    rw [if_neg (show ¬ (6 : Int32) = 0 by decide), if_neg (show ¬ (6 : Int32) = 1 by decide), if_neg (show ¬ (6 : Int32) = 2 by decide), if_neg (show ¬ (6 : Int32) = 3 by decide), if_neg (show ¬ (6 : Int32) = 4 by decide), if_neg (show ¬ (6 : Int32) = 5 by decide), if_pos rfl]
    simp only [ld1, ld2, g_jn]
    simp only [if_neg hb]
    exact p2 (fun S9 => l_L_law_18 E 0 237 fu S9 (nI (6 * k) + 6))
theorem law_seen {E : gE} {S : gS} {m : mS} {k : Nat} (h : Inv S m) (hk : 6 * k + 6 ≤ eN E) (hN : eN E ≤ 3072) (hx : eX E (6 * k) &&& (31 : Int32) = 7) : ∃ S2 m2, Inv S2 m2 ∧ ∀ fu, l_L_law_18 E 0 237 (fu + 1) S (nI (6 * k)) = l_L_law_18 E 0 237 fu S2 (nI (6 * k) + 6) := by
  have cond : ¬ nI (eN E) - (6 : Int32) < nI (6 * k) := by
    rw [show nI (eN E) - (6 : Int32) = nI (eN E - 6) from sub_nI (b := 6) (by omega), nI_ltI (by omega) (by omega)]
    omega
  have ld0 := ldx0 (E := E) (i := 6 * k) (by omega) hN
  have lt0 : ∀ F : Int32 → Option (Int32 × gS), g_lt (eX E (6 * k) &&& (31 : Int32)) F = F 7 := fun F => by
    unfold g_lt
    rw [hx]
  obtain ⟨S2, i2, p2⟩ := pair_I (m' := m) (oR := fun S1 => f_X9_seen S1 237 ) h (seen_C h.1 h.2.2.1) (fun S1 hR => seen_R hR h.2.2.1) h.2.2.1 h.2.2.2
  refine ⟨S2, _, i2, fun fu => ?_⟩
  rw [l_L_law_18, if_neg cond, ld0]
  rw [lt0, g_jn]
  dsimp only
  rw [if_neg (show ¬ (7 : Int32) = 0 by decide), if_neg (show ¬ (7 : Int32) = 1 by decide), if_neg (show ¬ (7 : Int32) = 2 by decide), if_neg (show ¬ (7 : Int32) = 3 by decide), if_neg (show ¬ (7 : Int32) = 4 by decide), if_neg (show ¬ (7 : Int32) = 5 by decide), if_neg (show ¬ (7 : Int32) = 6 by decide), if_pos rfl]
  exact p2 (fun S9 => l_L_law_18 E 0 237 fu S9 (nI (6 * k) + 6))
theorem law_value {E : gE} {S : gS} {m : mS} {k : Nat} (h : Inv S m) (hk : 6 * k + 6 ≤ eN E) (hN : eN E ≤ 3072) (hx : eX E (6 * k) &&& (31 : Int32) = 8) : ∃ S2 m2, Inv S2 m2 ∧ ∀ fu, l_L_law_18 E 0 237 (fu + 1) S (nI (6 * k)) = l_L_law_18 E 0 237 fu S2 (nI (6 * k) + 6) := by
  have cond : ¬ nI (eN E) - (6 : Int32) < nI (6 * k) := by
    rw [show nI (eN E) - (6 : Int32) = nI (eN E - 6) from sub_nI (b := 6) (by omega), nI_ltI (by omega) (by omega)]
    omega
  have ld0 := ldx0 (E := E) (i := 6 * k) (by omega) hN
  have lt0 : ∀ F : Int32 → Option (Int32 × gS), g_lt (eX E (6 * k) &&& (31 : Int32)) F = F 8 := fun F => by
    unfold g_lt
    rw [hx]
  have ld1 := ldx (E := E) (i := 6 * k) (j := 1) (x := 1) rfl (by omega) hN
  obtain ⟨S2, i2, p2⟩ := pair_L (m' := m) (oR := fun S1 => f_X9_value S1 237 (eX E (6 * k + 1))) h (value_C h.1 h.2.2.1) (fun S1 hR => value_R hR h.2.2.1) h.2.2.1 h.2.2.2
  refine ⟨S2, _, i2, fun fu => ?_⟩
  rw [l_L_law_18, if_neg cond, ld0]
  rw [lt0, g_jn]
  dsimp only
  rw [if_neg (show ¬ (8 : Int32) = 0 by decide), if_neg (show ¬ (8 : Int32) = 1 by decide), if_neg (show ¬ (8 : Int32) = 2 by decide), if_neg (show ¬ (8 : Int32) = 3 by decide), if_neg (show ¬ (8 : Int32) = 4 by decide), if_neg (show ¬ (8 : Int32) = 5 by decide), if_neg (show ¬ (8 : Int32) = 6 by decide), if_neg (show ¬ (8 : Int32) = 7 by decide), if_pos rfl]
  simp only [ld1]
  exact p2 (fun S9 => l_L_law_18 E 0 237 fu S9 (nI (6 * k) + 6))
theorem law_letter {E : gE} {S : gS} {m : mS} {k : Nat} (h : Inv S m) (hk : 6 * k + 6 ≤ eN E) (hN : eN E ≤ 3072) (hx : eX E (6 * k) &&& (31 : Int32) = 9) : ∃ S2 m2, Inv S2 m2 ∧ ∀ fu, l_L_law_18 E 0 237 (fu + 1) S (nI (6 * k)) = l_L_law_18 E 0 237 fu S2 (nI (6 * k) + 6) := by
  have cond : ¬ nI (eN E) - (6 : Int32) < nI (6 * k) := by
    rw [show nI (eN E) - (6 : Int32) = nI (eN E - 6) from sub_nI (b := 6) (by omega), nI_ltI (by omega) (by omega)]
    omega
  have ld0 := ldx0 (E := E) (i := 6 * k) (by omega) hN
  have lt0 : ∀ F : Int32 → Option (Int32 × gS), g_lt (eX E (6 * k) &&& (31 : Int32)) F = F 9 := fun F => by
    unfold g_lt
    rw [hx]
  have ld1 := ldx (E := E) (i := 6 * k) (j := 1) (x := 1) rfl (by omega) hN
  have ld2 := ldx (E := E) (i := 6 * k) (j := 2) (x := 2) rfl (by omega) hN
  obtain ⟨S2, i2, p2⟩ := pair_I (m' := m) (oR := fun S1 => f_X9_letter S1 237 (eX E (6 * k + 1)) (eX E (6 * k + 2))) h (letter_C h.1 h.2.2.1) (fun S1 hR => letter_R hR h.2.2.1) h.2.2.1 h.2.2.2
  refine ⟨S2, _, i2, fun fu => ?_⟩
  rw [l_L_law_18, if_neg cond, ld0]
  rw [lt0, g_jn]
  dsimp only
  rw [if_neg (show ¬ (9 : Int32) = 0 by decide), if_neg (show ¬ (9 : Int32) = 1 by decide), if_neg (show ¬ (9 : Int32) = 2 by decide), if_neg (show ¬ (9 : Int32) = 3 by decide), if_neg (show ¬ (9 : Int32) = 4 by decide), if_neg (show ¬ (9 : Int32) = 5 by decide), if_neg (show ¬ (9 : Int32) = 6 by decide), if_neg (show ¬ (9 : Int32) = 7 by decide), if_neg (show ¬ (9 : Int32) = 8 by decide), if_pos rfl]
  simp only [ld1, ld2]
  exact p2 (fun S9 => l_L_law_18 E 0 237 fu S9 (nI (6 * k) + 6))
theorem law_next {E : gE} {S : gS} {m : mS} {k : Nat} (h : Inv S m) (hk : 6 * k + 6 ≤ eN E) (hN : eN E ≤ 3072) (hx : eX E (6 * k) &&& (31 : Int32) = 10) : ∃ S2 m2, Inv S2 m2 ∧ ∀ fu, l_L_law_18 E 0 237 (fu + 1) S (nI (6 * k)) = l_L_law_18 E 0 237 fu S2 (nI (6 * k) + 6) := by
  have cond : ¬ nI (eN E) - (6 : Int32) < nI (6 * k) := by
    rw [show nI (eN E) - (6 : Int32) = nI (eN E - 6) from sub_nI (b := 6) (by omega), nI_ltI (by omega) (by omega)]
    omega
  have ld0 := ldx0 (E := E) (i := 6 * k) (by omega) hN
  have lt0 : ∀ F : Int32 → Option (Int32 × gS), g_lt (eX E (6 * k) &&& (31 : Int32)) F = F 10 := fun F => by
    unfold g_lt
    rw [hx]
  have ld1 := ldx (E := E) (i := 6 * k) (j := 1) (x := 1) rfl (by omega) hN
  have ld2 := ldx (E := E) (i := 6 * k) (j := 2) (x := 2) rfl (by omega) hN
  by_cases hb : eX E (6 * k + 2) = 0
  · obtain ⟨S2, i2, p2⟩ := pair_I (m' := m) (oR := fun S1 => f_X9_next S1 237 (eX E (6 * k + 1)) 0) h (next_C h.1 h.2.2.1) (fun S1 hR => next_R hR h.2.2.1) h.2.2.1 h.2.2.2
    refine ⟨S2, _, i2, fun fu => ?_⟩
    rw [l_L_law_18, if_neg cond, ld0]
    rw [lt0, g_jn]
    dsimp only
    rw [if_neg (show ¬ (10 : Int32) = 0 by decide), if_neg (show ¬ (10 : Int32) = 1 by decide), if_neg (show ¬ (10 : Int32) = 2 by decide), if_neg (show ¬ (10 : Int32) = 3 by decide), if_neg (show ¬ (10 : Int32) = 4 by decide), if_neg (show ¬ (10 : Int32) = 5 by decide), if_neg (show ¬ (10 : Int32) = 6 by decide), if_neg (show ¬ (10 : Int32) = 7 by decide), if_neg (show ¬ (10 : Int32) = 8 by decide), if_neg (show ¬ (10 : Int32) = 9 by decide), if_pos rfl]
    simp only [ld1, ld2, g_jn]
    simp only [if_pos hb]
    exact p2 (fun S9 => l_L_law_18 E 0 237 fu S9 (nI (6 * k) + 6))
  · obtain ⟨S2, i2, p2⟩ := pair_I (m' := m) (oR := fun S1 => f_X9_next S1 237 (eX E (6 * k + 1)) 1) h (next_C h.1 h.2.2.1) (fun S1 hR => next_R hR h.2.2.1) h.2.2.1 h.2.2.2
    refine ⟨S2, _, i2, fun fu => ?_⟩
    rw [l_L_law_18, if_neg cond, ld0]
    rw [lt0, g_jn]
    dsimp only
    rw [if_neg (show ¬ (10 : Int32) = 0 by decide), if_neg (show ¬ (10 : Int32) = 1 by decide), if_neg (show ¬ (10 : Int32) = 2 by decide), if_neg (show ¬ (10 : Int32) = 3 by decide), if_neg (show ¬ (10 : Int32) = 4 by decide), if_neg (show ¬ (10 : Int32) = 5 by decide), if_neg (show ¬ (10 : Int32) = 6 by decide), if_neg (show ¬ (10 : Int32) = 7 by decide), if_neg (show ¬ (10 : Int32) = 8 by decide), if_neg (show ¬ (10 : Int32) = 9 by decide), if_pos rfl]
    simp only [ld1, ld2, g_jn]
    simp only [if_neg hb]
    exact p2 (fun S9 => l_L_law_18 E 0 237 fu S9 (nI (6 * k) + 6))
theorem law_more {E : gE} {S : gS} {m : mS} {k : Nat} (h : Inv S m) (hk : 6 * k + 6 ≤ eN E) (hN : eN E ≤ 3072) (hx : eX E (6 * k) &&& (31 : Int32) = 11) : ∃ S2 m2, Inv S2 m2 ∧ ∀ fu, l_L_law_18 E 0 237 (fu + 1) S (nI (6 * k)) = l_L_law_18 E 0 237 fu S2 (nI (6 * k) + 6) := by
  have cond : ¬ nI (eN E) - (6 : Int32) < nI (6 * k) := by
    rw [show nI (eN E) - (6 : Int32) = nI (eN E - 6) from sub_nI (b := 6) (by omega), nI_ltI (by omega) (by omega)]
    omega
  have ld0 := ldx0 (E := E) (i := 6 * k) (by omega) hN
  have lt0 : ∀ F : Int32 → Option (Int32 × gS), g_lt (eX E (6 * k) &&& (31 : Int32)) F = F 11 := fun F => by
    unfold g_lt
    rw [hx]
  have ld1 := ldx (E := E) (i := 6 * k) (j := 1) (x := 1) rfl (by omega) hN
  have ld2 := ldx (E := E) (i := 6 * k) (j := 2) (x := 2) rfl (by omega) hN
  by_cases hb : eX E (6 * k + 2) = 0
  · obtain ⟨S2, i2, p2⟩ := pair_I (m' := m) (oR := fun S1 => f_X9_more S1 237 (eX E (6 * k + 1)) 0) h (more_C h.1 h.2.2.1) (fun S1 hR => more_R hR h.2.2.1) h.2.2.1 h.2.2.2
    refine ⟨S2, _, i2, fun fu => ?_⟩
    rw [l_L_law_18, if_neg cond, ld0]
    rw [lt0, g_jn]
    dsimp only
    rw [if_neg (show ¬ (11 : Int32) = 0 by decide), if_neg (show ¬ (11 : Int32) = 1 by decide), if_neg (show ¬ (11 : Int32) = 2 by decide), if_neg (show ¬ (11 : Int32) = 3 by decide), if_neg (show ¬ (11 : Int32) = 4 by decide), if_neg (show ¬ (11 : Int32) = 5 by decide), if_neg (show ¬ (11 : Int32) = 6 by decide), if_neg (show ¬ (11 : Int32) = 7 by decide), if_neg (show ¬ (11 : Int32) = 8 by decide), if_neg (show ¬ (11 : Int32) = 9 by decide), if_neg (show ¬ (11 : Int32) = 10 by decide), if_pos rfl]
    simp only [ld1, ld2, g_jn]
    simp only [if_pos hb]
    exact p2 (fun S9 => l_L_law_18 E 0 237 fu S9 (nI (6 * k) + 6))
  · obtain ⟨S2, i2, p2⟩ := pair_I (m' := m) (oR := fun S1 => f_X9_more S1 237 (eX E (6 * k + 1)) 1) h (more_C h.1 h.2.2.1) (fun S1 hR => more_R hR h.2.2.1) h.2.2.1 h.2.2.2
    refine ⟨S2, _, i2, fun fu => ?_⟩
    rw [l_L_law_18, if_neg cond, ld0]
    rw [lt0, g_jn]
    dsimp only
    rw [if_neg (show ¬ (11 : Int32) = 0 by decide), if_neg (show ¬ (11 : Int32) = 1 by decide), if_neg (show ¬ (11 : Int32) = 2 by decide), if_neg (show ¬ (11 : Int32) = 3 by decide), if_neg (show ¬ (11 : Int32) = 4 by decide), if_neg (show ¬ (11 : Int32) = 5 by decide), if_neg (show ¬ (11 : Int32) = 6 by decide), if_neg (show ¬ (11 : Int32) = 7 by decide), if_neg (show ¬ (11 : Int32) = 8 by decide), if_neg (show ¬ (11 : Int32) = 9 by decide), if_neg (show ¬ (11 : Int32) = 10 by decide), if_pos rfl]
    simp only [ld1, ld2, g_jn]
    simp only [if_neg hb]
    exact p2 (fun S9 => l_L_law_18 E 0 237 fu S9 (nI (6 * k) + 6))
theorem law_begin {E : gE} {S : gS} {m : mS} {k : Nat} (h : Inv S m) (hk : 6 * k + 6 ≤ eN E) (hN : eN E ≤ 3072) (hx : eX E (6 * k) &&& (31 : Int32) = 12) : ∃ S2 m2, Inv S2 m2 ∧ ∀ fu, l_L_law_18 E 0 237 (fu + 1) S (nI (6 * k)) = l_L_law_18 E 0 237 fu S2 (nI (6 * k) + 6) := by
  have cond : ¬ nI (eN E) - (6 : Int32) < nI (6 * k) := by
    rw [show nI (eN E) - (6 : Int32) = nI (eN E - 6) from sub_nI (b := 6) (by omega), nI_ltI (by omega) (by omega)]
    omega
  have ld0 := ldx0 (E := E) (i := 6 * k) (by omega) hN
  have lt0 : ∀ F : Int32 → Option (Int32 × gS), g_lt (eX E (6 * k) &&& (31 : Int32)) F = F 12 := fun F => by
    unfold g_lt
    rw [hx]
  obtain ⟨S2, i2, p2⟩ := pair_I (m' := (mBegin m ).2) (oR := fun S1 => f_X9_begin S1 237 ) h (begin_C h.1 h.2.2.1) (fun S1 hR => begin_R hR h.2.2.1) (mBegin_ok h.2.2.1) (mBegin_nt h.2.2.2)
  refine ⟨S2, _, i2, fun fu => ?_⟩
  rw [l_L_law_18, if_neg cond, ld0]
  rw [lt0, g_jn]
  dsimp only
  rw [if_neg (show ¬ (12 : Int32) = 0 by decide), if_neg (show ¬ (12 : Int32) = 1 by decide), if_neg (show ¬ (12 : Int32) = 2 by decide), if_neg (show ¬ (12 : Int32) = 3 by decide), if_neg (show ¬ (12 : Int32) = 4 by decide), if_neg (show ¬ (12 : Int32) = 5 by decide), if_neg (show ¬ (12 : Int32) = 6 by decide), if_neg (show ¬ (12 : Int32) = 7 by decide), if_neg (show ¬ (12 : Int32) = 8 by decide), if_neg (show ¬ (12 : Int32) = 9 by decide), if_neg (show ¬ (12 : Int32) = 10 by decide), if_neg (show ¬ (12 : Int32) = 11 by decide), if_pos rfl]
  exact p2 (fun S9 => l_L_law_18 E 0 237 fu S9 (nI (6 * k) + 6))
theorem law_finish {E : gE} {S : gS} {m : mS} {k : Nat} (h : Inv S m) (hk : 6 * k + 6 ≤ eN E) (hN : eN E ≤ 3072) (hx : eX E (6 * k) &&& (31 : Int32) = 13) : ∃ S2 m2, Inv S2 m2 ∧ ∀ fu, l_L_law_18 E 0 237 (fu + 1) S (nI (6 * k)) = l_L_law_18 E 0 237 fu S2 (nI (6 * k) + 6) := by
  have cond : ¬ nI (eN E) - (6 : Int32) < nI (6 * k) := by
    rw [show nI (eN E) - (6 : Int32) = nI (eN E - 6) from sub_nI (b := 6) (by omega), nI_ltI (by omega) (by omega)]
    omega
  have ld0 := ldx0 (E := E) (i := 6 * k) (by omega) hN
  have lt0 : ∀ F : Int32 → Option (Int32 × gS), g_lt (eX E (6 * k) &&& (31 : Int32)) F = F 13 := fun F => by
    unfold g_lt
    rw [hx]
  obtain ⟨S2, i2, p2⟩ := pair_I (m' := (mFinish m ).2) (oR := fun S1 => f_X9_finish S1 237 ) h (finish_C h.1 h.2.2.1) (fun S1 hR => finish_R hR h.2.2.1) (mFinish_ok h.2.2.1) (mFinish_nt h.2.2.2)
  refine ⟨S2, _, i2, fun fu => ?_⟩
  rw [l_L_law_18, if_neg cond, ld0]
  rw [lt0, g_jn]
  dsimp only
  rw [if_neg (show ¬ (13 : Int32) = 0 by decide), if_neg (show ¬ (13 : Int32) = 1 by decide), if_neg (show ¬ (13 : Int32) = 2 by decide), if_neg (show ¬ (13 : Int32) = 3 by decide), if_neg (show ¬ (13 : Int32) = 4 by decide), if_neg (show ¬ (13 : Int32) = 5 by decide), if_neg (show ¬ (13 : Int32) = 6 by decide), if_neg (show ¬ (13 : Int32) = 7 by decide), if_neg (show ¬ (13 : Int32) = 8 by decide), if_neg (show ¬ (13 : Int32) = 9 by decide), if_neg (show ¬ (13 : Int32) = 10 by decide), if_neg (show ¬ (13 : Int32) = 11 by decide), if_neg (show ¬ (13 : Int32) = 12 by decide), if_pos rfl]
  exact p2 (fun S9 => l_L_law_18 E 0 237 fu S9 (nI (6 * k) + 6))
theorem law_rollback {E : gE} {S : gS} {m : mS} {k : Nat} (h : Inv S m) (hk : 6 * k + 6 ≤ eN E) (hN : eN E ≤ 3072) (hx : eX E (6 * k) &&& (31 : Int32) = 14) : ∃ S2 m2, Inv S2 m2 ∧ ∀ fu, l_L_law_18 E 0 237 (fu + 1) S (nI (6 * k)) = l_L_law_18 E 0 237 fu S2 (nI (6 * k) + 6) := by
  have cond : ¬ nI (eN E) - (6 : Int32) < nI (6 * k) := by
    rw [show nI (eN E) - (6 : Int32) = nI (eN E - 6) from sub_nI (b := 6) (by omega), nI_ltI (by omega) (by omega)]
    omega
  have ld0 := ldx0 (E := E) (i := 6 * k) (by omega) hN
  have lt0 : ∀ F : Int32 → Option (Int32 × gS), g_lt (eX E (6 * k) &&& (31 : Int32)) F = F 14 := fun F => by
    unfold g_lt
    rw [hx]
  obtain ⟨S2, i2, p2⟩ := pair_I (m' := (mRollback m ).2) (oR := fun S1 => f_X9_rollback S1 237 ) h (rollback_C h.1 h.2.2.1) (fun S1 hR => rollback_R hR h.2.2.1) (mRollback_ok h.2.2.1) (mRollback_nt h.2.2.2)
  refine ⟨S2, _, i2, fun fu => ?_⟩
  rw [l_L_law_18, if_neg cond, ld0]
  rw [lt0, g_jn]
  dsimp only
  rw [if_neg (show ¬ (14 : Int32) = 0 by decide), if_neg (show ¬ (14 : Int32) = 1 by decide), if_neg (show ¬ (14 : Int32) = 2 by decide), if_neg (show ¬ (14 : Int32) = 3 by decide), if_neg (show ¬ (14 : Int32) = 4 by decide), if_neg (show ¬ (14 : Int32) = 5 by decide), if_neg (show ¬ (14 : Int32) = 6 by decide), if_neg (show ¬ (14 : Int32) = 7 by decide), if_neg (show ¬ (14 : Int32) = 8 by decide), if_neg (show ¬ (14 : Int32) = 9 by decide), if_neg (show ¬ (14 : Int32) = 10 by decide), if_neg (show ¬ (14 : Int32) = 11 by decide), if_neg (show ¬ (14 : Int32) = 12 by decide), if_neg (show ¬ (14 : Int32) = 13 by decide), if_pos rfl]
  exact p2 (fun S9 => l_L_law_18 E 0 237 fu S9 (nI (6 * k) + 6))
theorem law_backfill {E : gE} {S : gS} {m : mS} {k : Nat} (h : Inv S m) (hk : 6 * k + 6 ≤ eN E) (hN : eN E ≤ 3072) (hx : eX E (6 * k) &&& (31 : Int32) = 15) : ∃ S2 m2, Inv S2 m2 ∧ ∀ fu, l_L_law_18 E 0 237 (fu + 1) S (nI (6 * k)) = l_L_law_18 E 0 237 fu S2 (nI (6 * k) + 6) := by
  have cond : ¬ nI (eN E) - (6 : Int32) < nI (6 * k) := by
    rw [show nI (eN E) - (6 : Int32) = nI (eN E - 6) from sub_nI (b := 6) (by omega), nI_ltI (by omega) (by omega)]
    omega
  have ld0 := ldx0 (E := E) (i := 6 * k) (by omega) hN
  have lt0 : ∀ F : Int32 → Option (Int32 × gS), g_lt (eX E (6 * k) &&& (31 : Int32)) F = F 15 := fun F => by
    unfold g_lt
    rw [hx]
  obtain ⟨S2, i2, p2⟩ := pair_I (m' := (mBackfill m ).2) (oR := fun S1 => f_X9_backfill S1 237 ) h (backfill_C h.1 h.2.2.1) (fun S1 hR => backfill_R hR h.2.2.1) (mBackfill_ok h.2.2.1) (mBackfill_nt h.2.2.2)
  refine ⟨S2, _, i2, fun fu => ?_⟩
  rw [l_L_law_18, if_neg cond, ld0]
  rw [lt0, g_jn]
  dsimp only
  rw [if_neg (show ¬ (15 : Int32) = 0 by decide), if_neg (show ¬ (15 : Int32) = 1 by decide), if_neg (show ¬ (15 : Int32) = 2 by decide), if_neg (show ¬ (15 : Int32) = 3 by decide), if_neg (show ¬ (15 : Int32) = 4 by decide), if_neg (show ¬ (15 : Int32) = 5 by decide), if_neg (show ¬ (15 : Int32) = 6 by decide), if_neg (show ¬ (15 : Int32) = 7 by decide), if_neg (show ¬ (15 : Int32) = 8 by decide), if_neg (show ¬ (15 : Int32) = 9 by decide), if_neg (show ¬ (15 : Int32) = 10 by decide), if_neg (show ¬ (15 : Int32) = 11 by decide), if_neg (show ¬ (15 : Int32) = 12 by decide), if_neg (show ¬ (15 : Int32) = 13 by decide), if_neg (show ¬ (15 : Int32) = 14 by decide), if_pos rfl]
  exact p2 (fun S9 => l_L_law_18 E 0 237 fu S9 (nI (6 * k) + 6))
theorem law_crash {E : gE} {S : gS} {m : mS} {k : Nat} (h : Inv S m) (hk : 6 * k + 6 ≤ eN E) (hN : eN E ≤ 3072) (hx : eX E (6 * k) &&& (31 : Int32) = 16) : ∃ S2 m2, Inv S2 m2 ∧ ∀ fu, l_L_law_18 E 0 237 (fu + 1) S (nI (6 * k)) = l_L_law_18 E 0 237 fu S2 (nI (6 * k) + 6) := by
  have cond : ¬ nI (eN E) - (6 : Int32) < nI (6 * k) := by
    rw [show nI (eN E) - (6 : Int32) = nI (eN E - 6) from sub_nI (b := 6) (by omega), nI_ltI (by omega) (by omega)]
    omega
  have ld0 := ldx0 (E := E) (i := 6 * k) (by omega) hN
  have lt0 : ∀ F : Int32 → Option (Int32 × gS), g_lt (eX E (6 * k) &&& (31 : Int32)) F = F 16 := fun F => by
    unfold g_lt
    rw [hx]
  have ld1 := ldx (E := E) (i := 6 * k) (j := 1) (x := 1) rfl (by omega) hN
  obtain ⟨S2, i2, p2⟩ := pair_I (m' := (mCrash m (eX E (6 * k + 1))).2) (oR := fun S1 => f_X9_crash S1 237 (eX E (6 * k + 1))) h (crash_C h.1 h.2.2.1) (fun S1 hR => crash_R hR h.2.2.1) (mCrash_ok h.2.2.1) (mCrash_nt h.2.2.2)
  refine ⟨S2, _, i2, fun fu => ?_⟩
  rw [l_L_law_18, if_neg cond, ld0]
  rw [lt0, g_jn]
  dsimp only
  rw [if_neg (show ¬ (16 : Int32) = 0 by decide), if_neg (show ¬ (16 : Int32) = 1 by decide), if_neg (show ¬ (16 : Int32) = 2 by decide), if_neg (show ¬ (16 : Int32) = 3 by decide), if_neg (show ¬ (16 : Int32) = 4 by decide), if_neg (show ¬ (16 : Int32) = 5 by decide), if_neg (show ¬ (16 : Int32) = 6 by decide), if_neg (show ¬ (16 : Int32) = 7 by decide), if_neg (show ¬ (16 : Int32) = 8 by decide), if_neg (show ¬ (16 : Int32) = 9 by decide), if_neg (show ¬ (16 : Int32) = 10 by decide), if_neg (show ¬ (16 : Int32) = 11 by decide), if_neg (show ¬ (16 : Int32) = 12 by decide), if_neg (show ¬ (16 : Int32) = 13 by decide), if_neg (show ¬ (16 : Int32) = 14 by decide), if_neg (show ¬ (16 : Int32) = 15 by decide), if_pos rfl]
  simp only [ld1]
  exact p2 (fun S9 => l_L_law_18 E 0 237 fu S9 (nI (6 * k) + 6))
theorem law_restart {E : gE} {S : gS} {m : mS} {k : Nat} (h : Inv S m) (hk : 6 * k + 6 ≤ eN E) (hN : eN E ≤ 3072) (hx : eX E (6 * k) &&& (31 : Int32) = 17) : ∃ S2 m2, Inv S2 m2 ∧ ∀ fu, l_L_law_18 E 0 237 (fu + 1) S (nI (6 * k)) = l_L_law_18 E 0 237 fu S2 (nI (6 * k) + 6) := by
  have cond : ¬ nI (eN E) - (6 : Int32) < nI (6 * k) := by
    rw [show nI (eN E) - (6 : Int32) = nI (eN E - 6) from sub_nI (b := 6) (by omega), nI_ltI (by omega) (by omega)]
    omega
  have ld0 := ldx0 (E := E) (i := 6 * k) (by omega) hN
  have lt0 : ∀ F : Int32 → Option (Int32 × gS), g_lt (eX E (6 * k) &&& (31 : Int32)) F = F 17 := fun F => by
    unfold g_lt
    rw [hx]
  obtain ⟨S2, i2, p2⟩ := pair_I (m' := (mRestart m ).2) (oR := fun S1 => f_X9_restart S1 237 ) h (restart_C h.1 h.2.2.1) (fun S1 hR => restart_R hR h.2.2.1) (mRestart_ok h.2.2.1) (mRestart_nt h.2.2.2)
  refine ⟨S2, _, i2, fun fu => ?_⟩
  rw [l_L_law_18, if_neg cond, ld0]
  rw [lt0, g_jn]
  dsimp only
  rw [if_neg (show ¬ (17 : Int32) = 0 by decide), if_neg (show ¬ (17 : Int32) = 1 by decide), if_neg (show ¬ (17 : Int32) = 2 by decide), if_neg (show ¬ (17 : Int32) = 3 by decide), if_neg (show ¬ (17 : Int32) = 4 by decide), if_neg (show ¬ (17 : Int32) = 5 by decide), if_neg (show ¬ (17 : Int32) = 6 by decide), if_neg (show ¬ (17 : Int32) = 7 by decide), if_neg (show ¬ (17 : Int32) = 8 by decide), if_neg (show ¬ (17 : Int32) = 9 by decide), if_neg (show ¬ (17 : Int32) = 10 by decide), if_neg (show ¬ (17 : Int32) = 11 by decide), if_neg (show ¬ (17 : Int32) = 12 by decide), if_neg (show ¬ (17 : Int32) = 13 by decide), if_neg (show ¬ (17 : Int32) = 14 by decide), if_neg (show ¬ (17 : Int32) = 15 by decide), if_neg (show ¬ (17 : Int32) = 16 by decide), if_pos rfl]
  exact p2 (fun S9 => l_L_law_18 E 0 237 fu S9 (nI (6 * k) + 6))
theorem law_isDown {E : gE} {S : gS} {m : mS} {k : Nat} (h : Inv S m) (hk : 6 * k + 6 ≤ eN E) (hN : eN E ≤ 3072) (hx : eX E (6 * k) &&& (31 : Int32) = 18) : ∃ S2 m2, Inv S2 m2 ∧ ∀ fu, l_L_law_18 E 0 237 (fu + 1) S (nI (6 * k)) = l_L_law_18 E 0 237 fu S2 (nI (6 * k) + 6) := by
  have cond : ¬ nI (eN E) - (6 : Int32) < nI (6 * k) := by
    rw [show nI (eN E) - (6 : Int32) = nI (eN E - 6) from sub_nI (b := 6) (by omega), nI_ltI (by omega) (by omega)]
    omega
  have ld0 := ldx0 (E := E) (i := 6 * k) (by omega) hN
  have lt0 : ∀ F : Int32 → Option (Int32 × gS), g_lt (eX E (6 * k) &&& (31 : Int32)) F = F 18 := fun F => by
    unfold g_lt
    rw [hx]
  obtain ⟨S2, i2, p2⟩ := pair_I (m' := m) (oR := fun S1 => f_X9_isDown S1 237 ) h (isDown_C h.1 h.2.2.1) (fun S1 hR => isDown_R hR h.2.2.1) h.2.2.1 h.2.2.2
  refine ⟨S2, _, i2, fun fu => ?_⟩
  rw [l_L_law_18, if_neg cond, ld0]
  rw [lt0, g_jn]
  dsimp only
  rw [if_neg (show ¬ (18 : Int32) = 0 by decide), if_neg (show ¬ (18 : Int32) = 1 by decide), if_neg (show ¬ (18 : Int32) = 2 by decide), if_neg (show ¬ (18 : Int32) = 3 by decide), if_neg (show ¬ (18 : Int32) = 4 by decide), if_neg (show ¬ (18 : Int32) = 5 by decide), if_neg (show ¬ (18 : Int32) = 6 by decide), if_neg (show ¬ (18 : Int32) = 7 by decide), if_neg (show ¬ (18 : Int32) = 8 by decide), if_neg (show ¬ (18 : Int32) = 9 by decide), if_neg (show ¬ (18 : Int32) = 10 by decide), if_neg (show ¬ (18 : Int32) = 11 by decide), if_neg (show ¬ (18 : Int32) = 12 by decide), if_neg (show ¬ (18 : Int32) = 13 by decide), if_neg (show ¬ (18 : Int32) = 14 by decide), if_neg (show ¬ (18 : Int32) = 15 by decide), if_neg (show ¬ (18 : Int32) = 16 by decide), if_neg (show ¬ (18 : Int32) = 17 by decide), if_pos rfl]
  exact p2 (fun S9 => l_L_law_18 E 0 237 fu S9 (nI (6 * k) + 6))
theorem law_count {E : gE} {S : gS} {m : mS} {k : Nat} (h : Inv S m) (hk : 6 * k + 6 ≤ eN E) (hN : eN E ≤ 3072) (hx : eX E (6 * k) &&& (31 : Int32) = 19) : ∃ S2 m2, Inv S2 m2 ∧ ∀ fu, l_L_law_18 E 0 237 (fu + 1) S (nI (6 * k)) = l_L_law_18 E 0 237 fu S2 (nI (6 * k) + 6) := by
  have cond : ¬ nI (eN E) - (6 : Int32) < nI (6 * k) := by
    rw [show nI (eN E) - (6 : Int32) = nI (eN E - 6) from sub_nI (b := 6) (by omega), nI_ltI (by omega) (by omega)]
    omega
  have ld0 := ldx0 (E := E) (i := 6 * k) (by omega) hN
  have lt0 : ∀ F : Int32 → Option (Int32 × gS), g_lt (eX E (6 * k) &&& (31 : Int32)) F = F 19 := fun F => by
    unfold g_lt
    rw [hx]
  have ld1 := ldx (E := E) (i := 6 * k) (j := 1) (x := 1) rfl (by omega) hN
  obtain ⟨S2, i2, p2⟩ := pair_I (m' := m) (oR := fun S1 => f_X9_count S1 237 (eX E (6 * k + 1))) h (count_C h.1 h.2.2.1) (fun S1 hR => count_R hR h.2.2.1) h.2.2.1 h.2.2.2
  refine ⟨S2, _, i2, fun fu => ?_⟩
  rw [l_L_law_18, if_neg cond, ld0]
  rw [lt0, g_jn]
  dsimp only
  rw [if_neg (show ¬ (19 : Int32) = 0 by decide), if_neg (show ¬ (19 : Int32) = 1 by decide), if_neg (show ¬ (19 : Int32) = 2 by decide), if_neg (show ¬ (19 : Int32) = 3 by decide), if_neg (show ¬ (19 : Int32) = 4 by decide), if_neg (show ¬ (19 : Int32) = 5 by decide), if_neg (show ¬ (19 : Int32) = 6 by decide), if_neg (show ¬ (19 : Int32) = 7 by decide), if_neg (show ¬ (19 : Int32) = 8 by decide), if_neg (show ¬ (19 : Int32) = 9 by decide), if_neg (show ¬ (19 : Int32) = 10 by decide), if_neg (show ¬ (19 : Int32) = 11 by decide), if_neg (show ¬ (19 : Int32) = 12 by decide), if_neg (show ¬ (19 : Int32) = 13 by decide), if_neg (show ¬ (19 : Int32) = 14 by decide), if_neg (show ¬ (19 : Int32) = 15 by decide), if_neg (show ¬ (19 : Int32) = 16 by decide), if_neg (show ¬ (19 : Int32) = 17 by decide), if_neg (show ¬ (19 : Int32) = 18 by decide), if_pos rfl]
  simp only [ld1]
  exact p2 (fun S9 => l_L_law_18 E 0 237 fu S9 (nI (6 * k) + 6))
theorem law_column {E : gE} {S : gS} {m : mS} {k : Nat} (h : Inv S m) (hk : 6 * k + 6 ≤ eN E) (hN : eN E ≤ 3072) (hx : eX E (6 * k) &&& (31 : Int32) = 20) : ∃ S2 m2, Inv S2 m2 ∧ ∀ fu, l_L_law_18 E 0 237 (fu + 1) S (nI (6 * k)) = l_L_law_18 E 0 237 fu S2 (nI (6 * k) + 6) := by
  have cond : ¬ nI (eN E) - (6 : Int32) < nI (6 * k) := by
    rw [show nI (eN E) - (6 : Int32) = nI (eN E - 6) from sub_nI (b := 6) (by omega), nI_ltI (by omega) (by omega)]
    omega
  have ld0 := ldx0 (E := E) (i := 6 * k) (by omega) hN
  have lt0 : ∀ F : Int32 → Option (Int32 × gS), g_lt (eX E (6 * k) &&& (31 : Int32)) F = F 20 := fun F => by
    unfold g_lt
    rw [hx]
  have ld1 := ldx (E := E) (i := 6 * k) (j := 1) (x := 1) rfl (by omega) hN
  have ld2 := ldx (E := E) (i := 6 * k) (j := 2) (x := 2) rfl (by omega) hN
  by_cases hb : eX E (6 * k + 2) = 0
  · obtain ⟨S2, i2, p2⟩ := pair_I (m' := m) (oR := fun S1 => f_X9_column S1 237 (eX E (6 * k + 1)) 0) h (column_C h.1 h.2.2.1) (fun S1 hR => column_R hR h.2.2.1) h.2.2.1 h.2.2.2
    refine ⟨S2, _, i2, fun fu => ?_⟩
    rw [l_L_law_18, if_neg cond, ld0]
    rw [lt0, g_jn]
    dsimp only
    rw [if_neg (show ¬ (20 : Int32) = 0 by decide), if_neg (show ¬ (20 : Int32) = 1 by decide), if_neg (show ¬ (20 : Int32) = 2 by decide), if_neg (show ¬ (20 : Int32) = 3 by decide), if_neg (show ¬ (20 : Int32) = 4 by decide), if_neg (show ¬ (20 : Int32) = 5 by decide), if_neg (show ¬ (20 : Int32) = 6 by decide), if_neg (show ¬ (20 : Int32) = 7 by decide), if_neg (show ¬ (20 : Int32) = 8 by decide), if_neg (show ¬ (20 : Int32) = 9 by decide), if_neg (show ¬ (20 : Int32) = 10 by decide), if_neg (show ¬ (20 : Int32) = 11 by decide), if_neg (show ¬ (20 : Int32) = 12 by decide), if_neg (show ¬ (20 : Int32) = 13 by decide), if_neg (show ¬ (20 : Int32) = 14 by decide), if_neg (show ¬ (20 : Int32) = 15 by decide), if_neg (show ¬ (20 : Int32) = 16 by decide), if_neg (show ¬ (20 : Int32) = 17 by decide), if_neg (show ¬ (20 : Int32) = 18 by decide), if_neg (show ¬ (20 : Int32) = 19 by decide), if_pos rfl]
    simp only [ld1, ld2, g_jn]
    simp only [if_pos hb]
    exact p2 (fun S9 => l_L_law_18 E 0 237 fu S9 (nI (6 * k) + 6))
  · obtain ⟨S2, i2, p2⟩ := pair_I (m' := m) (oR := fun S1 => f_X9_column S1 237 (eX E (6 * k + 1)) 1) h (column_C h.1 h.2.2.1) (fun S1 hR => column_R hR h.2.2.1) h.2.2.1 h.2.2.2
    refine ⟨S2, _, i2, fun fu => ?_⟩
    rw [l_L_law_18, if_neg cond, ld0]
    rw [lt0, g_jn]
    dsimp only
    rw [if_neg (show ¬ (20 : Int32) = 0 by decide), if_neg (show ¬ (20 : Int32) = 1 by decide), if_neg (show ¬ (20 : Int32) = 2 by decide), if_neg (show ¬ (20 : Int32) = 3 by decide), if_neg (show ¬ (20 : Int32) = 4 by decide), if_neg (show ¬ (20 : Int32) = 5 by decide), if_neg (show ¬ (20 : Int32) = 6 by decide), if_neg (show ¬ (20 : Int32) = 7 by decide), if_neg (show ¬ (20 : Int32) = 8 by decide), if_neg (show ¬ (20 : Int32) = 9 by decide), if_neg (show ¬ (20 : Int32) = 10 by decide), if_neg (show ¬ (20 : Int32) = 11 by decide), if_neg (show ¬ (20 : Int32) = 12 by decide), if_neg (show ¬ (20 : Int32) = 13 by decide), if_neg (show ¬ (20 : Int32) = 14 by decide), if_neg (show ¬ (20 : Int32) = 15 by decide), if_neg (show ¬ (20 : Int32) = 16 by decide), if_neg (show ¬ (20 : Int32) = 17 by decide), if_neg (show ¬ (20 : Int32) = 18 by decide), if_neg (show ¬ (20 : Int32) = 19 by decide), if_pos rfl]
    simp only [ld1, ld2, g_jn]
    simp only [if_neg hb]
    exact p2 (fun S9 => l_L_law_18 E 0 237 fu S9 (nI (6 * k) + 6))
