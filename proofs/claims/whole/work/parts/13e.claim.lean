/-! ===== the law answers 1 ===== -/
theorem law_step {E : gE} {S : gS} {m : mS} {k : Nat} (h : Inv S m) (hk : 6 * k + 6 ≤ eN E) (hN : eN E ≤ 3072) : ∃ S2 m2, Inv S2 m2 ∧ ∀ fu, l_L_law_18 E 0 237 (fu + 1) S (nI (6 * k)) = l_L_law_18 E 0 237 fu S2 (nI (6 * k) + 6) := by
  by_cases e0 : eX E (6 * k) &&& (31 : Int32) = 0
  · exact law_plan h hk hN e0
  by_cases e1 : eX E (6 * k) &&& (31 : Int32) = 1
  · exact law_scrap h hk hN e1
  by_cases e2 : eX E (6 * k) &&& (31 : Int32) = 2
  · exact law_draft h hk hN e2
  by_cases e3 : eX E (6 * k) &&& (31 : Int32) = 3
  · exact law_letters h hk hN e3
  by_cases e4 : eX E (6 * k) &&& (31 : Int32) = 4
  · exact law_write h hk hN e4
  by_cases e5 : eX E (6 * k) &&& (31 : Int32) = 5
  · exact law_remove h hk hN e5
  by_cases e6 : eX E (6 * k) &&& (31 : Int32) = 6
  · exact law_read h hk hN e6
  by_cases e7 : eX E (6 * k) &&& (31 : Int32) = 7
  · exact law_seen h hk hN e7
  by_cases e8 : eX E (6 * k) &&& (31 : Int32) = 8
  · exact law_value h hk hN e8
  by_cases e9 : eX E (6 * k) &&& (31 : Int32) = 9
  · exact law_letter h hk hN e9
  by_cases e10 : eX E (6 * k) &&& (31 : Int32) = 10
  · exact law_next h hk hN e10
  by_cases e11 : eX E (6 * k) &&& (31 : Int32) = 11
  · exact law_more h hk hN e11
  by_cases e12 : eX E (6 * k) &&& (31 : Int32) = 12
  · exact law_begin h hk hN e12
  by_cases e13 : eX E (6 * k) &&& (31 : Int32) = 13
  · exact law_finish h hk hN e13
  by_cases e14 : eX E (6 * k) &&& (31 : Int32) = 14
  · exact law_rollback h hk hN e14
  by_cases e15 : eX E (6 * k) &&& (31 : Int32) = 15
  · exact law_backfill h hk hN e15
  by_cases e16 : eX E (6 * k) &&& (31 : Int32) = 16
  · exact law_crash h hk hN e16
  by_cases e17 : eX E (6 * k) &&& (31 : Int32) = 17
  · exact law_restart h hk hN e17
  by_cases e18 : eX E (6 * k) &&& (31 : Int32) = 18
  · exact law_isDown h hk hN e18
  by_cases e19 : eX E (6 * k) &&& (31 : Int32) = 19
  · exact law_count h hk hN e19
  by_cases e20 : eX E (6 * k) &&& (31 : Int32) = 20
  · exact law_column h hk hN e20
  have cond : ¬ nI (eN E) - (6 : Int32) < nI (6 * k) := by
    rw [show nI (eN E) - (6 : Int32) = nI (eN E - 6) from sub_nI (b := 6) (by omega), nI_ltI (by omega) (by omega)]
    omega
  have ld0 := ldx0 (E := E) (i := 6 * k) (by omega) hN
  refine ⟨S, m, h, fun fu => ?_⟩
  rw [l_L_law_18, if_neg cond, ld0]
  generalize eX E (6 * k) &&& (31 : Int32) = x8 at *
  rw [show ∀ F : Int32 → Option (Int32 × gS), g_lt x8 F = F x8 from fun F => rfl, g_jn]
  dsimp only
  rw [if_neg e0, if_neg e1, if_neg e2, if_neg e3, if_neg e4, if_neg e5, if_neg e6, if_neg e7, if_neg e8, if_neg e9, if_neg e10, if_neg e11, if_neg e12, if_neg e13, if_neg e14, if_neg e15, if_neg e16, if_neg e17, if_neg e18, if_neg e19, if_neg e20]
theorem law_end {n k : Nat} (h : n < 6 * k + 6) (hn : n ≤ 3072) (hk : k ≤ 600) : nI n - (6 : Int32) < nI (6 * k) := by
  by_cases c : 6 ≤ n
  · rw [show nI n - (6 : Int32) = nI (n - 6) from sub_nI (b := 6) (by omega), nI_ltI (by omega) (by omega)]
    omega
  · have h0 : (0 : Int32) ≤ nI (6 * k) := nI_le (a := 0) (by omega) (by omega)
    have hd : n = 0 ∨ n = 1 ∨ n = 2 ∨ n = 3 ∨ n = 4 ∨ n = 5 := by omega
    refine Int32.lt_of_lt_of_le ?_ h0
    rcases hd with rfl | rfl | rfl | rfl | rfl | rfl <;> decide
theorem law_loop {E : gE} (hN : eN E ≤ 3072) : ∀ (d fu k : Nat) (S : gS) (m : mS), eN E < 6 * k + 6 * d + 6 → d < fu → k + d ≤ 600 → Inv S m → ∃ S' m', l_L_law_18 E 0 237 fu S (nI (6 * k)) = some (1, S') ∧ Inv S' m' := by
  intro d
  induction d with
  | zero =>
    intro fu k S m hd hf hk h
    obtain ⟨fu, rfl⟩ : ∃ m, fu = m + 1 := ⟨fu - 1, by omega⟩
    exact ⟨S, m, by rw [l_L_law_18, if_pos (law_end (by omega) hN (by omega))], h⟩
  | succ d ih =>
    intro fu k S m hd hf hk h
    obtain ⟨fu, rfl⟩ : ∃ m, fu = m + 1 := ⟨fu - 1, by omega⟩
    by_cases c : eN E < 6 * k + 6
    · exact ⟨S, m, by rw [l_L_law_18, if_pos (law_end c hN (by omega))], h⟩
    · obtain ⟨S2, m2, i2, p2⟩ := law_step (k := k) h (by omega) hN
      obtain ⟨S3, m3, e3, i3⟩ := ih fu (k + 1) S2 m2 (by omega) (by omega) (by omega) i2
      refine ⟨S3, m3, ?_, i3⟩
      rw [p2 fu, show (6 : Int32) = nI 6 from rfl, nI_add, ← e3]
      rfl
theorem szs_le : szs 265 ≤ 7302250 := by decide +kernel
theorem the_claim : g_Claim := by
  intro E hN
  have q0 : QQ zI nR nR 0 g_S0 0 := ⟨⟨rfl, rfl, fun a => rfl, fun a => rfl, rfl, rfl, rfl, rfl⟩, fun f a v e => (by cases e), fun f a v e => (by cases e), fun p hp => absurd hp (by omega)⟩
  obtain ⟨S1, e1, q1⟩ := q0.new (ci := 8) (by decide) (by decide) (by decide) (fun _ => rfl) (Or.inr rfl)
  obtain ⟨S2, R2, A2, e2, q2, i2, h2, a2⟩ := x8_init q1
  obtain ⟨S3, e3, q3⟩ := q2.new (ci := 9) (by decide) (by decide) (by decide) (fun _ => rfl) (Or.inl (by decide))
  obtain ⟨S4, R4, e4, q4, r4, o4⟩ := x9_init q3
  have i4 : ∀ q ∈ immTab, R4 q.1 q.2.1 = some q.2.2 := fun q hq => (o4 _ _ ((show ∀ q ∈ immTab, q.2.1 < 237 by decide) q hq)).trans (i2 q hq)
  have hI := imm_first q4 i4 a2 r4
  obtain ⟨rc, rr⟩ := first hI q4 ⟨(o4 _ _ (by decide)).trans h2.1, (o4 _ _ (by decide)).trans h2.2.1, (o4 _ _ (by decide)).trans h2.2.2.1, (o4 _ _ (by decide)).trans h2.2.2.2⟩
  obtain ⟨S5, m5, e5, v5⟩ := law_loop hN 512 600 0 S4 mE (by omega) (by omega) (by omega) ⟨rc, rr, mE_ok, fun _ => rfl⟩
  have hI5 : Imm S5 := v5.1.dk.1
  have hn : gnn S5 = (265, szs 265) := hI5.2.2.1
  refine ⟨S5, ?_, ?_, ?_⟩
  · unfold f_L_law g_cN
    rw [e1, e2, Option.bind_some, e3, e4, Option.bind_some]
    exact e5
  · show (gnn S5).1 ≤ 600000
    rw [hn]
    decide
  · show (gnn S5).2 ≤ 7302250
    rw [hn]
    exact szs_le
