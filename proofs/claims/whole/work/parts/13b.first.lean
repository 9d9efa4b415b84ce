/-! ===== both constructors, and the first picture ===== -/
abbrev nR : Nat → Nat → Option Nat := fun _ _ => none
theorem hd_up {R : Nat → Nat → Option Nat} {f0 a0 w n : Nat} (h : ∀ f a v, R f a = some v → a < n) (ha : a0 < n) : ∀ f a v, g_up R f0 a0 (some w) f a = some v → a < n := by
  intro f a v e
  unfold g_up at e
  by_cases c : f = f0 ∧ a = a0
  · rw [c.2]; exact ha
  · rw [if_neg c] at e; exact h f a v e
theorem x8_init {S : gS} (h : QQ zI nR nR 0 S 1) : ∃ S1 R A, f_X8_init S 0 = some S1 ∧ QQ zI R A 40 S1 237 ∧ (∀ q ∈ immTab, R q.1 q.2.1 = some q.2.2) ∧ (R 518 0 = some 213 ∧ R 519 0 = some 216 ∧ R 520 0 = some 219 ∧ R 521 0 = some 228) ∧ ∀ k, k < 6 → A 220 k = some (222 + k) ∧ A 229 k = some (231 + k) := by
  have z : ∀ c : Nat, ∀ f, zI f c = 0 := fun _ _ => rfl
  have z2 : ∀ c : Nat, ∀ f d, c ≤ d → zI f d = 0 := fun _ _ _ _ => rfl
  have z3 : ∀ c : Nat, ∀ f d, c < d → zI f d = 0 := fun _ _ _ _ => rfl
  obtain ⟨S1, e1, q1⟩ := h.new (ci := 0) (by decide) (by decide) (by decide) (z _) (Or.inr rfl)
  obtain ⟨S2, e2, q2⟩ := q1.putR (ci := 8) (a := 0) 0 1 (by decide) (by decide) (Or.inl (by decide))
  obtain ⟨S3, e3, q3⟩ := q2.new (ci := 7) (by decide) (by decide) (by decide) (z _) (Or.inr rfl)
  obtain ⟨S4, e4, q4⟩ := q3.nwa (ci := 13) (n := 40) (x := 40) rfl (by decide) (by decide) (by decide) (by decide) (z _) (Or.inr rfl)
  obtain ⟨S5, e5, q5⟩ := q4.putR (ci := 7) (a := 2) 0 3 (by decide) (by decide) (Or.inl (by decide))
  obtain ⟨S6, e6, q6⟩ := rows_init (R := g_up (g_up nR 512 0 (some 1)) 448 2 (some 3)) (A := nR) rfl (hd_up (hd_up (fun f a v e => by cases e) (by decide)) (by decide)) (fun _ _ => rfl) 40 0 100 S5 (by decide) (by decide) q5
  obtain ⟨S7, e7, q7⟩ := q6.putR (ci := 8) (a := 0) 1 2 (by decide) (by decide) (Or.inl (by decide))
  obtain ⟨S8, e8, q8⟩ := q7.new (ci := 1) (by decide) (by decide) (by decide) (z _) (Or.inl (by decide))
  obtain ⟨S9, e9, q9⟩ := x1_init (a := 204) (c := 205) q8 (by decide) (by decide) (by decide) (by decide) (by decide) (by decide) (by decide) (by decide) (z2 _) (by decide) (Or.inr (by decide)) (by decide)
  obtain ⟨S10, e10, q10⟩ := q9.putR (ci := 8) (a := 0) 2 204 (by decide) (by decide) (Or.inl (by decide))
  obtain ⟨S11, e11, q11⟩ := q10.new (ci := 2) (by decide) (by decide) (by decide) (z _) (Or.inl (by decide))
  obtain ⟨S12, e12, q12⟩ := x2_init (a := 208) (c := 209) q11 (by decide) (by decide) (by decide) (by decide) (z _) (Or.inl (by decide)) (Or.inr (by decide))
  obtain ⟨S13, e13, q13⟩ := q12.putR (ci := 8) (a := 0) 3 208 (by decide) (by decide) (Or.inl (by decide))
  obtain ⟨S14, e14, q14⟩ := q13.new (ci := 5) (by decide) (by decide) (by decide) (z _) (Or.inl (by decide))
  obtain ⟨S15, e15, q15⟩ := x5_init (a := 210) (c := 211) q14 (by decide) (by decide) (by decide) (by decide) (by decide) (by decide) (z2 _) (by decide) (Or.inr (by decide))
  obtain ⟨S16, e16, q16⟩ := q15.putR (ci := 8) (a := 0) 4 210 (by decide) (by decide) (Or.inl (by decide))
  obtain ⟨S17, e17, q17⟩ := q16.new (ci := 5) (by decide) (by decide) (by decide) (z _) (Or.inl (by decide))
  obtain ⟨S18, e18, q18⟩ := x5_init (a := 213) (c := 214) q17 (by decide) (by decide) (by decide) (by decide) (by decide) (by decide) (z2 _) (by decide) (Or.inr (by decide))
  obtain ⟨S19, e19, q19⟩ := q18.putR (ci := 8) (a := 0) 6 213 (by decide) (by decide) (Or.inl (by decide))
  obtain ⟨S20, e20, q20⟩ := q19.new (ci := 5) (by decide) (by decide) (by decide) (z _) (Or.inl (by decide))
  obtain ⟨S21, e21, q21⟩ := x5_init (a := 216) (c := 217) q20 (by decide) (by decide) (by decide) (by decide) (by decide) (by decide) (z2 _) (by decide) (Or.inr (by decide))
  obtain ⟨S22, e22, q22⟩ := q21.putR (ci := 8) (a := 0) 7 216 (by decide) (by decide) (Or.inl (by decide))
  obtain ⟨S23, e23, q23⟩ := q22.new (ci := 3) (by decide) (by decide) (by decide) (z _) (Or.inl (by decide))
  obtain ⟨S24, A24, e24, q24, u24, v24⟩ := x3_init (a := 219) q23 (by decide) (by decide) (by decide) (by decide) (by decide) (by decide) (z3 _) (by decide) (by decide)
  obtain ⟨S25, e25, q25⟩ := q24.putR (ci := 8) (a := 0) 8 219 (by decide) (by decide) (Or.inl (by decide))
  obtain ⟨S26, e26, q26⟩ := q25.new (ci := 3) (by decide) (by decide) (by decide) (z _) (Or.inl (by decide))
  obtain ⟨S27, A27, e27, q27, u27, v27⟩ := x3_init (a := 228) q26 (by decide) (by decide) (by decide) (by decide) (by decide) (by decide) (z3 _) (by decide) (by decide)
  obtain ⟨S28, e28, q28⟩ := q27.putR (ci := 8) (a := 0) 9 228 (by decide) (by decide) (Or.inl (by decide))
  refine ⟨S28, _, _, ?_, q28, ?_, ⟨?_, ?_, ?_, ?_⟩, fun k hk => ⟨?_, ?_⟩⟩
  · unfold f_X8_init g_cN f_X0_init f_X7_init
    rw [e1, Option.bind_some, e2, e3, e4, e5, show (0 : Int32) = nI 0 from rfl, e6, Option.bind_some, e7, e8, e9, Option.bind_some, e10, e11, e12, Option.bind_some, e13, e14, e15, Option.bind_some, e16, e17, e18, Option.bind_some, e19, e20, e21, Option.bind_some, e22, e23, e24, Option.bind_some, e25, e26, e27, Option.bind_some, e28]
  · decide
  · rfl
  · rfl
  · rfl
  · rfl
  · rw [v27 220 k (by decide)]; exact u24 k hk
  · exact u27 k hk
abbrev pI1 : Nat → Nat → Int32 := g_up zI 603 237 (-1)
theorem x9_init {S : gS} {R A : Nat → Nat → Option Nat} (h : QQ zI R A 40 S 238) : ∃ S1 R1, f_X9_init S 237 = some S1 ∧ QQ pI1 R1 A 40 S1 265 ∧ (∀ q ∈ refTab, R1 q.1 237 = some q.2.1) ∧ ∀ f a, a < 237 → R1 f a = R f a := by
  have z : ∀ c : Nat, ∀ f, zI f c = 0 := fun _ _ => rfl
  have z2 : ∀ c : Nat, c ≠ 237 → ∀ f, pI1 f c = 0 := fun c hc f => if_neg (fun q => hc q.2)
  have q0 := h
  obtain ⟨S1, e1, q1⟩ := q0.nwa (ci := 11) (n := 656) (x := 656) rfl (by decide) (by decide) (by decide) (by decide) (z _) (Or.inl (by decide))
  obtain ⟨S2, e2, q2⟩ := q1.putR (ci := 9) (a := 237) 0 238 (by decide) (by decide) (Or.inr (by decide))
  obtain ⟨S3, e3, q3⟩ := q2.nwa (ci := 10) (n := 656) (x := 656) rfl (by decide) (by decide) (by decide) (by decide) (z _) (Or.inl (by decide))
  obtain ⟨S4, e4, q4⟩ := q3.putR (ci := 9) (a := 237) 1 239 (by decide) (by decide) (Or.inr (by decide))
  obtain ⟨S5, e5, q5⟩ := q4.nwa (ci := 10) (n := 15744) (x := 15744) rfl (by decide) (by decide) (by decide) (by decide) (z _) (Or.inl (by decide))
  obtain ⟨S6, e6, q6⟩ := q5.putR (ci := 9) (a := 237) 2 240 (by decide) (by decide) (Or.inr (by decide))
  obtain ⟨S7, e7, q7⟩ := q6.nwa (ci := 10) (n := 24) (x := 24) rfl (by decide) (by decide) (by decide) (by decide) (z _) (Or.inl (by decide))
  obtain ⟨S8, e8, q8⟩ := q7.putR (ci := 9) (a := 237) 3 241 (by decide) (by decide) (Or.inr (by decide))
  obtain ⟨S9, e9, q9⟩ := q8.nwa (ci := 10) (n := 40) (x := 40) rfl (by decide) (by decide) (by decide) (by decide) (z _) (Or.inl (by decide))
  obtain ⟨S10, e10, q10⟩ := q9.putR (ci := 9) (a := 237) 4 242 (by decide) (by decide) (Or.inr (by decide))
  obtain ⟨S11, e11, q11⟩ := q10.nwa (ci := 10) (n := 40) (x := 40) rfl (by decide) (by decide) (by decide) (by decide) (z _) (Or.inl (by decide))
  obtain ⟨S12, e12, q12⟩ := q11.putR (ci := 9) (a := 237) 5 243 (by decide) (by decide) (Or.inr (by decide))
  obtain ⟨S13, e13, q13⟩ := q12.nwa (ci := 10) (n := 40) (x := 40) rfl (by decide) (by decide) (by decide) (by decide) (z _) (Or.inl (by decide))
  obtain ⟨S14, e14, q14⟩ := q13.putR (ci := 9) (a := 237) 7 244 (by decide) (by decide) (Or.inr (by decide))
  obtain ⟨S15, e15, q15⟩ := q14.nwa (ci := 12) (n := 40) (x := 40) rfl (by decide) (by decide) (by decide) (by decide) (z _) (Or.inl (by decide))
  obtain ⟨S16, e16, q16⟩ := q15.putR (ci := 9) (a := 237) 8 245 (by decide) (by decide) (Or.inr (by decide))
  obtain ⟨S17, e17, q17⟩ := q16.nwa (ci := 12) (n := 40) (x := 40) rfl (by decide) (by decide) (by decide) (by decide) (z _) (Or.inl (by decide))
  obtain ⟨S18, e18, q18⟩ := q17.putR (ci := 9) (a := 237) 9 246 (by decide) (by decide) (Or.inr (by decide))
  obtain ⟨S19, e19, q19⟩ := q18.nwa (ci := 12) (n := 40) (x := 40) rfl (by decide) (by decide) (by decide) (by decide) (z _) (Or.inl (by decide))
  obtain ⟨S20, e20, q20⟩ := q19.putR (ci := 9) (a := 237) 10 247 (by decide) (by decide) (Or.inr (by decide))
  obtain ⟨S21, e21, q21⟩ := q20.nwa (ci := 10) (n := 24) (x := 24) rfl (by decide) (by decide) (by decide) (by decide) (z _) (Or.inl (by decide))
  obtain ⟨S22, e22, q22⟩ := q21.putR (ci := 9) (a := 237) 11 248 (by decide) (by decide) (Or.inr (by decide))
  obtain ⟨S23, e23, q23⟩ := q22.nwa (ci := 10) (n := 24) (x := 24) rfl (by decide) (by decide) (by decide) (by decide) (z _) (Or.inl (by decide))
  obtain ⟨S24, e24, q24⟩ := q23.putR (ci := 9) (a := 237) 12 249 (by decide) (by decide) (Or.inr (by decide))
  obtain ⟨S25, e25, q25⟩ := q24.nwa (ci := 10) (n := 3) (x := 3) rfl (by decide) (by decide) (by decide) (by decide) (z _) (Or.inl (by decide))
  obtain ⟨S26, e26, q26⟩ := q25.putR (ci := 9) (a := 237) 13 250 (by decide) (by decide) (Or.inr (by decide))
  obtain ⟨S27, e27, q27⟩ := q26.nwa (ci := 10) (n := 12) (x := 12) rfl (by decide) (by decide) (by decide) (by decide) (z _) (Or.inl (by decide))
  obtain ⟨S28, e28, q28⟩ := q27.putR (ci := 9) (a := 237) 16 251 (by decide) (by decide) (Or.inr (by decide))
  obtain ⟨S29, e29, q29⟩ := q28.nwa (ci := 10) (n := 12) (x := 12) rfl (by decide) (by decide) (by decide) (by decide) (z _) (Or.inl (by decide))
  obtain ⟨S30, e30, q30⟩ := q29.putR (ci := 9) (a := 237) 17 252 (by decide) (by decide) (Or.inr (by decide))
  obtain ⟨S31, e31, q31⟩ := q30.nwa (ci := 10) (n := 12) (x := 12) rfl (by decide) (by decide) (by decide) (by decide) (z _) (Or.inl (by decide))
  obtain ⟨S32, e32, q32⟩ := q31.putR (ci := 9) (a := 237) 18 253 (by decide) (by decide) (Or.inr (by decide))
  obtain ⟨S33, e33, q33⟩ := q32.nwa (ci := 10) (n := 12) (x := 12) rfl (by decide) (by decide) (by decide) (by decide) (z _) (Or.inl (by decide))
  obtain ⟨S34, e34, q34⟩ := q33.putR (ci := 9) (a := 237) 19 254 (by decide) (by decide) (Or.inr (by decide))
  obtain ⟨S35, e35, q35⟩ := q34.nwa (ci := 10) (n := 12) (x := 12) rfl (by decide) (by decide) (by decide) (by decide) (z _) (Or.inl (by decide))
  obtain ⟨S36, e36, q36⟩ := q35.putR (ci := 9) (a := 237) 20 255 (by decide) (by decide) (Or.inr (by decide))
  obtain ⟨S37, e37, q37⟩ := q36.nwa (ci := 10) (n := 8) (x := 8) rfl (by decide) (by decide) (by decide) (by decide) (z _) (Or.inl (by decide))
  obtain ⟨S38, e38, q38⟩ := q37.putR (ci := 9) (a := 237) 23 256 (by decide) (by decide) (Or.inr (by decide))
  obtain ⟨S39, e39, q39⟩ := q38.nwa (ci := 10) (n := 8) (x := 8) rfl (by decide) (by decide) (by decide) (by decide) (z _) (Or.inl (by decide))
  obtain ⟨S40, e40, q40⟩ := q39.putR (ci := 9) (a := 237) 24 257 (by decide) (by decide) (Or.inr (by decide))
  obtain ⟨S41, e41, q41⟩ := q40.nwa (ci := 10) (n := 8) (x := 8) rfl (by decide) (by decide) (by decide) (by decide) (z _) (Or.inl (by decide))
  obtain ⟨S42, e42, q42⟩ := q41.putR (ci := 9) (a := 237) 25 258 (by decide) (by decide) (Or.inr (by decide))
  obtain ⟨S43, e43, q43⟩ := q42.nwa (ci := 10) (n := 192) (x := 192) rfl (by decide) (by decide) (by decide) (by decide) (z _) (Or.inl (by decide))
  obtain ⟨S44, e44, q44⟩ := q43.putR (ci := 9) (a := 237) 26 259 (by decide) (by decide) (Or.inr (by decide))
  obtain ⟨S45, e45, q45⟩ := q44.putI (ci := 9) (a := 237) 27 (-1) (by decide) (by decide)
  obtain ⟨S46, e46, q46⟩ := q45.nwa (ci := 10) (n := 8) (x := 8) rfl (by decide) (by decide) (by decide) (by decide) (z2 _ (by decide)) (Or.inl (by decide))
  obtain ⟨S47, e47, q47⟩ := q46.putR (ci := 9) (a := 237) 28 260 (by decide) (by decide) (Or.inr (by decide))
  obtain ⟨S48, e48, q48⟩ := q47.nwa (ci := 10) (n := 8) (x := 8) rfl (by decide) (by decide) (by decide) (by decide) (z2 _ (by decide)) (Or.inl (by decide))
  obtain ⟨S49, e49, q49⟩ := q48.putR (ci := 9) (a := 237) 34 261 (by decide) (by decide) (Or.inr (by decide))
  obtain ⟨S50, e50, q50⟩ := q49.nwa (ci := 12) (n := 8) (x := 8) rfl (by decide) (by decide) (by decide) (by decide) (z2 _ (by decide)) (Or.inl (by decide))
  obtain ⟨S51, e51, q51⟩ := q50.putR (ci := 9) (a := 237) 35 262 (by decide) (by decide) (Or.inr (by decide))
  obtain ⟨S52, e52, q52⟩ := q51.nwa (ci := 10) (n := 48) (x := 48) rfl (by decide) (by decide) (by decide) (by decide) (z2 _ (by decide)) (Or.inl (by decide))
  obtain ⟨S53, e53, q53⟩ := q52.putR (ci := 9) (a := 237) 36 263 (by decide) (by decide) (Or.inr (by decide))
  obtain ⟨S54, e54, q54⟩ := q53.nwa (ci := 10) (n := 8) (x := 8) rfl (by decide) (by decide) (by decide) (by decide) (z2 _ (by decide)) (Or.inl (by decide))
  obtain ⟨S55, e55, q55⟩ := q54.putR (ci := 9) (a := 237) 37 264 (by decide) (by decide) (Or.inr (by decide))
  refine ⟨S55, _, ?_, q55, ?_, fun f a ha => ?_⟩
  · unfold f_X9_init
    rw [e1, e2, e3, e4, e5, e6, e7, e8, e9, e10, e11, e12, e13, e14, e15, e16, e17, e18, e19, e20, e21, e22, e23, e24, e25, e26, e27, e28, e29, e30, e31, e32, e33, e34, e35, e36, e37, e38, e39, e40, e41, e42, e43, e44, e45, e46, e47, e48, e49, e50, e51, e52, e53, e54, e55]
  · intro q hq
    unfold refTab at hq
    simp only [List.mem_cons, List.not_mem_nil, or_false] at hq
    rcases hq with rfl | rfl | rfl | rfl | rfl | rfl | rfl | rfl | rfl | rfl | rfl | rfl | rfl | rfl | rfl | rfl | rfl | rfl | rfl | rfl | rfl | rfl | rfl | rfl | rfl | rfl | rfl <;> rfl
  · unfold g_up
    rw [if_neg (by omega), if_neg (by omega), if_neg (by omega), if_neg (by omega), if_neg (by omega), if_neg (by omega), if_neg (by omega), if_neg (by omega), if_neg (by omega), if_neg (by omega), if_neg (by omega), if_neg (by omega), if_neg (by omega), if_neg (by omega), if_neg (by omega), if_neg (by omega), if_neg (by omega), if_neg (by omega), if_neg (by omega), if_neg (by omega), if_neg (by omega), if_neg (by omega), if_neg (by omega), if_neg (by omega), if_neg (by omega), if_neg (by omega), if_neg (by omega)]
theorem K0_hi {a : Nat} (h : ¬ a < 265) : K0 a = 0 := by
  unfold K0
  rw [if_neg (by omega), if_neg (by omega), List.getD_eq_getElem?_getD, List.getElem?_eq_none (by show 61 ≤ a - 204; omega)]
  rfl
theorem L0_hi {a : Nat} (h : ¬ a < 265) : L0 a = 0 := by
  unfold L0
  rw [if_neg (by omega), if_neg (by omega), List.getD_eq_getElem?_getD, List.getElem?_eq_none (by show 61 ≤ a - 204; omega)]
  rfl
theorem imm_first {S : gS} {φ : Nat → Nat → Int32} {R A : Nat → Nat → Option Nat} (h : QQ φ R A 40 S 265) (h1 : ∀ q ∈ immTab, R q.1 q.2.1 = some q.2.2) (h2 : ∀ k, k < 6 → A 220 k = some (222 + k) ∧ A 229 k = some (231 + k)) (h3 : ∀ q ∈ refTab, R q.1 237 = some q.2.1) : Imm S := by
  obtain ⟨⟨b1, b2, b3, b4, -⟩, b5, b6, b7⟩ := h
  refine ⟨?_, ?_, ?_, fun q hq => (b5 _ _ _ (h1 q hq)).2, fun p hp => ⟨(b7 p hp).2.2.2.1, (b7 p hp).2.2.2.2.1⟩, fun k hk => ⟨(b6 _ _ _ (h2 k hk).1).2, (b6 _ _ _ (h2 k hk).2).2⟩, fun q hq => (b5 _ _ _ (h3 q hq)).2⟩
  · funext a
    rw [b3 a]
    by_cases c : a < 265
    · rw [if_pos c]
    · rw [if_neg c, K0_hi c]
  · funext a
    rw [b4 a]
    by_cases c : a < 265
    · rw [if_pos c]
    · rw [if_neg c, L0_hi c]
  · unfold gnn
    rw [b1, b2]
def mE : mS := ((0, 0, 0, 0, 0), (0, false), [], [], [], [], (fun _ => (0, [])), none, [])
theorem mE_ok : mOk mE := by
  refine ⟨⟨Or.inl rfl, Or.inl rfl, 0, by decide, rfl⟩, ⟨by decide, fun st h => by cases h⟩, ⟨by decide, fun c h => (by cases h), List.Pairwise.nil⟩, fun h => (by cases h), by decide, fun r h => (by cases h), List.Pairwise.nil, fun ts vs h => by cases h⟩
theorem first {S : gS} {R A : Nat → Nat → Option Nat} (hI : Imm S) (h : QQ pI1 R A 40 S 265) (hh : R 518 0 = some 213 ∧ R 519 0 = some 216 ∧ R 520 0 = some 219 ∧ R 521 0 = some 228) : RC S mE ∧ RR S mE := by
  obtain ⟨⟨b1, b2, b3, b4, fI, fL, aI, aL⟩, b5, b6, b7⟩ := h
  have i0 : ∀ f a, a ≠ 237 → gfI S f a = 0 := fun f a ha => by rw [fI]; exact if_neg (fun q => ha q.2)
  have i1 : ∀ f, f ≠ 603 → gfI S f 237 = 0 := fun f hf => by rw [fI]; exact if_neg (fun q => hf q.1)
  refine ⟨⟨hI, 213, 216, 219, 228, ⟨(b5 _ _ _ hh.1).2, (b5 _ _ _ hh.2.1).2, (b5 _ _ _ hh.2.2.1).2, (b5 _ _ _ hh.2.2.2).2, i0 _ _ (by decide), i0 _ _ (by decide), Or.inl ⟨rfl, rfl⟩, Or.inl ⟨rfl, rfl⟩⟩, ⟨i0 _ _ (by decide), i0 _ _ (by decide), i0 _ _ (by decide), i0 _ _ (by decide), i0 _ _ (by decide)⟩, ⟨i0 _ _ (by decide), fun k st hk => (by cases hk)⟩, ⟨i0 _ _ (by decide), fun k st hk => (by cases hk)⟩, fun i hi => ⟨?_, ?_⟩, i0 _ _ (by decide), ⟨i0 _ _ (by decide), fun j => j, ⟨fun i hi => hi, fun i j _ _ hij => hij, fun i hi => (b7 i hi).2.2.2.2.2⟩, fun p hp => ⟨5 + 5 * p, 7 + 5 * p, (b7 p hp).2.1, (b7 p hp).2.2.1, Or.inl ⟨rfl, rfl⟩⟩, fun i r hi => (by cases hi)⟩, fun q => (by cases q)⟩, ⟨hI, ⟨i1 _ (by decide), i1 _ (by decide), i1 _ (by decide), i1 _ (by decide), i1 _ (by decide)⟩, i1 _ (by decide), i1 _ (by decide), ⟨i1 _ (by decide), fun k st hk => (by cases hk)⟩, ⟨?_, fun k st hk => (by cases hk)⟩, fun i hi => ⟨?_, ?_, fun j hj => (by cases hj)⟩, ?_, ⟨i1 _ (by decide), fun i j hi => (by cases hi), ⟨fun s _ => Or.inl ?_, fun i => ⟨Or.inl ?_, Or.inl ?_⟩⟩, fun i r hi => (by cases hi)⟩, fun q => (by cases q)⟩⟩
  · rw [aL]
  · rw [aL]
    refine ⟨rfl, Nat.zero_le _, fun c hc => (by cases hc), fun j hj => ?_⟩
    show lt8 0 (j % 8) = _
    rw [lt8_0]
    rfl
  · rw [aI]; rfl
  · rw [aI]
    show mJoin 0 0 = 0
    decide
  · rw [aI]; rfl
  · show gfI S 603 237 = -1
    rw [fI]
    rfl
  · rw [aI]
  · rw [aI]
  · rw [aI]
