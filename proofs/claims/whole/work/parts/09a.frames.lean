/-! ===== what a call of the reference changes: arrays of A, int fields of F ===== -/
def RE (A F : List Nat) (S S1 : gS) : Prop := gfL S1 = gfL S ∧ gfR S1 = gfR S ∧ gaR S1 = gaR S ∧ gK S1 = gK S ∧ gln S1 = gln S ∧ gnn S1 = gnn S ∧ (∀ f a, ¬ (a = 237 ∧ f ∈ F) → gfI S1 f a = gfI S f a) ∧ (∀ a, a ∉ A → gaI S1 a = gaI S a) ∧ ∀ a, a ∉ A → gaL S1 a = gaL S a
theorem RE.refl {A F : List Nat} {S : gS} : RE A F S S := ⟨rfl, rfl, rfl, rfl, rfl, rfl, fun _ _ _ => rfl, fun _ _ => rfl, fun _ _ => rfl⟩
theorem RE.trans {A F : List Nat} {S S1 S2 : gS} (h : RE A F S S1) (g : RE A F S1 S2) : RE A F S S2 := by
  obtain ⟨a1, a2, a3, a4, a5, a6, a7, a8, a9⟩ := h
  obtain ⟨b1, b2, b3, b4, b5, b6, b7, b8, b9⟩ := g
  exact ⟨b1.trans a1, b2.trans a2, b3.trans a3, b4.trans a4, b5.trans a5, b6.trans a6, fun f a h => (b7 f a h).trans (a7 f a h), fun a h => (b8 a h).trans (a8 a h), fun a h => (b9 a h).trans (a9 a h)⟩
theorem RE.mono {A F A2 F2 : List Nat} {S S1 : gS} (h : RE A F S S1) (hA : ∀ a ∈ A, a ∈ A2) (hF : ∀ f ∈ F, f ∈ F2) : RE A2 F2 S S1 := by
  obtain ⟨a1, a2, a3, a4, a5, a6, a7, a8, a9⟩ := h
  exact ⟨a1, a2, a3, a4, a5, a6, fun f a h => a7 f a (fun q => h ⟨q.1, hF f q.2⟩), fun a h => a8 a (fun q => h (hA a q)), fun a h => a9 a (fun q => h (hA a q))⟩
theorem RE.pI {A F : List Nat} {S : gS} {f : Nat} {v : Int32} (h : f ∈ F) : RE A F S (g_pI S f 237 v) := by
  refine ⟨rfl, rfl, rfl, rfl, rfl, rfl, fun g a q => ?_, fun _ _ => rfl, fun _ _ => rfl⟩
  rw [q_pI_fI]
  unfold g_up
  rw [if_neg]
  intro z
  exact q ⟨z.2, by rw [z.1]; exact h⟩
theorem RE.rI {A F : List Nat} {S : gS} {b : Nat} {r : Nat → Int32} (h : b ∈ A) : RE A F S (g_rI S b r) := by
  refine ⟨rfl, rfl, rfl, rfl, rfl, rfl, fun _ _ _ => rfl, fun a q => ?_, fun _ _ => rfl⟩
  rw [q_rI_aI, g_row_n]
  intro z
  exact q (by rw [z]; exact h)
theorem RE.rL {A F : List Nat} {S : gS} {b : Nat} {r : Nat → Int64} (h : b ∈ A) : RE A F S (g_rL S b r) := by
  refine ⟨rfl, rfl, rfl, rfl, rfl, rfl, fun _ _ _ => rfl, fun _ _ => rfl, fun a q => ?_⟩
  rw [q_rL_aL, g_row_n]
  intro z
  exact q (by rw [z]; exact h)
theorem RE.q4 {A F : List Nat} {S : gS} {nb : Nat → Int64} {ln ch dg : Nat → Int32} (h1 : 238 ∈ A) (h2 : 239 ∈ A) (h3 : 240 ∈ A) (h4 : 241 ∈ A) : RE A F S (Q4 S nb ln ch dg) :=
  (((RE.rI h4).trans (RE.rI h3)).trans (RE.rI h2)).trans (RE.rL h1)
theorem RE.rf {lo hi : Nat} {A F : List Nat} {S S1 : gS} (h : RF lo hi S S1) (hF : ∀ f, lo ≤ f → f < hi → f ∈ F) : RE A F S S1 := by
  obtain ⟨a1, a2, a3, a4, a5, a6, a7, a8, a9⟩ := h
  exact ⟨a1, a2, a5, a6, a7, a8, fun f a q => a9 f a (fun z => q ⟨z.1, hF f z.2.1 z.2.2⟩), fun _ _ => by rw [a3], fun _ _ => by rw [a4]⟩
theorem RE.imm {A F : List Nat} {S S1 : gS} (h : RE A F S S1) (hI : Imm S) : Imm S1 := hI.of h.2.2.2.1 h.2.2.2.2.1 h.2.2.2.2.2.1 h.2.1 h.2.2.1
theorem RE.fr {A F : List Nat} {S S1 : gS} (h : RE A F S S1) (hA : ∀ a ∈ A, 237 ≤ a ∧ a < 265) : Fr 237 265 S S1 := by
  obtain ⟨a1, a2, a3, a4, a5, a6, a7, a8, a9⟩ := h
  intro a ha
  have hn : a ∉ A := fun q => by have := hA a q; omega
  exact ⟨fun f => a7 f a (by omega), fun f => by rw [a1], fun f => by rw [a2], a8 a hn, a9 a hn, by rw [a3]⟩
theorem RE.fI {A F : List Nat} {S S1 : gS} (h : RE A F S S1) {f : Nat} (hf : f ∉ F) : gfI S1 f 237 = gfI S f 237 := h.2.2.2.2.2.2.1 f 237 (fun q => hf q.2)
theorem RE.aI {A F : List Nat} {S S1 : gS} (h : RE A F S S1) {a : Nat} (ha : a ∉ A) : gaI S1 a = gaI S a := h.2.2.2.2.2.2.2.1 a ha
theorem RE.aL {A F : List Nat} {S S1 : gS} (h : RE A F S S1) {a : Nat} (ha : a ∉ A) : gaL S1 a = gaL S a := h.2.2.2.2.2.2.2.2 a ha
/-- a slot of values is as it was -/
def SlotEq (S S1 : gS) (k : Nat) : Prop := gaL S1 238 k = gaL S 238 k ∧ gaI S1 239 k = gaI S 239 k ∧ ∀ j, j < 24 → gaI S1 240 (24 * k + j) = gaI S 240 (24 * k + j)
theorem SlotEq.refl {S : gS} {k : Nat} : SlotEq S S k := ⟨rfl, rfl, fun _ _ => rfl⟩
theorem SlotEq.trans {S S1 S2 : gS} {k : Nat} (h : SlotEq S S1 k) (g : SlotEq S1 S2 k) : SlotEq S S2 k := ⟨g.1.trans h.1, g.2.1.trans h.2.1, fun j hj => (g.2.2 j hj).trans (h.2.2 j hj)⟩
theorem RE.slot {A F : List Nat} {S S1 : gS} (h : RE A F S S1) (h1 : 238 ∉ A) (h2 : 239 ∉ A) (h3 : 240 ∉ A) {k : Nat} : SlotEq S S1 k := ⟨by rw [h.aL h1], by rw [h.aI h2], fun j _ => by rw [h.aI h3]⟩
theorem OnlyS.slot {S S1 : gS} {s : Nat} (h : OnlyS s (gaL S 238) (gaL S1 238) (gaI S 239) (gaI S1 239) (gaI S 240) (gaI S1 240)) {k : Nat} (hk : k ≠ s) : SlotEq S S1 k := ⟨(h.1 k hk).1, (h.1 k hk).2, fun j hj => h.2 _ (by omega)⟩
theorem RTx.slot {S S1 : gS} {k : Nat} {T : List Nat} (h : RTx (gaI S 239) (gaI S 240) k T) (e : SlotEq S S1 k) : RTx (gaI S1 239) (gaI S1 240) k T := by
  obtain ⟨h1, h2, h3, h4⟩ := h
  exact ⟨e.2.1.trans h1, h2, h3, fun j hj => (e.2.2 j (by omega)).trans (h4 j hj)⟩
theorem RVv.slot {S S1 : gS} {t : Int32} {k : Nat} {x : mV} (h : RVv t (gaL S 238) (gaI S 239) (gaI S 240) k x) (e : SlotEq S S1 k) : RVv t (gaL S1 238) (gaI S1 239) (gaI S1 240) k x := by
  unfold RVv at h ⊢
  by_cases ht : t = 4
  · rw [if_pos ht] at h ⊢; exact h.slot e
  · rw [if_neg ht] at h ⊢; exact e.1.trans h
theorem lt_of_some {α : Type} {l : List α} {i : Nat} {x : α} (h : l[i]? = some x) : i < l.length := (List.getElem?_eq_some_iff.mp h).1
theorem FormR.slots {S S1 : gS} {s : Nat} {ts : List Int32} {vs : List mV} (h : FormR S s ts vs) (e : ∀ k, s ≤ k → k < s + ts.length → SlotEq S S1 k) : FormR S1 s ts vs :=
  ⟨h.1, fun i t x ht hx => (h.2 i t x ht hx).slot (e _ (by omega) (by have := lt_of_some ht; omega))⟩
theorem DiskR.e {A F : List Nat} {S S1 : gS} {d : mDk} (h : DiskR S d) (e : RE A F S S1) (hF : ∀ f ∈ [605, 606, 607, 608, 609], f ∉ F) : DiskR S1 d := by
  unfold DiskR
  rw [e.fI (hF 608 (by decide)), e.fI (hF 609 (by decide)), e.fI (hF 607 (by decide)), e.fI (hF 605 (by decide)), e.fI (hF 606 (by decide))]
  exact h
theorem PlanR.e {A F : List Nat} {S S1 : gS} {o : Nat} {l : List mStep} (h : PlanR S o l) (e : RE A F S S1) (hA : ∀ a ∈ [251, 252, 253, 254, 255], a ∉ A) : PlanR S1 o l := by
  unfold PlanR
  rw [e.aI (hA 251 (by decide)), e.aI (hA 252 (by decide)), e.aI (hA 253 (by decide)), e.aI (hA 254 (by decide)), e.aI (hA 255 (by decide))]
  exact h
theorem SchR.e {A F : List Nat} {S S1 : gS} {j : Nat} {l : List mCol} (h : SchR S j l) (e : RE A F S S1) (hA : ∀ a ∈ [248, 249, 250], a ∉ A) : SchR S1 j l := by
  unfold SchR
  rw [e.aI (hA 248 (by decide)), e.aI (hA 249 (by decide)), e.aI (hA 250 (by decide))]
  exact h
theorem DraftR.e {A F : List Nat} {S S1 : gS} {dr : mDr} (h : DraftR S dr) (e : RE A F S S1) (hA : ∀ a ∈ [256, 257, 258, 259], a ∉ A) : DraftR S1 dr := by
  unfold DraftR
  rw [e.aI (hA 256 (by decide)), e.aI (hA 257 (by decide)), e.aI (hA 258 (by decide)), e.aI (hA 259 (by decide))]
  exact h
theorem SeenR.e {A F : List Nat} {S S1 : gS} {sn : mSn} (h : SeenR S sn) (e : RE A F S S1) (hF : 603 ∉ F) (hA : 260 ∉ A) (hl : ∀ ts vs, sn = some (ts, vs) → ts.length ≤ 8 ∧ (∀ t ∈ ts, isTy t)) (w : ∀ k, 640 ≤ k → k < 648 → SlotEq S S1 k) : SeenR S1 sn := by
  cases sn with
  | none => exact (e.fI hF).trans h
  | some q =>
    obtain ⟨ts, vs⟩ := q
    refine ⟨(e.fI hF).trans h.1, by rw [e.aI hA]; exact h.2.1, h.2.2.slots fun k a b => w k a ?_⟩
    have := (hl ts vs rfl).1
    omega
theorem RowR.e {A F : List Nat} {S S1 : gS} {i : Nat} {r : mRow} {sc nx : List mCol} {run : Bool} (h : RowR S i r sc nx run) (e : RE A F S S1) (hA : ∀ a ∈ [242, 243, 244, 245, 246, 247], a ∉ A) (hs : sc.length ≤ 8) (hn : run = true → nx.length ≤ 8) (w : ∀ k, k < 640 → SlotEq S S1 k) : RowR S1 i r sc nx run := by
  obtain ⟨r1, ⟨s, r2, r3, r4, r5, r6⟩, r7⟩ := h
  unfold RowR
  rw [e.aI (hA 242 (by decide)), e.aI (hA 243 (by decide)), e.aI (hA 244 (by decide)), e.aI (hA 245 (by decide)), e.aI (hA 246 (by decide)), e.aI (hA 247 (by decide))]
  refine ⟨r1, ⟨s, r2, r3, r4, r5.slots fun k a b => w k ?_, fun hr => (r6 hr).slots fun k a b => w k ?_⟩, r7⟩
  · unfold tys at b; rw [List.length_map] at b; omega
  · have := hn hr; unfold tys at b; rw [List.length_map] at b; omega
theorem TableR.e {A F : List Nat} {S S1 : gS} {tb : List mRow} {sc nx : List mCol} {run : Bool} (h : TableR S tb sc nx run) (e : RE A F S S1) (hF : 582 ∉ F) (hA : ∀ a ∈ [242, 243, 244, 245, 246, 247], a ∉ A) (hs : sc.length ≤ 8) (hn : run = true → nx.length ≤ 8) (w : ∀ k, k < 640 → SlotEq S S1 k) : TableR S1 tb sc nx run := by
  obtain ⟨h1, h2, h3, h4⟩ := h
  refine ⟨(e.fI hF).trans h1, ?_, ?_, fun i r hi => (h4 i r hi).e e hA hs hn w⟩
  · rw [e.aI (hA 243 (by decide))]; exact h2
  · rw [e.aI (hA 247 (by decide)), e.aI (hA 243 (by decide)), e.aI (hA 245 (by decide)), e.aI (hA 246 (by decide))]; exact h3
theorem if_or2 {α : Type} {a b : Prop} [Decidable a] [Decidable b] {x y : α} : (if a then x else if b then x else y) = if a ∨ b then x else y := by
  by_cases ha : a
  · rw [if_pos ha, if_pos (Or.inl ha)]
  · rw [if_neg ha]
    by_cases hb : b
    · rw [if_pos hb, if_pos (Or.inr hb)]
    · rw [if_neg hb, if_neg (fun q => q.elim ha hb)]
theorem isName_eq (S : gS) (v : Int32) : f_X8_isName S v = some (if v < 0 ∨ 63 < v then 0 else 1, S) := by
  unfold f_X8_isName
  simp only [g_jn]
  rw [if_or2]
  split <;> rfl
theorem isType_eq (S : gS) (v : Int32) : f_X8_isType S v = some (if v < 0 ∨ 4 < v then 0 else 1, S) := by
  unfold f_X8_isType
  simp only [g_jn]
  rw [if_or2]
  split <;> rfl
theorem le8_7 {v : Int32} : (8 : Int32) ≤ v ↔ 7 < v := by
  rw [Int32.le_iff_toInt_le, Int32.lt_iff_toInt_lt]
  show (8 : Int) ≤ _ ↔ (7 : Int) < _
  omega
theorem isCell_eq (S : gS) (v : Int32) : f_X8_isCell S v = some (if v < 0 ∨ 7 < v then 0 else 1, S) := by
  unfold f_X8_isCell
  simp only [g_jn]
  rw [if_or2]
  simp only [le8_7]
  split <;> rfl
theorem joined_eq (S : gS) (a b : Int32) : f_X8_joined S a b = some (mJoin a b, S) := rfl
theorem cell_of {v : Int32} (h : ¬ (v < 0 ∨ 7 < v)) : ∃ k, k < 8 ∧ v = nI k := by
  obtain ⟨j, h1, h2⟩ := nI_of (fun q => h (Or.inl q))
  refine ⟨j, ?_, h2⟩
  have h3 : ¬ (7 : Int32) < v := fun q => h (Or.inr q)
  rw [h2, show (7 : Int32) = nI 7 from rfl, nI_ltI (by omega) h1] at h3
  omega
/-! ===== plan ===== -/
def badPlan (w n o : Int32) : Prop := (w < 0 ∨ 3 < w) ∨ (n < 0 ∨ 63 < n) ∨ (w = 2 ∧ (o < 0 ∨ 63 < o)) ∨ ((w = 0 ∨ w = 3) ∧ (o < 0 ∨ 4 < o))
/-- the choice that plan makes -/
def mPlanG {α : Type} (w n o : Int32) (x y : α) : α := if w < 0 ∨ 3 < w then x else if n < 0 ∨ 63 < n then x else if w = 2 then (if o < 0 ∨ 63 < o then x else y) else if w = 0 ∨ w = 3 then (if o < 0 ∨ 4 < o then x else y) else y
def mPlan (m : mS) (w n o a b : Int32) : Int32 × mS := match m with
  | (dk, vr, pl, mg, sc, nx, dr, sn, tb) => mPlanG w n o (-1, m) (if pl.length = 6 then (-4, m) else (nI (pl.length + 1), (dk, vr, pl ++ [(w, n, o, mJoin a b)], mg, sc, nx, dr, sn, tb)))
theorem type_of {v : Int32} (h : ¬ (v < 0 ∨ 4 < v)) : isTy v := by
  obtain ⟨j, h1, h2⟩ := nI_of (fun q => h (Or.inl q))
  have h3 : ¬ (4 : Int32) < v := fun q => h (Or.inr q)
  rw [h2, show (4 : Int32) = nI 4 from rfl, nI_ltI (by omega) h1] at h3
  have : j = 0 ∨ j = 1 ∨ j = 2 ∨ j = 3 ∨ j = 4 := by omega
  unfold isTy
  rcases this with rfl | rfl | rfl | rfl | rfl
  · exact Or.inl h2
  · exact Or.inr (Or.inl h2)
  · exact Or.inr (Or.inr (Or.inl h2))
  · exact Or.inr (Or.inr (Or.inr (Or.inl h2)))
  · exact Or.inr (Or.inr (Or.inr (Or.inr h2)))
theorem what_of {v : Int32} (h : ¬ (v < 0 ∨ 3 < v)) : v = 0 ∨ v = 1 ∨ v = 2 ∨ v = 3 := by
  obtain ⟨j, h1, h2⟩ := nI_of (fun q => h (Or.inl q))
  have h3 : ¬ (3 : Int32) < v := fun q => h (Or.inr q)
  rw [h2, show (3 : Int32) = nI 3 from rfl, nI_ltI (by omega) h1] at h3
  have : j = 0 ∨ j = 1 ∨ j = 2 ∨ j = 3 := by omega
  rcases this with rfl | rfl | rfl | rfl
  · exact Or.inl h2
  · exact Or.inr (Or.inl h2)
  · exact Or.inr (Or.inr (Or.inl h2))
  · exact Or.inr (Or.inr (Or.inr h2))
theorem mPlanG_or {α : Type} {w n o : Int32} {x y : α} {P : α → Prop} (hx : P x) (hy : stOk (w, n, o, 0) → P y) : P (mPlanG w n o x y) := by
  unfold mPlanG
  by_cases a1 : w < 0 ∨ 3 < w
  · rw [if_pos a1]; exact hx
  rw [if_neg a1]
  by_cases a2 : n < 0 ∨ 63 < n
  · rw [if_pos a2]; exact hx
  rw [if_neg a2]
  have hw := what_of a1
  by_cases a3 : w = 2
  · rw [if_pos a3]
    by_cases a4 : o < 0 ∨ 63 < o
    · rw [if_pos a4]; exact hx
    · rw [if_neg a4]
      refine hy ⟨hw, fun q => ?_⟩
      rw [show ((w, n, o, (0 : Int64)) : mStep).1 = w from rfl, a3] at q
      exact absurd q (by decide)
  · rw [if_neg a3]
    by_cases a4 : w = 0 ∨ w = 3
    · rw [if_pos a4]
      by_cases a5 : o < 0 ∨ 4 < o
      · rw [if_pos a5]; exact hx
      · rw [if_neg a5]; exact hy ⟨hw, fun _ => type_of a5⟩
    · rw [if_neg a4]; exact hy ⟨hw, fun q => absurd q a4⟩
theorem append_C {S : gS} {p : Nat} {l : List mStep} {w n o : Int32} {x : Int64} (hm : MigAt S p) (hI : Imm S) (h : PlanC S p l) (hl : l.length < 6) : COv S p (p + 9) (f_X3_append S p w n o x) (fun S1 => PlanC S1 p (l ++ [(w, n, o, x)])) := by
  obtain ⟨m1, m2, m3, m4, m5, m6, m7, m8, m9⟩ := hm
  unfold f_X3_append
  simp only [g_getI, g_getL, g_getR, g_putI, g_putZ, g_putL, g_putR, g_ldI, g_ldL, g_ldR, g_stI, g_stZ, g_stL, g_stR, g_alen, g_ldX, g_cVI, g_cVL, g_cVR, g_cVV, g_cI, g_cL, g_cN, g_lt, g_jn, g_cpI, g_cpL, g_z, Nat.reduceMul, Nat.reduceAdd, Option.bind_some, or_true, true_or, if_true, q_pI_fI, q_pI_fL, q_pI_fR, q_pI_aI, q_pI_aL, q_pI_aR, q_pI_K, q_pI_ln, q_pI_n, q_pI_sl, q_pI_is, q_pI_ck, q_pL_fI, q_pL_fL, q_pL_fR, q_pL_aI, q_pL_aL, q_pL_aR, q_pL_K, q_pL_ln, q_pL_n, q_pL_sl, q_pL_is, q_pL_ck, q_pR_fI, q_pR_fL, q_pR_fR, q_pR_aI, q_pR_aL, q_pR_aR, q_pR_K, q_pR_ln, q_pR_n, q_pR_sl, q_pR_is, q_pR_ck, q_rI_fI, q_rI_fL, q_rI_fR, q_rI_aI, q_rI_aL, q_rI_aR, q_rI_K, q_rI_ln, q_rI_n, q_rI_sl, q_rI_is, q_rI_ck, q_rL_fI, q_rL_fL, q_rL_fR, q_rL_aI, q_rL_aL, q_rL_aR, q_rL_K, q_rL_ln, q_rL_n, q_rL_sl, q_rL_is, q_rL_ck, q_rR_fI, q_rR_fL, q_rR_fR, q_rR_aI, q_rR_aL, q_rR_aR, q_rR_K, q_rR_ln, q_rR_n, q_rR_sl, q_rR_is, q_rR_ck, g_ck_t m1, m2, g_ck_t m4, m5, h.1]
  simp (disch := omega) only [g_ix_t, nI_clamp, m8 _ hl, Option.bind_some, g_ck_t (m9 _ hl)]
  refine ⟨_, rfl, hI.of rfl rfl rfl rfl rfl, ((((Fr.pI (by omega) (by omega)).trans (Fr.pI (by omega) (by omega))).trans (Fr.pI (by omega) (by omega))).trans (Fr.pL (by omega) (by omega))).trans (Fr.pI (by omega) (by omega)), ?_, ?_⟩
  · simp only [q_pI_fI, q_pI_fL, q_pI_fR, q_pI_aI, q_pI_aL, q_pI_aR, q_pI_K, q_pI_ln, q_pI_n, q_pI_sl, q_pI_is, q_pI_ck, q_pL_fI, q_pL_fL, q_pL_fR, q_pL_aI, q_pL_aL, q_pL_aR, q_pL_K, q_pL_ln, q_pL_n, q_pL_sl, q_pL_is, q_pL_ck, q_pR_fI, q_pR_fL, q_pR_fR, q_pR_aI, q_pR_aL, q_pR_aR, q_pR_K, q_pR_ln, q_pR_n, q_pR_sl, q_pR_is, q_pR_ck, q_rI_fI, q_rI_fL, q_rI_fR, q_rI_aI, q_rI_aL, q_rI_aR, q_rI_K, q_rI_ln, q_rI_n, q_rI_sl, q_rI_is, q_rI_ck, q_rL_fI, q_rL_fL, q_rL_fR, q_rL_aI, q_rL_aL, q_rL_aR, q_rL_K, q_rL_ln, q_rL_n, q_rL_sl, q_rL_is, q_rL_ck, q_rR_fI, q_rR_fL, q_rR_fR, q_rR_aI, q_rR_aL, q_rR_aR, q_rR_K, q_rR_ln, q_rR_n, q_rR_sl, q_rR_is, q_rR_ck]
    rw [g_up_s, g_up_n (by omega), g_up_n (by omega), g_up_n (by omega), h.1, add1, List.length_append]
    rfl
  · intro k st hk
    simp only [q_pI_fI, q_pI_fL, q_pI_fR, q_pI_aI, q_pI_aL, q_pI_aR, q_pI_K, q_pI_ln, q_pI_n, q_pI_sl, q_pI_is, q_pI_ck, q_pL_fI, q_pL_fL, q_pL_fR, q_pL_aI, q_pL_aL, q_pL_aR, q_pL_K, q_pL_ln, q_pL_n, q_pL_sl, q_pL_is, q_pL_ck, q_pR_fI, q_pR_fL, q_pR_fR, q_pR_aI, q_pR_aL, q_pR_aR, q_pR_K, q_pR_ln, q_pR_n, q_pR_sl, q_pR_is, q_pR_ck, q_rI_fI, q_rI_fL, q_rI_fR, q_rI_aI, q_rI_aL, q_rI_aR, q_rI_K, q_rI_ln, q_rI_n, q_rI_sl, q_rI_is, q_rI_ck, q_rL_fI, q_rL_fL, q_rL_fR, q_rL_aI, q_rL_aL, q_rL_aR, q_rL_K, q_rL_ln, q_rL_n, q_rL_sl, q_rL_is, q_rL_ck, q_rR_fI, q_rR_fL, q_rR_fR, q_rR_aI, q_rR_aL, q_rR_aR, q_rR_K, q_rR_ln, q_rR_n, q_rR_sl, q_rR_is, q_rR_ck]
    by_cases e : k < l.length
    · rw [List.getElem?_append_left e] at hk
      have := h.2 k st hk
      simp only [g_up]
      rw [if_neg (by omega), if_neg (by omega), if_neg (by omega), if_neg (by omega), if_neg (by omega), if_neg (by omega), if_neg (by omega), if_neg (by omega), if_neg (by omega), if_neg (by omega), if_neg (by omega), if_neg (by omega), if_neg (by omega)]
      exact this
    · have e2 : k = l.length := by
        have := lt_of_some hk
        rw [List.length_append, List.length_singleton] at this
        omega
      subst e2
      rw [List.getElem?_append_right (by omega), Nat.sub_self] at hk
      cases hk
      simp [g_up]
theorem plan_C {S : gS} {m : mS} {w n o a b : Int32} (h : RC S m) (k : mOk m) : COp S 0 237 (f_X8_plan S 0 w n o a b) (mPlan m w n o a b).1 (fun S1 => RC S1 (mPlan m w n o a b).2) := by
  have h0 := h
  obtain ⟨dk, vr, pl, mg, sc, nx, dr, sn, tb⟩ := m
  obtain ⟨hI, sA, sB, pA, pB, h1, h2, h3, h4, h5, h6, h7, h8⟩ := h
  obtain ⟨k1, k2, k3, k4, k5, k6, k7, k8⟩ := k
  have hs := h1.2.2.2.2.2.2.1
  have hp := h1.2.2.2.2.2.2.2
  have c0 : g_is S 8 0 := hI.is (by decide) (by decide)
  have c1 : g_is S 0 1 := hI.is (by decide) (by decide)
  have c2 : g_is S 7 2 := hI.is (by decide) (by decide)
  have r0 : gfR S 512 0 = some 1 := hI.r (512, 0, 1) (by decide)
  have r1 : gfR S 513 0 = some 2 := hI.r (513, 0, 2) (by decide)
  have mA : MigAt S pA := hI.mig (by unfold isMig; omega)
  have aS : SchAt S sA := hI.sch (by unfold isSch; omega)
  have key : f_X8_plan S 0 w n o a b = mPlanG w n o (some (-1, S)) (g_getR S 8 8 0 fun a7 => g_getI S 3 1 a7 fun x8 => if x8 = (6 : Int32) then (some ((-4 : Int32), S)) else (g_getR S 8 8 0 fun a9 => g_cL (f_X8_joined S a b) fun x11 S10 => g_cVV S10 3 a9 (f_X3_append S10 a9 w n o x11) fun S12 => g_getR S12 8 8 0 fun a13 => g_getI S12 3 1 a13 fun x14 => some (x14, S12))) := by
    unfold f_X8_plan mPlanG
    rw [if_or2]
    simp only [g_cI, isName_eq, isType_eq, Option.bind_some, g_jn]
    by_cases a1 : w < 0 ∨ 3 < w
    · rw [if_pos a1, if_pos a1]
    rw [if_neg a1, if_neg a1]
    by_cases a2 : n < 0 ∨ 63 < n
    · rw [if_pos a2, if_pos a2, if_pos rfl]
    rw [if_neg a2, if_neg a2, if_neg (by decide)]
    by_cases a3 : w = 2
    · rw [if_pos a3, if_pos a3]
      by_cases a4 : o < 0 ∨ 63 < o
      · rw [if_pos a4, if_pos a4, if_pos rfl]
      · rw [if_neg a4, if_neg a4, if_neg (by decide), if_neg (by rw [a3]; decide), if_neg (by rw [a3]; decide)]
    · rw [if_neg a3, if_neg a3, if_or2]
      by_cases a4 : w = 0 ∨ w = 3
      · rw [if_pos a4, if_pos a4]
        by_cases a5 : o < 0 ∨ 4 < o
        · rw [if_pos a5, if_pos a5, if_pos rfl]
        · rw [if_neg a5, if_neg a5, if_neg (by decide)]
      · rw [if_neg a4, if_neg a4]
  rw [key]
  have fin : COp S 0 237 (g_getR S 8 8 0 fun a7 => g_getI S 3 1 a7 fun x8 => if x8 = (6 : Int32) then (some ((-4 : Int32), S)) else (g_getR S 8 8 0 fun a9 => g_cL (f_X8_joined S a b) fun x11 S10 => g_cVV S10 3 a9 (f_X3_append S10 a9 w n o x11) fun S12 => g_getR S12 8 8 0 fun a13 => g_getI S12 3 1 a13 fun x14 => some (x14, S12))) (if pl.length = 6 then ((-4 : Int32), ((dk, vr, pl, mg, sc, nx, dr, sn, tb) : mS)) else (nI (pl.length + 1), (dk, vr, pl ++ [(w, n, o, mJoin a b)], mg, sc, nx, dr, sn, tb))).1 (fun S1 => RC S1 (if pl.length = 6 then ((-4 : Int32), ((dk, vr, pl, mg, sc, nx, dr, sn, tb) : mS)) else (nI (pl.length + 1), (dk, vr, pl ++ [(w, n, o, mJoin a b)], mg, sc, nx, dr, sn, tb))).2) := by
    simp only [g_getI, g_getL, g_getR, g_putI, g_putZ, g_putL, g_putR, g_ldI, g_ldL, g_ldR, g_stI, g_stZ, g_stL, g_stR, g_alen, g_ldX, g_cVI, g_cVL, g_cVR, g_cVV, g_cI, g_cL, g_cN, g_lt, g_jn, g_cpI, g_cpL, g_z, Nat.reduceMul, Nat.reduceAdd, Option.bind_some, or_true, true_or, if_true, q_pI_fI, q_pI_fL, q_pI_fR, q_pI_aI, q_pI_aL, q_pI_aR, q_pI_K, q_pI_ln, q_pI_n, q_pI_sl, q_pI_is, q_pI_ck, q_pL_fI, q_pL_fL, q_pL_fR, q_pL_aI, q_pL_aL, q_pL_aR, q_pL_K, q_pL_ln, q_pL_n, q_pL_sl, q_pL_is, q_pL_ck, q_pR_fI, q_pR_fL, q_pR_fR, q_pR_aI, q_pR_aL, q_pR_aR, q_pR_K, q_pR_ln, q_pR_n, q_pR_sl, q_pR_is, q_pR_ck, q_rI_fI, q_rI_fL, q_rI_fR, q_rI_aI, q_rI_aL, q_rI_aR, q_rI_K, q_rI_ln, q_rI_n, q_rI_sl, q_rI_is, q_rI_ck, q_rL_fI, q_rL_fL, q_rL_fR, q_rL_aI, q_rL_aL, q_rL_aR, q_rL_K, q_rL_ln, q_rL_n, q_rL_sl, q_rL_is, q_rL_ck, q_rR_fI, q_rR_fL, q_rR_fR, q_rR_aI, q_rR_aL, q_rR_aR, q_rR_K, q_rR_ln, q_rR_n, q_rR_sl, q_rR_is, q_rR_ck, g_ck_t c0, h1.2.2.1, g_ck_t mA.1, h3.1, joined_eq]
    have kl := k2.1
    by_cases e6 : pl.length = 6
    · rw [if_pos e6, if_pos (by rw [e6]; rfl)]
      exact ⟨S, rfl, hI, Fr.refl, h0⟩
    · rw [if_neg e6, if_neg (by rw [show (6 : Int32) = nI 6 from rfl, nI_eq (by omega) (by omega)]; exact e6)]
      obtain ⟨S1, b1, b2, e, b4⟩ := append_C (w := w) (n := n) (o := o) (x := mJoin a b) mA hI h3 (by omega)
      have g1 := h1.fr (e 0 (by omega))
      rw [b1, Option.bind_some, g_ck_t (b2.is (show 0 < 265 by decide) (show K0 0 = 8 by decide)), g1.2.2.1, Option.bind_some, g_ck_t ((b2.mig (by unfold isMig; omega)).1), b4.1, List.length_append]
      exact ⟨S1, rfl, b2, e.mono (by omega) (by omega), b2, sA, sB, pA, pB, h1.fr (e 0 (by omega)), h2.fr (e 1 (by omega)), b4, h4.fr (fun a a1 a2 => e a (by omega)), h5.fr (e _ (by omega)) (e _ (by omega)), h6.fr ((e 0 (by omega)).1 _) (fun a a1 a2 => e a (by omega)), h7.fr k5 (fun a a1 a2 => e a (by omega)), fun hr => ⟨(h8 hr).1.fr (fun a a1 a2 => e a (by omega)), (h8 hr).2.fr (k4 hr).1.1 (fun a a1 a2 => e a (by omega))⟩⟩
  unfold mPlan
  dsimp only
  unfold mPlanG
  by_cases a1 : w < 0 ∨ 3 < w
  · simp only [if_pos a1]; exact ⟨S, rfl, hI, Fr.refl, h0⟩
  simp only [if_neg a1]
  by_cases a2 : n < 0 ∨ 63 < n
  · simp only [if_pos a2]; exact ⟨S, rfl, hI, Fr.refl, h0⟩
  simp only [if_neg a2]
  by_cases a3 : w = 2
  · simp only [if_pos a3]
    by_cases a4 : o < 0 ∨ 63 < o
    · simp only [if_pos a4]; exact ⟨S, rfl, hI, Fr.refl, h0⟩
    · simp only [if_neg a4]; exact fin
  · simp only [if_neg a3]
    by_cases a4 : w = 0 ∨ w = 3
    · simp only [if_pos a4]
      by_cases a5 : o < 0 ∨ 4 < o
      · simp only [if_pos a5]; exact ⟨S, rfl, hI, Fr.refl, h0⟩
      · simp only [if_neg a5]; exact fin
    · simp only [if_neg a4]; exact fin
