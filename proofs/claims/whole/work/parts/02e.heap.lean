section XH
variable {ρ : Type} {em : ρ → Option Value × gS} {E : gE} {M : gM} {n0 s0 pc : Nat} {lv : List (Nat × Value)} {st : List Value} {S : gS} {o : Option ρ}
/-! ===== fields ===== -/
/-- a field's link among the tables' words -/
def g_okF (own : String) (idx ci j : Nat) : Prop := ci < 10 ∧ j < gNf ci ∧ Cond.fieldLink own idx ((g_cl ci).2.1 j).1 ((g_cl ci).2.1 j).2.1 ((g_cl ci).2.1 j).2.2.1 ∈ lw_good
def g_is (S : gS) (ci a : Nat) : Prop := gK S a = ci ∧ a < gn S
def g_dec (S : gS) (ci a : Nat) : Decidable (g_is S ci a) := inferInstanceAs (Decidable (_ ∧ _))
def g_ck {α : Type} (S : gS) (ci a : Nat) (o : Option α) : Option α := @ite _ (g_is S ci a) (g_dec S ci a) o none
theorem g_ck_t {α : Type} {S : gS} {ci a : Nat} {o : Option α} (h : g_is S ci a) : g_ck S ci a o = o := if_pos h
theorem g_ck_s {α : Type} {S : gS} {ci a : Nat} {o : Option α} {z : α} (h : g_ck S ci a o = some z) : g_is S ci a ∧ o = some z := by
  unfold g_ck at h
  by_cases hc : g_is S ci a
  · rw [if_pos hc] at h; exact ⟨hc, h⟩
  · rw [if_neg hc] at h; cases h
def g_getI {α : Type} (S : gS) (ci j a : Nat) (F : Int32 → Option α) : Option α := g_ck S ci a (F (gfI S (64 * ci + j) a))
def g_getL {α : Type} (S : gS) (ci j a : Nat) (F : Int64 → Option α) : Option α := g_ck S ci a (F (gfL S (64 * ci + j) a))
def g_getR {α : Type} (S : gS) (ci j a : Nat) (F : Nat → Option α) : Option α := g_ck S ci a ((gfR S (64 * ci + j) a).bind F)
def g_putI {α : Type} (S : gS) (ci j a : Nat) (v : Int32) (F : gS → Option α) : Option α := g_ck S ci a (F (g_pI S (64 * ci + j) a v))
def g_putZ {α : Type} (S : gS) (ci j a : Nat) (v : Int32) (F : gS → Option α) : Option α := g_ck S ci a (if v = 0 ∨ v = 1 then F (g_pI S (64 * ci + j) a v) else none)
def g_putL {α : Type} (S : gS) (ci j a : Nat) (v : Int64) (F : gS → Option α) : Option α := g_ck S ci a (F (g_pL S (64 * ci + j) a v))
def g_putR {α : Type} (S : gS) (ci j a : Nat) (v : Nat) (F : gS → Option α) : Option α := g_ck S ci a (F (g_pR S (64 * ci + j) a (some v)))
theorem g_cell_o {ci a : Nat} (h : g_is S ci a) (hc : ci < 10) : (g_w E S)[a]? = some (e0 E + a, .inr (ci, (List.range (gNf ci)).map (g_fv E S a ci))) := by
  rw [g_w_get h.2]
  unfold g_cell
  rw [h.1, if_pos hc]
theorem g_fv_at {ci j a : Nat} (hj : j < gNf ci) : ((List.range (gNf ci)).map (g_fv E S a ci))[j]? = some (g_fv E S a ci j) := by
  simp [hj]
/-- a field is read -/
theorem g_getW {p : Program} {e : Env} {s : State} {m : MethodId} {args : Array Value} {below : List Frame} {meth : Method} {c : Code} {R : Room} {Q : State → Prop} {H : Heap} {locs : List Loc} {ls : Array Slot} {r : Option Value} {S' : gS} {cells slots : Nat} {rest : List Value} {idx ci j a : Nat}
    (hX : gX E M n0 s0 r S' p e s m args below meth c R Q) (hP : g_P E S H) (ho : g_okF (my M).cls idx ci j) (hi : g_is S ci a) (hd : decode (mc M) pc = .ok (.getfield idx, 3))
    (k : W p (eL E) e R s m args below meth c H locs cells slots Q (F0 m (pc + 3) ls (g_fv E S a ci j :: rest))) : W p (eL E) e R s m args below meth c H locs cells slots Q (F0 m pc ls (.ref (e0 E + a) :: rest)) := by
  obtain ⟨hc, hj, hw⟩ := ho
  obtain ⟨hx, hb, hml, hown, hts, hnm, hEv, -⟩ := hX
  exact va_get (D := eD E) (ci := ci) (C := (g_cl ci).1) (T := (g_cl ci).2.1) (N := (g_cl ci).2.2) hx hb hts (g_in hc) hown hEv.1 hP a (g_cell_o hi hc) (g_cl_at ci hc) j hj (hts _ hw) (fun _ h => h) (g_fv_at hj) hd k
theorem X_getI {idx ci j a : Nat} {F : Int32 → Option ρ} (ho : g_okF (my M).cls idx ci j) (ht : g_ft (gTy ci j) = 0) (hd : decode (mc M) pc = .ok (.getfield idx, 3)) (h : ∀ x, gJ em E M n0 s0 (pc + 3) lv (.int x :: st) S (F x)) : gJ em E M n0 s0 pc lv (.ref a :: st) S (g_getI S ci j a F) := by
  intro z hz
  obtain ⟨hi, hz⟩ := g_ck_s hz
  obtain ⟨m1, m2, hG⟩ := h _ z hz
  refine ⟨m1, m2, fun p e s m args below meth c R Q hX H locs ls hl hP hS h1 h2 => g_getW hX hP ho hi hd ?_⟩
  have e1 : g_fv E S a ci j = .int (gfI S (64 * ci + j) a) := by unfold g_fv; rw [ht]; rfl
  rw [e1]
  exact hG p e s m args below meth c R Q hX H locs ls hl hP hS h1 h2
theorem X_getL {idx ci j a : Nat} {F : Int64 → Option ρ} (ho : g_okF (my M).cls idx ci j) (ht : g_ft (gTy ci j) = 1) (hd : decode (mc M) pc = .ok (.getfield idx, 3)) (h : ∀ x, gJ em E M n0 s0 (pc + 3) lv (.long x :: st) S (F x)) : gJ em E M n0 s0 pc lv (.ref a :: st) S (g_getL S ci j a F) := by
  intro z hz
  obtain ⟨hi, hz⟩ := g_ck_s hz
  obtain ⟨m1, m2, hG⟩ := h _ z hz
  refine ⟨m1, m2, fun p e s m args below meth c R Q hX H locs ls hl hP hS h1 h2 => g_getW hX hP ho hi hd ?_⟩
  have e1 : g_fv E S a ci j = .long (gfL S (64 * ci + j) a) := by unfold g_fv; rw [ht]; rfl
  rw [e1]
  exact hG p e s m args below meth c R Q hX H locs ls hl hP hS h1 h2
theorem X_getR {idx ci j a : Nat} {F : Nat → Option ρ} (ho : g_okF (my M).cls idx ci j) (ht : g_ft (gTy ci j) = 2) (hd : decode (mc M) pc = .ok (.getfield idx, 3)) (h : ∀ x, gJ em E M n0 s0 (pc + 3) lv (.ref x :: st) S (F x)) : gJ em E M n0 s0 pc lv (.ref a :: st) S (g_getR S ci j a F) := by
  intro z hz
  obtain ⟨hi, hz⟩ := g_ck_s hz
  cases hr : gfR S (64 * ci + j) a with
  | none => rw [hr] at hz; cases hz
  | some x =>
    rw [hr] at hz
    obtain ⟨m1, m2, hG⟩ := h x z hz
    refine ⟨m1, m2, fun p e s m args below meth c R Q hX H locs ls hl hP hS h1 h2 => g_getW hX hP ho hi hd ?_⟩
    have e1 : g_fv E S a ci j = .ref (e0 E + x) := by unfold g_fv; rw [ht, hr]; rfl
    rw [e1]
    exact hG p e s m args below meth c R Q hX H locs ls hl hP hS h1 h2
/-- what a put changes -/
def g_Up (E : gE) (S S1 : gS) (ci j a : Nat) : Prop := gn S1 = gn S ∧ gsl S1 = gsl S ∧ gK S1 = gK S ∧ (∀ k, k ≠ a → g_cell E S1 k = g_cell E S k) ∧ ∀ i, i ≠ j → g_fv E S1 a ci i = g_fv E S a ci i
theorem g_Up.cell {S1 : gS} {ci j a : Nat} (h : g_Up E S S1 ci j a) (hi : g_is S ci a) (hc : ci < 10) (hj : j < gNf ci) : (g_w E S).set a (e0 E + a, .inr (ci, ((List.range (gNf ci)).map (g_fv E S a ci)).set j (g_fv E S1 a ci j))) = g_w E S1 := by
  obtain ⟨h1, h2, h3, h4, h5⟩ := h
  rw [← g_w_set h1 hi.2 h4, ← g_set_map hj h5]
  congr 2
  unfold g_cell
  rw [h3, hi.1, if_pos hc]
theorem g_Up.I {ci j a : Nat} {v : Int32} : g_Up E S (g_pI S (64 * ci + j) a v) ci j a := by
  refine ⟨rfl, rfl, rfl, fun k hk => ?_, fun i hi => ?_⟩
  · have : g_fv E (g_pI S (64 * ci + j) a v) k = g_fv E S k := by
      funext c i
      simp [g_fv, g_pI, gfI, gfL, gfR, g_up, hk]
    unfold g_cell
    rw [this]
    rfl
  · have : 64 * ci + i ≠ 64 * ci + j := by omega
    simp [g_fv, g_pI, gfI, gfL, gfR, g_up, this, hi]
theorem g_Up.L {ci j a : Nat} {v : Int64} : g_Up E S (g_pL S (64 * ci + j) a v) ci j a := by
  refine ⟨rfl, rfl, rfl, fun k hk => ?_, fun i hi => ?_⟩
  · have : g_fv E (g_pL S (64 * ci + j) a v) k = g_fv E S k := by
      funext c i
      simp [g_fv, g_pL, gfI, gfL, gfR, g_up, hk]
    unfold g_cell
    rw [this]
    rfl
  · have : 64 * ci + i ≠ 64 * ci + j := by omega
    simp [g_fv, g_pL, gfI, gfL, gfR, g_up, this, hi]
theorem g_Up.R {ci j a : Nat} {v : Option Nat} : g_Up E S (g_pR S (64 * ci + j) a v) ci j a := by
  refine ⟨rfl, rfl, rfl, fun k hk => ?_, fun i hi => ?_⟩
  · have : g_fv E (g_pR S (64 * ci + j) a v) k = g_fv E S k := by
      funext c i
      simp [g_fv, g_pR, gfI, gfL, gfR, g_up, hk]
    unfold g_cell
    rw [this]
    rfl
  · have : 64 * ci + i ≠ 64 * ci + j := by omega
    simp [g_fv, g_pR, gfI, gfL, gfR, g_up, this, hi]
/-- a field is written: not a final one, or in its own constructor -/
theorem gJ.put {idx ci j a : Nat} {v : Value} {S1 : gS} (ho : g_okF (my M).cls idx ci j) (hfin : ((g_cl ci).2.1 j).2.2.2 = false ∨ (((g_cl ci).2.1 j).2.2.2 = true ∧ (my M).name = "<init>" ∧ ((g_cl ci).2.1 j).1 = (my M).cls)) (hd : decode (mc M) pc = .ok (.putfield idx, 3)) (hi : g_is S ci a) (hU : g_Up E S S1 ci j a) (hv : g_fv E S1 a ci j = g_rv E v)
    (hn : narrow (gTy ci j) (g_rv E v) = g_rv E v) (hf : fits (gTy ci j) (g_rv E v) = true) (h : gJ em E M n0 s0 (pc + 3) lv st S1 o) : gJ em E M n0 s0 pc lv (v :: .ref a :: st) S o := by
  intro z hz
  obtain ⟨m1, m2, hG⟩ := h z hz
  rw [hU.1] at m1
  rw [hU.2.1] at m2
  refine ⟨m1, m2, fun p e s m args below meth c R Q hX H locs ls hl hP hS h1 h2 => ?_⟩
  obtain ⟨hc, hj, hw⟩ := ho
  obtain ⟨hx, hb, hml, hown, hts, hnm, hEv, -⟩ := id hX
  have kk : ∀ (H1 : Heap) (locs1 : List Loc), va_P (eD E) vwCl ((g_w E S).set a (e0 E + a, .inr (ci, ((List.range (gNf ci)).map (g_fv E S a ci)).set j (g_rv E v)))) H1 → va_D (g_A E) ((g_w E S).set a (e0 E + a, .inr (ci, ((List.range (gNf ci)).map (g_fv E S a ci)).set j (g_rv E v)))) → va_S (g_A E) s.heap H1 locs1 → W p (eL E) e R s m args below meth c H1 locs1 (gn S - n0) (gsl S - s0) Q (F0 m (pc + 3) ls (st.map (g_rv E))) := by
    intro H1 locs1 hP1 _ hS1
    rw [← hv, hU.cell hi hc hj] at hP1
    have := hG p e s m args below meth c R Q hX H1 locs1 ls hl hP1 hS1 (by rw [hU.1]; exact h1) (by rw [hU.2.1]; exact h2)
    rw [hU.1, hU.2.1] at this
    exact this
  show W _ _ _ _ _ _ _ _ _ _ _ _ _ _ _ (F0 m pc ls (g_rv E v :: .ref (e0 E + a) :: st.map (g_rv E)))
  rcases hfin with hfin | ⟨hfin, hin, hdc⟩
  · exact va_put (D := eD E) (ci := ci) (C := (g_cl ci).1) (T := (g_cl ci).2.1) (N := (g_cl ci).2.2) hx hb hts (g_in hc) (gTy ci) (g_tyok ci hc) (g_nm ci hc) hown hEv.1 hP (g_w_D E S) hS a (g_cell_o hi hc) (g_cl_at ci hc) j hj (hts _ hw) (fun _ h => h) hfin (g_tyok ci hc j hj) hn hf (by simpa using hj) hd kk
  · exact va_putF (D := eD E) (ci := ci) (C := (g_cl ci).1) (T := (g_cl ci).2.1) (N := (g_cl ci).2.2) hx hb hts (g_in hc) (gTy ci) (g_tyok ci hc) (g_nm ci hc) hown hEv.1 hP (g_w_D E S) hS a (g_cell_o hi hc) (g_cl_at ci hc) j hj (hts _ hw) (fun _ h => h) hfin (hnm hin) hdc (g_tyok ci hc j hj) hn hf (by simpa using hj) hd kk
theorem X_putI {idx ci j a : Nat} {v : Int32} {F : gS → Option ρ} (ho : g_okF (my M).cls idx ci j) (ht : gTy ci j = .int) (hfin : ((g_cl ci).2.1 j).2.2.2 = false) (hd : decode (mc M) pc = .ok (.putfield idx, 3)) (h : ∀ S1, gJ em E M n0 s0 (pc + 3) lv st S1 (F S1)) : gJ em E M n0 s0 pc lv (.int v :: .ref a :: st) S (g_putI S ci j a v F) := by
  intro z hz
  obtain ⟨hi, hz⟩ := g_ck_s hz
  exact gJ.put (v := .int v) ho (Or.inl hfin) hd hi g_Up.I (by unfold g_fv; rw [ht]; simp [g_ft, g_pI, gfI, g_up, g_rv]) (by rw [ht]; rfl) (by rw [ht]; rfl) (h _) z hz
theorem X_putZ {idx ci j a : Nat} {v : Int32} {F : gS → Option ρ} (ho : g_okF (my M).cls idx ci j) (ht : gTy ci j = .boolean) (hfin : ((g_cl ci).2.1 j).2.2.2 = false) (hd : decode (mc M) pc = .ok (.putfield idx, 3)) (h : ∀ S1, gJ em E M n0 s0 (pc + 3) lv st S1 (F S1)) : gJ em E M n0 s0 pc lv (.int v :: .ref a :: st) S (g_putZ S ci j a v F) := by
  intro z hz
  obtain ⟨hi, hz⟩ := g_ck_s hz
  by_cases hv : v = 0 ∨ v = 1
  · rw [if_pos hv] at hz
    exact gJ.put (v := .int v) ho (Or.inl hfin) hd hi g_Up.I (by unfold g_fv; rw [ht]; simp [g_ft, g_pI, gfI, g_up, g_rv]) (by rw [ht]; rcases hv with rfl | rfl <;> rfl) (by rw [ht]; rcases hv with rfl | rfl <;> rfl) (h _) z hz
  · rw [if_neg hv] at hz; cases hz
theorem X_putL {idx ci j a : Nat} {v : Int64} {F : gS → Option ρ} (ho : g_okF (my M).cls idx ci j) (ht : gTy ci j = .long) (hfin : ((g_cl ci).2.1 j).2.2.2 = false) (hd : decode (mc M) pc = .ok (.putfield idx, 3)) (h : ∀ S1, gJ em E M n0 s0 (pc + 3) lv st S1 (F S1)) : gJ em E M n0 s0 pc lv (.long v :: .ref a :: st) S (g_putL S ci j a v F) := by
  intro z hz
  obtain ⟨hi, hz⟩ := g_ck_s hz
  exact gJ.put (v := .long v) ho (Or.inl hfin) hd hi g_Up.L (by unfold g_fv; rw [ht]; simp [g_ft, g_pL, gfL, g_up, g_rv]) (by rw [ht]; rfl) (by rw [ht]; rfl) (h _) z hz
theorem X_putR {idx ci j a : Nat} {v : Nat} {F : gS → Option ρ} (ho : g_okF (my M).cls idx ci j) (ht : (∃ C, gTy ci j = .object C) ∨ ∃ t, gTy ci j = .array t) (hfin : ((g_cl ci).2.1 j).2.2.2 = false ∨ (((g_cl ci).2.1 j).2.2.2 = true ∧ (my M).name = "<init>" ∧ ((g_cl ci).2.1 j).1 = (my M).cls)) (hd : decode (mc M) pc = .ok (.putfield idx, 3)) (h : ∀ S1, gJ em E M n0 s0 (pc + 3) lv st S1 (F S1)) : gJ em E M n0 s0 pc lv (.ref v :: .ref a :: st) S (g_putR S ci j a v F) := by
  intro z hz
  obtain ⟨hi, hz⟩ := g_ck_s hz
  rcases ht with ⟨C, ht⟩ | ⟨C, ht⟩
  · exact gJ.put (v := .ref v) ho hfin hd hi g_Up.R (by unfold g_fv; rw [ht]; simp [g_ft, g_pR, gfR, g_up, g_rv, g_ad, va_rf]) (by rw [ht]; rfl) (by rw [ht]; rfl) (h _) z hz
  · exact gJ.put (v := .ref v) ho hfin hd hi g_Up.R (by unfold g_fv; rw [ht]; simp [g_ft, g_pR, gfR, g_up, g_rv, g_ad, va_rf]) (by rw [ht]; rfl) (by rw [ht]; rfl) (h _) z hz
end XH
