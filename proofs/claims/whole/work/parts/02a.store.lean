/-! ===== the store: every cell that the law's call makes, by its number from 0; ints, longs and references of objects by field and number, of arrays by number and place ===== -/
def gS : Type := (Nat → Nat → Int32) × (Nat → Nat → Int64) × (Nat → Nat → Option Nat) × (Nat → Nat → Int32) × (Nat → Nat → Int64) × (Nat → Nat → Option Nat) × (Nat → Nat) × (Nat → Nat) × Nat × Nat
def gfI (S : gS) : Nat → Nat → Int32 := S.1
def gfL (S : gS) : Nat → Nat → Int64 := S.2.1
def gfR (S : gS) : Nat → Nat → Option Nat := S.2.2.1
def gaI (S : gS) : Nat → Nat → Int32 := S.2.2.2.1
def gaL (S : gS) : Nat → Nat → Int64 := S.2.2.2.2.1
def gaR (S : gS) : Nat → Nat → Option Nat := S.2.2.2.2.2.1
def gK (S : gS) : Nat → Nat := S.2.2.2.2.2.2.1
def gln (S : gS) : Nat → Nat := S.2.2.2.2.2.2.2.1
def gn (S : gS) : Nat := S.2.2.2.2.2.2.2.2.1
def gsl (S : gS) : Nat := S.2.2.2.2.2.2.2.2.2
def g_up {α : Type} (f : Nat → Nat → α) (i a : Nat) (v : α) : Nat → Nat → α := fun j b => if j = i ∧ b = a then v else f j b
def g_row {α : Type} (f : Nat → Nat → α) (a : Nat) (r : Nat → α) : Nat → Nat → α := fun b => if b = a then r else f b
def g_col {α : Type} (f : Nat → Nat → α) (a : Nat) (v : α) : Nat → Nat → α := fun j b => if b = a then v else f j b
/-- puts: a field of an object, a place of an array, a whole array's row -/
def g_pI (S : gS) (f a : Nat) (v : Int32) : gS := (g_up (gfI S) f a v, S.2)
def g_pL (S : gS) (f a : Nat) (v : Int64) : gS := (gfI S, g_up (gfL S) f a v, S.2.2)
def g_pR (S : gS) (f a : Nat) (v : Option Nat) : gS := (gfI S, gfL S, g_up (gfR S) f a v, S.2.2.2)
def g_rI (S : gS) (a : Nat) (r : Nat → Int32) : gS := (gfI S, gfL S, gfR S, g_row (gaI S) a r, S.2.2.2.2)
def g_rL (S : gS) (a : Nat) (r : Nat → Int64) : gS := (gfI S, gfL S, gfR S, gaI S, g_row (gaL S) a r, S.2.2.2.2.2)
def g_rR (S : gS) (a : Nat) (r : Nat → Option Nat) : gS := (gfI S, gfL S, gfR S, gaI S, gaL S, g_row (gaR S) a r, S.2.2.2.2.2.2)
/-- one more cell: an object of class ci, or an array of kind ci with ln places -/
def g_al (S : gS) (ci ln sl : Nat) : gS := (g_col (gfI S) (gn S) 0, g_col (gfL S) (gn S) 0, g_col (gfR S) (gn S) none, g_row (gaI S) (gn S) (fun _ => 0), g_row (gaL S) (gn S) (fun _ => 0), g_row (gaR S) (gn S) (fun _ => none),
  (fun a => if a = gn S then ci else gK S a), (fun a => if a = gn S then ln else gln S a), gn S + 1, gsl S + sl)
theorem g_up_s {α : Type} {f : Nat → Nat → α} {i a : Nat} {v : α} : g_up f i a v i a = v := by simp [g_up]
theorem g_up_n {α : Type} {f : Nat → Nat → α} {i a j b : Nat} {v : α} (h : b ≠ a) : g_up f i a v j b = f j b := by simp [g_up, h]
theorem g_up_f {α : Type} {f : Nat → Nat → α} {i a j b : Nat} {v : α} (h : j ≠ i) : g_up f i a v j b = f j b := by simp [g_up, h]
/-! ===== the environment, the world ===== -/
/-- launch; where classes and slots are; array classes; the first cell's address; the script's; the table's; the script's length and ints -/
def gE : Type := Launch × va_G × (Nat → ClassId) × Nat × Nat × Nat × Nat × (Nat → Int32)
def eL (E : gE) : Launch := E.1
def eD (E : gE) : va_G := E.2.1
def eC (E : gE) : Nat → ClassId := E.2.2.1
def e0 (E : gE) : Nat := E.2.2.2.1
def eB (E : gE) : Nat := E.2.2.2.2.1
def eT (E : gE) : Nat := E.2.2.2.2.2.1
def eN (E : gE) : Nat := E.2.2.2.2.2.2.1
def eX (E : gE) : Nat → Int32 := E.2.2.2.2.2.2.2
def g_ft : FieldType → Nat
  | .long => 1
  | .object _ => 2
  | .array _ => 2
  | _ => 0
def gTy (ci : Nat) : Nat → FieldType := match ci with
  | 0 => tyX0 | 1 => tyX1 | 2 => tyX2 | 3 => tyX3 | 4 => tyX4 | 5 => tyX5 | 6 => tyX6 | 7 => tyX7 | 8 => tyX8 | _ => tyX9
def g_cl (ci : Nat) : vw_C := vwCl.getD ci (RX9, TX9, 38)
def gNf (ci : Nat) : Nat := (g_cl ci).2.2
def g_ad (E : gE) (r : Option Nat) : Option Nat := r.map (fun a => e0 E + a)
def g_fv (E : gE) (S : gS) (k ci j : Nat) : Value := match g_ft (gTy ci j) with
  | 0 => .int (gfI S (64 * ci + j) k)
  | 1 => .long (gfL S (64 * ci + j) k)
  | _ => va_rf (g_ad E (gfR S (64 * ci + j) k))
def g_cell (E : gE) (S : gS) (k : Nat) : va_E :=
  if gK S k < 10 then .inr (gK S k, (List.range (gNf (gK S k))).map (g_fv E S k (gK S k)))
  else if gK S k = 11 then .inl (eC E 11, gln S k, .inr (.inl (gaL S k)))
  else if gK S k < 13 then .inl (eC E (gK S k), gln S k, .inl (gaI S k))
  else .inl (eC E (gK S k), gln S k, .inr (.inr (.inr (.inr (fun j => g_ad E (gaR S k j))))))
def g_w (E : gE) (S : gS) : va_W := (List.range (gn S)).map (fun k => (e0 E + k, g_cell E S k))
def g_tys (E : gE) : List (ClassId × FieldType) := [(eC E 10, .int), (eC E 11, .long), (eC E 12, .boolean), (eC E 13, .object RX4), (eC E 14, .object RX6)]
def g_A (E : gE) : Nat → Prop := fun q => e0 E ≤ q
def g_P (E : gE) (S : gS) (H : Heap) : Prop := va_P (eD E) vwCl (g_w E S) H
theorem g_w_get {E : gE} {S : gS} {k : Nat} (h : k < gn S) : (g_w E S)[k]? = some (e0 E + k, g_cell E S k) := by
  simp [g_w, h]
theorem g_w_inv {E : gE} {S : gS} {k : Nat} {q : Nat × va_E} (h : (g_w E S)[k]? = some q) : k < gn S ∧ q = (e0 E + k, g_cell E S k) := by
  have hk : k < gn S := by
    have := (List.getElem?_eq_some_iff.mp h).1
    simpa [g_w] using this
  rw [g_w_get hk] at h
  exact ⟨hk, (Option.some.inj h).symm⟩
theorem g_w_D (E : gE) (S : gS) : va_D (g_A E) (g_w E S) := by
  refine ⟨fun i j p q hi hj h => ?_, fun k q hk => ?_⟩
  · obtain ⟨-, rfl⟩ := g_w_inv hi
    obtain ⟨-, rfl⟩ := g_w_inv hj
    exact Nat.add_left_cancel h
  · obtain ⟨-, rfl⟩ := g_w_inv hk
    exact Nat.le_add_right _ _
theorem g_w_set {E : gE} {S S' : gS} (hn : gn S' = gn S) {k : Nat} (hk : k < gn S) (he : ∀ j, j ≠ k → g_cell E S' j = g_cell E S j) : (g_w E S).set k (e0 E + k, g_cell E S' k) = g_w E S' := by
  apply List.ext_getElem?
  intro j
  by_cases hj : j < gn S
  · rw [g_w_get (S := S') (by rw [hn]; exact hj)]
    by_cases hjk : j = k
    · subst hjk
      rw [List.getElem?_set_self (by simpa [g_w] using hj)]
    · rw [List.getElem?_set_ne (Ne.symm hjk), g_w_get hj, he j hjk]
  · have h1 : ((g_w E S).set k (e0 E + k, g_cell E S' k))[j]? = none := by
      apply List.getElem?_eq_none
      simp [g_w]; omega
    have h2 : (g_w E S')[j]? = none := by
      apply List.getElem?_eq_none
      simp [g_w]; omega
    rw [h1, h2]
theorem g_w_push {E : gE} {S : gS} {ci ln sl : Nat} : g_w E (g_al S ci ln sl) = g_w E S ++ [(e0 E + gn S, g_cell E (g_al S ci ln sl) (gn S))] := by
  have hc : ∀ k, k ≠ gn S → g_cell E (g_al S ci ln sl) k = g_cell E S k := by
    intro k hk
    have h1 : gK (g_al S ci ln sl) k = gK S k := by simp [g_al, gK, hk]
    have h2 : gln (g_al S ci ln sl) k = gln S k := by simp [g_al, gln, hk]
    have h3 : gaL (g_al S ci ln sl) k = gaL S k := by simp [g_al, gaL, g_row, hk]
    have h4 : gaI (g_al S ci ln sl) k = gaI S k := by simp [g_al, gaI, g_row, hk]
    have h5 : gaR (g_al S ci ln sl) k = gaR S k := by simp [g_al, gaR, g_row, hk]
    have h6 : g_fv E (g_al S ci ln sl) k = g_fv E S k := by
      funext c j
      simp [g_fv, g_al, gfI, gfL, gfR, g_col, hk]
    simp only [g_cell, h1, h2, h3, h4, h5, h6]
  have hn : gn (g_al S ci ln sl) = gn S + 1 := rfl
  unfold g_w
  rw [hn, List.range_succ, List.map_append]
  congr 1
  apply List.map_congr_left
  intro k hk
  rw [hc k (Nat.ne_of_lt (List.mem_range.mp hk))]
theorem g_set_map {α : Type} {N jj : Nat} {f g : Nat → α} (h : jj < N) (hne : ∀ i, i ≠ jj → g i = f i) : (List.range N).map g = ((List.range N).map f).set jj (g jj) := by
  apply List.ext_getElem?
  intro i
  by_cases hi : i = jj
  · subst hi
    rw [List.getElem?_set_self (by simpa using h)]
    simp [h]
  · rw [List.getElem?_set_ne (Ne.symm hi)]
    simp only [List.getElem?_map]
    cases hr : (List.range N)[i]? with
    | none => rfl
    | some k =>
      have : k = i := by
        have := List.getElem?_eq_some_iff.mp hr
        obtain ⟨a, b⟩ := this
        simpa using b.symm
      subst this
      simp [hne k hi]
/-! ===== the class tables as one ===== -/
def lw_good : List Cond := lw_tbl.filter goodWord
theorem lw_good_of {w : Cond} (h : w ∈ lw_tbl) (g : goodWord w = true) : w ∈ lw_good := List.mem_filter.mpr ⟨h, g⟩
theorem g_t {i : Nat} {w : Cond} (h : tables_1[i]? = some w) (g : goodWord w = true) : w ∈ lw_good := lw_good_of (List.mem_append_right _ (List.mem_of_getElem? h)) g
theorem g_s {i : Nat} {w : Cond} (h : (k2_sels lw_privs)[i]? = some w) (g : goodWord w = true) : w ∈ lw_good := lw_good_of (List.mem_append_left _ (List.mem_of_getElem? h)) g
theorem g_good_in {M : Cond} (h : M ∈ lw_good) : GoodIn lw_good (M :: lw_good) := by
  intro w hw
  rcases List.mem_cons.mp hw with rfl | hw
  · exact ⟨h, good_of_word (List.mem_filter.mp h).2⟩
  · exact ⟨hw, good_of_word (List.mem_filter.mp hw).2⟩
