section XA
variable {ρ : Type} {em : ρ → Option Value × gS} {E : gE} {M : gM} {n0 s0 pc : Nat} {lv : List (Nat × Value)} {st : List Value} {S : gS} {o : Option ρ}
/-! ===== arrays ===== -/
def g_ix {α : Type} (n : Nat) (i : Int32) (o : Option α) : Option α := if i < 0 ∨ n ≤ i.toNatClampNeg then none else o
theorem g_ix_s {α : Type} {n : Nat} {i : Int32} {o : Option α} {z : α} (h : g_ix n i o = some z) : vp_in i n ∧ o = some z := by
  unfold g_ix at h
  by_cases hc : i < 0 ∨ n ≤ i.toNatClampNeg
  · rw [if_pos hc] at h; cases h
  · rw [if_neg hc] at h; exact ⟨hc, h⟩
theorem g_ix_t {α : Type} {n k : Nat} {o : Option α} (h : k < n) (hn : n < 2 ^ 31) : g_ix n (nI k) o = o := by
  unfold g_ix
  rw [if_neg]
  exact vp_in_nI h hn
def g_ldI {α : Type} (S : gS) (ci a : Nat) (i : Int32) (F : Int32 → Option α) : Option α := g_ck S ci a (g_ix (gln S a) i (F (gaI S a i.toNatClampNeg)))
def g_ldL {α : Type} (S : gS) (a : Nat) (i : Int32) (F : Int64 → Option α) : Option α := g_ck S 11 a (g_ix (gln S a) i (F (gaL S a i.toNatClampNeg)))
def g_ldR {α : Type} (S : gS) (ci a : Nat) (i : Int32) (F : Nat → Option α) : Option α := g_ck S ci a (g_ix (gln S a) i ((gaR S a i.toNatClampNeg).bind F))
def g_stI {α : Type} (S : gS) (a : Nat) (i x : Int32) (F : gS → Option α) : Option α := g_ck S 10 a (g_ix (gln S a) i (F (g_rI S a (upd (gaI S a) i.toNatClampNeg x))))
def g_stZ {α : Type} (S : gS) (a : Nat) (i x : Int32) (F : gS → Option α) : Option α := g_ck S 12 a (g_ix (gln S a) i (if x = 0 ∨ x = 1 then F (g_rI S a (upd (gaI S a) i.toNatClampNeg x)) else none))
def g_stL {α : Type} (S : gS) (a : Nat) (i : Int32) (x : Int64) (F : gS → Option α) : Option α := g_ck S 11 a (g_ix (gln S a) i (F (g_rL S a (vp_updL (gaL S a) i.toNatClampNeg x))))
def g_stR {α : Type} (S : gS) (ci ce a : Nat) (i : Int32) (v : Nat) (F : gS → Option α) : Option α := g_ck S ci a (g_ck S ce v (g_ix (gln S a) i (F (g_rR S a (va_up (gaR S a) i.toNatClampNeg (some v))))))
def g_alen {α : Type} (S : gS) (ci a : Nat) (F : Int32 → Option α) : Option α := g_ck S ci a (F (Int32.ofNat (gln S a)))
theorem g_ty_at {t : Nat} {q : ClassId × FieldType} (h : (g_tys E)[t]? = some q) : (g_tys E)[t]? = some q := h
theorem g_cell_I {ci a : Nat} (h : g_is S ci a) (hc : ci = 10 ∨ ci = 12) : (g_w E S)[a]? = some (e0 E + a, .inl (eC E ci, gln S a, .inl (gaI S a))) := by
  rw [g_w_get h.2]
  unfold g_cell
  rw [h.1]
  rcases hc with rfl | rfl <;> rfl
theorem g_cell_L {a : Nat} (h : g_is S 11 a) : (g_w E S)[a]? = some (e0 E + a, .inl (eC E 11, gln S a, .inr (.inl (gaL S a)))) := by
  rw [g_w_get h.2]
  unfold g_cell
  rw [h.1]
  rfl
theorem g_cell_R {ci a : Nat} (h : g_is S ci a) (hc : ci = 13 ∨ ci = 14) : (g_w E S)[a]? = some (e0 E + a, .inl (eC E ci, gln S a, .inr (.inr (.inr (.inr (fun j => g_ad E (gaR S a j))))))) := by
  rw [g_w_get h.2]
  unfold g_cell
  rw [h.1]
  rcases hc with rfl | rfl <;> rfl
theorem X_iald {a : Nat} {i : Int32} {F : Int32 → Option ρ} (hd : decode (mc M) pc = .ok (.iaload, 1)) (h : ∀ x, gJ em E M n0 s0 (pc + 1) lv (.int x :: st) S (F x)) : gJ em E M n0 s0 pc lv (.int i :: .ref a :: st) S (g_ldI S 10 a i F) := by
  intro z hz
  obtain ⟨hi, hz⟩ := g_ck_s hz
  obtain ⟨hin, hz⟩ := g_ix_s hz
  obtain ⟨m1, m2, hG⟩ := h _ z hz
  exact ⟨m1, m2, fun p e s m args below meth c R Q hX H locs ls hl hP hS h1 h2 => va_iald (D := eD E) hX.1 hX.2.1 hX.2.2.2.2.2.2.1.1 hP a 0 (g_cell_I hi (Or.inl rfl)) rfl hin hd (hG p e s m args below meth c R Q hX H locs ls hl hP hS h1 h2)⟩
theorem X_zald {a : Nat} {i : Int32} {F : Int32 → Option ρ} (hd : decode (mc M) pc = .ok (.baload, 1)) (h : ∀ x, gJ em E M n0 s0 (pc + 1) lv (.int x :: st) S (F x)) : gJ em E M n0 s0 pc lv (.int i :: .ref a :: st) S (g_ldI S 12 a i F) := by
  intro z hz
  obtain ⟨hi, hz⟩ := g_ck_s hz
  obtain ⟨hin, hz⟩ := g_ix_s hz
  obtain ⟨m1, m2, hG⟩ := h _ z hz
  exact ⟨m1, m2, fun p e s m args below meth c R Q hX H locs ls hl hP hS h1 h2 => va_zald (D := eD E) hX.1 hX.2.1 hX.2.2.2.2.2.2.1.1 hP a 2 (g_cell_I hi (Or.inr rfl)) rfl hin hd (hG p e s m args below meth c R Q hX H locs ls hl hP hS h1 h2)⟩
theorem X_lald {a : Nat} {i : Int32} {F : Int64 → Option ρ} (hd : decode (mc M) pc = .ok (.laload, 1)) (h : ∀ x, gJ em E M n0 s0 (pc + 1) lv (.long x :: st) S (F x)) : gJ em E M n0 s0 pc lv (.int i :: .ref a :: st) S (g_ldL S a i F) := by
  intro z hz
  obtain ⟨hi, hz⟩ := g_ck_s hz
  obtain ⟨hin, hz⟩ := g_ix_s hz
  obtain ⟨m1, m2, hG⟩ := h _ z hz
  exact ⟨m1, m2, fun p e s m args below meth c R Q hX H locs ls hl hP hS h1 h2 => va_lald (D := eD E) hX.1 hX.2.1 hX.2.2.2.2.2.2.1.1 hP a 1 (g_cell_L hi) rfl hin hd (hG p e s m args below meth c R Q hX H locs ls hl hP hS h1 h2)⟩
theorem X_aald {ci a : Nat} {i : Int32} {F : Nat → Option ρ} (hc : ci = 13 ∨ ci = 14) (hd : decode (mc M) pc = .ok (.aaload, 1)) (h : ∀ x, gJ em E M n0 s0 (pc + 1) lv (.ref x :: st) S (F x)) : gJ em E M n0 s0 pc lv (.int i :: .ref a :: st) S (g_ldR S ci a i F) := by
  intro z hz
  obtain ⟨hi, hz⟩ := g_ck_s hz
  obtain ⟨hin, hz⟩ := g_ix_s hz
  cases hr : gaR S a i.toNatClampNeg with
  | none => rw [hr] at hz; cases hz
  | some x =>
    rw [hr] at hz
    obtain ⟨m1, m2, hG⟩ := h x z hz
    refine ⟨m1, m2, fun p e s m args below meth c R Q hX H locs ls hl hP hS h1 h2 => ?_⟩
    have K := hG p e s m args below meth c R Q hX H locs ls hl hP hS h1 h2
    have e1 : va_rf (g_ad E (gaR S a i.toNatClampNeg)) = .ref (e0 E + x) := by rw [hr]; rfl
    rcases hc with rfl | rfl
    · refine va_aldq (D := eD E) hX.1 hX.2.1 hX.2.2.2.2.2.2.1.1 hP a 3 (g_cell_R hi (Or.inl rfl)) rfl hin hd ?_
      rw [e1]; exact K
    · refine va_aldq (D := eD E) hX.1 hX.2.1 hX.2.2.2.2.2.2.1.1 hP a 4 (g_cell_R hi (Or.inr rfl)) rfl hin hd ?_
      rw [e1]; exact K
theorem X_alen {ci a : Nat} {F : Int32 → Option ρ} (hc : ci = 10 ∨ ci = 11 ∨ ci = 12) (hd : decode (mc M) pc = .ok (.arraylength, 1)) (h : ∀ x, gJ em E M n0 s0 (pc + 1) lv (.int x :: st) S (F x)) : gJ em E M n0 s0 pc lv (.ref a :: st) S (g_alen S ci a F) := by
  intro z hz
  obtain ⟨hi, hz⟩ := g_ck_s hz
  obtain ⟨m1, m2, hG⟩ := h _ z hz
  refine ⟨m1, m2, fun p e s m args below meth c R Q hX H locs ls hl hP hS h1 h2 => ?_⟩
  have K := hG p e s m args below meth c R Q hX H locs ls hl hP hS h1 h2
  rcases hc with rfl | rfl | rfl
  · exact va_alen (D := eD E) hX.1 hX.2.1 hX.2.2.2.2.2.2.1.1 hP a 0 (g_cell_I hi (Or.inl rfl)) rfl rfl hd K
  · exact va_alen (D := eD E) hX.1 hX.2.1 hX.2.2.2.2.2.2.1.1 hP a 1 (g_cell_L hi) rfl rfl hd K
  · exact va_alen (D := eD E) hX.1 hX.2.1 hX.2.2.2.2.2.2.1.1 hP a 2 (g_cell_I hi (Or.inr rfl)) rfl rfl hd K
/-- the script and the table: read alone -/
def g_ldX {α : Type} (n : Nat) (f : Nat → Int32) (i : Int32) (F : Int32 → Option α) : Option α := g_ix n i (F (f i.toNatClampNeg))
theorem X_sld {i : Int32} {F : Int32 → Option ρ} (hd : decode (mc M) pc = .ok (.iaload, 1)) (h : ∀ x, gJ em E M n0 s0 (pc + 1) lv (.int x :: st) S (F x)) : gJ em E M n0 s0 pc lv (.int i :: .retAddr 0 :: st) S (g_ldX (eN E) (eX E) i F) := by
  intro z hz
  obtain ⟨hin, hz⟩ := g_ix_s hz
  obtain ⟨m1, m2, hG⟩ := h _ z hz
  exact ⟨m1, m2, fun p e s m args below meth c R Q hX H locs ls hl hP hS h1 h2 => va_ti (t := eB E) hX.1 hX.2.1 hX.2.2.2.2.2.2.1.2.1 hS hin rfl hd (hG p e s m args below meth c R Q hX H locs ls hl hP hS h1 h2)⟩
theorem X_tld {i : Int32} {F : Int32 → Option ρ} (hd : decode (mc M) pc = .ok (.iaload, 1)) (h : ∀ x, gJ em E M n0 s0 (pc + 1) lv (.int x :: st) S (F x)) : gJ em E M n0 s0 pc lv (.int i :: .retAddr 1 :: st) S (g_ldX 5 g_cb i F) := by
  intro z hz
  obtain ⟨hin, hz⟩ := g_ix_s hz
  obtain ⟨m1, m2, hG⟩ := h _ z hz
  exact ⟨m1, m2, fun p e s m args below meth c R Q hX H locs ls hl hP hS h1 h2 => va_ti (t := eT E) hX.1 hX.2.1 hX.2.2.2.2.2.2.1.2.2.2.1 hS hin rfl hd (hG p e s m args below meth c R Q hX H locs ls hl hP hS h1 h2)⟩
theorem X_slen (hd : decode (mc M) pc = .ok (.arraylength, 1)) (h : gJ em E M n0 s0 (pc + 1) lv (.int (nI (eN E)) :: st) S o) : gJ em E M n0 s0 pc lv (.retAddr 0 :: st) S o := by
  intro z hz
  obtain ⟨m1, m2, hG⟩ := h z hz
  exact ⟨m1, m2, fun p e s m args below meth c R Q hX H locs ls hl hP hS h1 h2 => va_tlen (t := eB E) hX.1 hX.2.1 hX.2.2.2.2.2.2.1.2.1 hS rfl hd (hG p e s m args below meth c R Q hX H locs ls hl hP hS h1 h2)⟩
theorem X_gets {idx : Nat} (hw : Cond.fieldLink (my M).cls idx "ShiftHouse$Schema" "CAN_BECOME" "[I" ∈ lw_good) (hd : decode (mc M) pc = .ok (.getstatic idx, 3)) (h : gJ em E M n0 s0 (pc + 3) lv (.retAddr 1 :: st) S o) : gJ em E M n0 s0 pc lv st S o := by
  intro z hz
  obtain ⟨m1, m2, hG⟩ := h z hz
  exact ⟨m1, m2, fun p e s m args below meth c R Q hX H locs ls hl hP hS h1 h2 => va_gets hX.1 hX.2.1 hX.2.2.2.2.2.2.1.2.2.1 hS hX.2.2.2.1 (hX.2.2.2.2.1 _ hw) (fun _ h => h) hd (hG p e s m args below meth c R Q hX H locs ls hl hP hS h1 h2)⟩
/-- stores into arrays -/
theorem g_rI_cell {a : Nat} {r : Nat → Int32} : ∀ k, k ≠ a → g_cell E (g_rI S a r) k = g_cell E S k := by
  intro k hk
  have h4 : gaI (g_rI S a r) k = gaI S k := by simp [g_rI, gaI, g_row, hk]
  unfold g_cell
  rw [h4]
  rfl
theorem g_rL_cell {a : Nat} {r : Nat → Int64} : ∀ k, k ≠ a → g_cell E (g_rL S a r) k = g_cell E S k := by
  intro k hk
  have h4 : gaL (g_rL S a r) k = gaL S k := by simp [g_rL, gaL, g_row, hk]
  unfold g_cell
  rw [h4]
  rfl
theorem g_rR_cell {a : Nat} {r : Nat → Option Nat} : ∀ k, k ≠ a → g_cell E (g_rR S a r) k = g_cell E S k := by
  intro k hk
  have h4 : gaR (g_rR S a r) k = gaR S k := by simp [g_rR, gaR, g_row, hk]
  unfold g_cell
  rw [h4]
  rfl
theorem g_rI_w {ci a : Nat} {r : Nat → Int32} (h : g_is S ci a) (hc : ci = 10 ∨ ci = 12) : (g_w E S).set a (e0 E + a, .inl (eC E ci, gln S a, .inl r)) = g_w E (g_rI S a r) := by
  rw [← g_w_set (E := E) (S := S) (S' := g_rI S a r) rfl h.2 g_rI_cell]
  congr 2
  have h1 : gK (g_rI S a r) a = ci := h.1
  have h2 : gaI (g_rI S a r) a = r := by simp [g_rI, gaI, g_row]
  unfold g_cell
  rw [h1, h2]
  rcases hc with rfl | rfl <;> rfl
theorem g_rL_w {a : Nat} {r : Nat → Int64} (h : g_is S 11 a) : (g_w E S).set a (e0 E + a, .inl (eC E 11, gln S a, .inr (.inl r))) = g_w E (g_rL S a r) := by
  rw [← g_w_set (E := E) (S := S) (S' := g_rL S a r) rfl h.2 g_rL_cell]
  congr 2
  have h1 : gK (g_rL S a r) a = 11 := h.1
  have h2 : gaL (g_rL S a r) a = r := by simp [g_rL, gaL, g_row]
  unfold g_cell
  rw [h1, h2]
  rfl
theorem g_rR_w {ci a : Nat} {r : Nat → Option Nat} (h : g_is S ci a) (hc : ci = 13 ∨ ci = 14) : (g_w E S).set a (e0 E + a, .inl (eC E ci, gln S a, .inr (.inr (.inr (.inr (fun j => g_ad E (r j))))))) = g_w E (g_rR S a r) := by
  rw [← g_w_set (E := E) (S := S) (S' := g_rR S a r) rfl h.2 g_rR_cell]
  congr 2
  have h1 : gK (g_rR S a r) a = ci := h.1
  have h2 : gaR (g_rR S a r) a = r := by simp [g_rR, gaR, g_row]
  unfold g_cell
  rw [h1, h2]
  rcases hc with rfl | rfl <;> rfl
theorem X_iast {a : Nat} {i x : Int32} {F : gS → Option ρ} (hd : decode (mc M) pc = .ok (.iastore, 1)) (h : ∀ S1, gJ em E M n0 s0 (pc + 1) lv st S1 (F S1)) : gJ em E M n0 s0 pc lv (.int x :: .int i :: .ref a :: st) S (g_stI S a i x F) := by
  intro z hz
  obtain ⟨hi, hz⟩ := g_ck_s hz
  obtain ⟨hin, hz⟩ := g_ix_s hz
  obtain ⟨m1, m2, hG⟩ := h _ z hz
  refine ⟨m1, m2, fun p e s m args below meth c R Q hX H locs ls hl hP hS h1 h2 => va_iast (D := eD E) hX.1 hX.2.1 hX.2.2.2.2.2.2.1.1 hP (g_w_D E S) hS a 0 (g_cell_I hi (Or.inl rfl)) rfl hin hd fun H1 locs1 hP1 _ hS1 => ?_⟩
  rw [g_rI_w hi (Or.inl rfl)] at hP1
  exact hG p e s m args below meth c R Q hX H1 locs1 ls hl hP1 hS1 h1 h2
theorem X_zast {a : Nat} {i x : Int32} {F : gS → Option ρ} (hd : decode (mc M) pc = .ok (.bastore, 1)) (h : ∀ S1, gJ em E M n0 s0 (pc + 1) lv st S1 (F S1)) : gJ em E M n0 s0 pc lv (.int x :: .int i :: .ref a :: st) S (g_stZ S a i x F) := by
  intro z hz
  obtain ⟨hi, hz⟩ := g_ck_s hz
  obtain ⟨hin, hz⟩ := g_ix_s hz
  by_cases hx : x = 0 ∨ x = 1
  · rw [if_pos hx] at hz
    obtain ⟨m1, m2, hG⟩ := h _ z hz
    refine ⟨m1, m2, fun p e s m args below meth c R Q hX H locs ls hl hP hS h1 h2 => va_zast (D := eD E) hX.1 hX.2.1 hX.2.2.2.2.2.2.1.1 hP (g_w_D E S) hS a 2 (g_cell_I hi (Or.inr rfl)) rfl hin hd fun H1 locs1 hP1 _ hS1 => ?_⟩
    have hx2 : vp_nar .boolean x = x := by rcases hx with rfl | rfl <;> rfl
    rw [hx2, g_rI_w hi (Or.inr rfl)] at hP1
    exact hG p e s m args below meth c R Q hX H1 locs1 ls hl hP1 hS1 h1 h2
  · rw [if_neg hx] at hz; cases hz
theorem X_last {a : Nat} {i : Int32} {x : Int64} {F : gS → Option ρ} (hd : decode (mc M) pc = .ok (.lastore, 1)) (h : ∀ S1, gJ em E M n0 s0 (pc + 1) lv st S1 (F S1)) : gJ em E M n0 s0 pc lv (.long x :: .int i :: .ref a :: st) S (g_stL S a i x F) := by
  intro z hz
  obtain ⟨hi, hz⟩ := g_ck_s hz
  obtain ⟨hin, hz⟩ := g_ix_s hz
  obtain ⟨m1, m2, hG⟩ := h _ z hz
  refine ⟨m1, m2, fun p e s m args below meth c R Q hX H locs ls hl hP hS h1 h2 => va_last (D := eD E) hX.1 hX.2.1 hX.2.2.2.2.2.2.1.1 hP (g_w_D E S) hS a 1 (g_cell_L hi) rfl hin hd fun H1 locs1 hP1 _ hS1 => ?_⟩
  rw [g_rL_w hi] at hP1
  exact hG p e s m args below meth c R Q hX H1 locs1 ls hl hP1 hS1 h1 h2
theorem g_up_ad {f : Nat → Option Nat} {k v : Nat} : va_up (fun j => g_ad E (f j)) k (some (e0 E + v)) = fun j => g_ad E (va_up f k (some v) j) := by
  funext j
  unfold va_up
  by_cases h : j = k <;> simp [h, g_ad]
theorem X_aast {ci ce a v : Nat} {i : Int32} {F : gS → Option ρ} (hc : (ci = 13 ∧ ce = 4) ∨ (ci = 14 ∧ ce = 6)) (hd : decode (mc M) pc = .ok (.aastore, 1)) (h : ∀ S1, gJ em E M n0 s0 (pc + 1) lv st S1 (F S1)) : gJ em E M n0 s0 pc lv (.ref v :: .int i :: .ref a :: st) S (g_stR S ci ce a i v F) := by
  intro z hz
  obtain ⟨hi, hz⟩ := g_ck_s hz
  obtain ⟨hv, hz⟩ := g_ck_s hz
  obtain ⟨hin, hz⟩ := g_ix_s hz
  obtain ⟨m1, m2, hG⟩ := h _ z hz
  rcases hc with ⟨rfl, rfl⟩ | ⟨rfl, rfl⟩
  · refine ⟨m1, m2, fun p e s m args below meth c R Q hX H locs ls hl hP hS h1 h2 => va_astq (D := eD E) hX.1 hX.2.1 hX.2.2.2.2.2.2.1.1 hP (g_w_D E S) hS a 3 v 4 (g_cell_R hi (Or.inl rfl)) (r := g_cl 4) rfl (g_cell_o hv (by decide)) rfl hin hd fun H1 locs1 hP1 _ hS1 => ?_⟩
    rw [g_up_ad, g_rR_w hi (Or.inl rfl)] at hP1
    exact hG p e s m args below meth c R Q hX H1 locs1 ls hl hP1 hS1 h1 h2
  · refine ⟨m1, m2, fun p e s m args below meth c R Q hX H locs ls hl hP hS h1 h2 => va_astq (D := eD E) hX.1 hX.2.1 hX.2.2.2.2.2.2.1.1 hP (g_w_D E S) hS a 4 v 6 (g_cell_R hi (Or.inr rfl)) (r := g_cl 6) rfl (g_cell_o hv (by decide)) rfl hin hd fun H1 locs1 hP1 _ hS1 => ?_⟩
    rw [g_up_ad, g_rR_w hi (Or.inr rfl)] at hP1
    exact hG p e s m args below meth c R Q hX H1 locs1 ls hl hP1 hS1 h1 h2
end XA
