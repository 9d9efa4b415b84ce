/-! ===== the cells that the two constructors make: kinds, lengths, the references that never change ===== -/
def kTail : List Nat := [1, 11, 2, 11, 2, 11, 5, 10, 10, 5, 10, 10, 5, 10, 10, 3, 14, 10, 6, 6, 6, 6, 6, 6, 3, 14, 10, 6, 6, 6, 6, 6, 6, 9, 11, 10, 10, 10, 10, 10, 10, 12, 12, 12, 10, 10, 10, 10, 10, 10, 10, 10, 10, 10, 10, 10, 10, 10, 12, 10, 10]
def lTail : List Nat := [0, 8, 0, 32, 0, 32, 0, 8, 8, 0, 8, 8, 0, 8, 8, 0, 6, 6, 0, 0, 0, 0, 0, 0, 0, 6, 6, 0, 0, 0, 0, 0, 0, 0, 656, 656, 15744, 24, 40, 40, 40, 40, 40, 40, 24, 24, 3, 12, 12, 12, 12, 12, 8, 8, 8, 192, 8, 8, 8, 48, 8]
def K0 (a : Nat) : Nat := if a < 4 then ([8, 0, 7, 13] : List Nat).getD a 0 else if a < 204 then ([4, 2, 11, 2, 11] : List Nat).getD ((a - 4) % 5) 0 else kTail.getD (a - 204) 0
def L0 (a : Nat) : Nat := if a < 4 then ([0, 0, 0, 40] : List Nat).getD a 0 else if a < 204 then ([0, 0, 32, 0, 32] : List Nat).getD ((a - 4) % 5) 0 else lTail.getD (a - 204) 0
def immTab : List (Nat × Nat × Nat) := [(512, 0, 1), (513, 0, 2), (514, 0, 204), (515, 0, 208), (516, 0, 210), (448, 2, 3), (64, 204, 205), (65, 204, 206), (128, 206, 207), (128, 208, 209), (320, 210, 211), (321, 210, 212), (320, 213, 214), (321, 213, 215), (320, 216, 217), (321, 216, 218), (192, 219, 220), (194, 219, 221), (192, 228, 229), (194, 228, 230)]
/-- the slots of the first c cells -/
def szs : Nat → Nat
  | 0 => 0
  | c + 1 => szs c + (if K0 c < 10 then gNf (K0 c) else L0 c)
def gnn (S : gS) : Nat × Nat := (gn S, gsl S)
def Imm (S : gS) : Prop := gK S = K0 ∧ gln S = L0 ∧ gnn S = (265, szs 265) ∧ (∀ q ∈ immTab, gfR S q.1 q.2.1 = some q.2.2) ∧ (∀ p, p < 40 → gfR S 128 (5 + 5 * p) = some (6 + 5 * p) ∧ gfR S 128 (7 + 5 * p) = some (8 + 5 * p)) ∧ (∀ k, k < 6 → gaR S 220 k = some (222 + k) ∧ gaR S 229 k = some (231 + k)) ∧ ∀ q ∈ refTab, gfR S q.1 237 = some q.2.1
theorem Imm.is {S : gS} (h : Imm S) {a ci : Nat} (ha : a < 265) (hk : K0 a = ci) : g_is S ci a := ⟨by rw [h.1]; exact hk, by show a < (gnn S).1; rw [h.2.2.1]; exact ha⟩
theorem Imm.ln {S : gS} (h : Imm S) {a n : Nat} (hk : L0 a = n) : gln S a = n := by rw [h.2.1]; exact hk
theorem Imm.r {S : gS} (h : Imm S) (q : Nat × Nat × Nat) (hq : q ∈ immTab) : gfR S q.1 q.2.1 = some q.2.2 := h.2.2.2.1 q hq
theorem Imm.of {S S1 : gS} (h : Imm S) (h1 : gK S1 = gK S) (h2 : gln S1 = gln S) (h3 : gnn S1 = gnn S) (h4 : gfR S1 = gfR S) (h5 : gaR S1 = gaR S) : Imm S1 := by
  unfold Imm
  rw [h1, h2, h3, h4, h5]
  exact h
theorem K0_row : ∀ p, p < 40 → K0 (4 + 5 * p) = 4 ∧ K0 (5 + 5 * p) = 2 ∧ K0 (6 + 5 * p) = 11 ∧ K0 (7 + 5 * p) = 2 ∧ K0 (8 + 5 * p) = 11 := by decide +kernel
theorem L0_row : ∀ p, p < 40 → L0 (6 + 5 * p) = 32 ∧ L0 (8 + 5 * p) = 32 := by decide +kernel
theorem refTab_ok : ∀ q ∈ refTab, K0 q.2.1 = q.2.2.1 ∧ L0 q.2.1 = q.2.2.2 ∧ q.2.1 < 265 := by decide +kernel
theorem Imm.ref {S : gS} (h : Imm S) : RefOk S := by
  refine ⟨h.is (by decide) (by decide), fun q hq => ?_⟩
  obtain ⟨h1, h2, h3⟩ := refTab_ok q hq
  exact ⟨h.2.2.2.2.2.2 q hq, h.is h3 h1, h.ln h2⟩
theorem Imm.fa {S : gS} (h : Imm S) {p : Nat} (hp : p < 40) : FormAt S (5 + 5 * p) (6 + 5 * p) := by
  obtain ⟨k1, k2, k3, k4, k5⟩ := K0_row p hp
  exact ⟨h.is (by omega) k2, (h.2.2.2.2.1 p hp).1, h.is (by omega) k3, h.ln (L0_row p hp).1⟩
theorem Imm.fb {S : gS} (h : Imm S) {p : Nat} (hp : p < 40) : FormAt S (7 + 5 * p) (8 + 5 * p) := by
  obtain ⟨k1, k2, k3, k4, k5⟩ := K0_row p hp
  exact ⟨h.is (by omega) k4, (h.2.2.2.2.1 p hp).2, h.is (by omega) k5, h.ln (L0_row p hp).2⟩
theorem Imm.letters {S : gS} (h : Imm S) : FormAt S 206 207 := ⟨h.is (by decide) (by decide), h.r (128, 206, 207) (by decide), h.is (by decide) (by decide), h.ln (by decide)⟩
theorem Imm.seenF {S : gS} (h : Imm S) : FormAt S 208 209 := ⟨h.is (by decide) (by decide), h.r (128, 208, 209) (by decide), h.is (by decide) (by decide), h.ln (by decide)⟩
/-- a schema of the class: at 210, 213, 216 -/
def isSch (s : Nat) : Prop := s = 210 ∨ s = 213 ∨ s = 216
def isMig (p : Nat) : Prop := p = 219 ∨ p = 228
def SchAt (S : gS) (s : Nat) : Prop := g_is S 5 s ∧ gfR S 320 s = some (s + 1) ∧ gfR S 321 s = some (s + 2) ∧ g_is S 10 (s + 1) ∧ gln S (s + 1) = 8 ∧ g_is S 10 (s + 2) ∧ gln S (s + 2) = 8
theorem Imm.sch {S : gS} (h : Imm S) {s : Nat} (hs : isSch s) : SchAt S s := by
  rcases hs with rfl | rfl | rfl
  · exact ⟨h.is (by decide) (by decide), h.r (320, 210, 211) (by decide), h.r (321, 210, 212) (by decide), h.is (by decide) (by decide), h.ln (by decide), h.is (by decide) (by decide), h.ln (by decide)⟩
  · exact ⟨h.is (by decide) (by decide), h.r (320, 213, 214) (by decide), h.r (321, 213, 215) (by decide), h.is (by decide) (by decide), h.ln (by decide), h.is (by decide) (by decide), h.ln (by decide)⟩
  · exact ⟨h.is (by decide) (by decide), h.r (320, 216, 217) (by decide), h.r (321, 216, 218) (by decide), h.is (by decide) (by decide), h.ln (by decide), h.is (by decide) (by decide), h.ln (by decide)⟩
def MigAt (S : gS) (p : Nat) : Prop := g_is S 3 p ∧ gfR S 192 p = some (p + 1) ∧ gfR S 194 p = some (p + 2) ∧ g_is S 14 (p + 1) ∧ gln S (p + 1) = 6 ∧ g_is S 10 (p + 2) ∧ gln S (p + 2) = 6 ∧ (∀ k, k < 6 → gaR S (p + 1) k = some (p + 3 + k)) ∧ ∀ k, k < 6 → g_is S 6 (p + 3 + k)
theorem K0_step : ∀ k, k < 6 → K0 (222 + k) = 6 ∧ K0 (231 + k) = 6 := by decide +kernel
theorem Imm.mig {S : gS} (h : Imm S) {p : Nat} (hp : isMig p) : MigAt S p := by
  rcases hp with rfl | rfl
  · exact ⟨h.is (by decide) (by decide), h.r (192, 219, 220) (by decide), h.r (194, 219, 221) (by decide), h.is (by decide) (by decide), h.ln (by decide), h.is (by decide) (by decide), h.ln (by decide), fun k hk => (h.2.2.2.2.2.1 k hk).1, fun k hk => h.is (by omega) (K0_step k hk).1⟩
  · exact ⟨h.is (by decide) (by decide), h.r (192, 228, 229) (by decide), h.r (194, 228, 230) (by decide), h.is (by decide) (by decide), h.ln (by decide), h.is (by decide) (by decide), h.ln (by decide), fun k hk => (h.2.2.2.2.2.1 k hk).2, fun k hk => h.is (by omega) (K0_step k hk).2⟩
/-! ===== what stays at an address ===== -/
def EqA (S S1 : gS) (a : Nat) : Prop := (∀ f, gfI S1 f a = gfI S f a) ∧ (∀ f, gfL S1 f a = gfL S f a) ∧ (∀ f, gfR S1 f a = gfR S f a) ∧ gaI S1 a = gaI S a ∧ gaL S1 a = gaL S a ∧ gaR S1 a = gaR S a
/-- nothing changes outside lo .. hi -/
def Fr (lo hi : Nat) (S S1 : gS) : Prop := ∀ a, (a < lo ∨ hi ≤ a) → EqA S S1 a
theorem EqA.refl {S : gS} {a : Nat} : EqA S S a := ⟨fun _ => rfl, fun _ => rfl, fun _ => rfl, rfl, rfl, rfl⟩
theorem EqA.trans {S S1 S2 : gS} {a : Nat} (h : EqA S S1 a) (g : EqA S1 S2 a) : EqA S S2 a := ⟨fun f => (g.1 f).trans (h.1 f), fun f => (g.2.1 f).trans (h.2.1 f), fun f => (g.2.2.1 f).trans (h.2.2.1 f), g.2.2.2.1.trans h.2.2.2.1, g.2.2.2.2.1.trans h.2.2.2.2.1, g.2.2.2.2.2.trans h.2.2.2.2.2⟩
theorem Fr.refl {lo hi : Nat} {S : gS} : Fr lo hi S S := fun _ _ => EqA.refl
theorem Fr.trans {lo hi : Nat} {S S1 S2 : gS} (h : Fr lo hi S S1) (g : Fr lo hi S1 S2) : Fr lo hi S S2 := fun a ha => (h a ha).trans (g a ha)
theorem Fr.mono {lo hi lo2 hi2 : Nat} {S S1 : gS} (h : Fr lo hi S S1) (h1 : lo2 ≤ lo) (h2 : hi ≤ hi2) : Fr lo2 hi2 S S1 := fun a ha => h a (by omega)
theorem EqA.pI {S : gS} {f b a : Nat} {v : Int32} (h : a ≠ b) : EqA S (g_pI S f b v) a := ⟨fun g => by rw [q_pI_fI]; exact g_up_n h, fun _ => rfl, fun _ => rfl, rfl, rfl, rfl⟩
theorem EqA.pL {S : gS} {f b a : Nat} {v : Int64} (h : a ≠ b) : EqA S (g_pL S f b v) a := ⟨fun _ => rfl, fun g => by rw [q_pL_fL]; exact g_up_n h, fun _ => rfl, rfl, rfl, rfl⟩
theorem EqA.pR {S : gS} {f b a : Nat} {v : Option Nat} (h : a ≠ b) : EqA S (g_pR S f b v) a := ⟨fun _ => rfl, fun _ => rfl, fun g => by rw [q_pR_fR]; exact g_up_n h, rfl, rfl, rfl⟩
theorem EqA.rI {S : gS} {b a : Nat} {r : Nat → Int32} (h : a ≠ b) : EqA S (g_rI S b r) a := ⟨fun _ => rfl, fun _ => rfl, fun _ => rfl, by rw [q_rI_aI]; exact g_row_n h, rfl, rfl⟩
theorem EqA.rL {S : gS} {b a : Nat} {r : Nat → Int64} (h : a ≠ b) : EqA S (g_rL S b r) a := ⟨fun _ => rfl, fun _ => rfl, fun _ => rfl, rfl, by rw [q_rL_aL]; exact g_row_n h, rfl⟩
theorem EqA.rR {S : gS} {b a : Nat} {r : Nat → Option Nat} (h : a ≠ b) : EqA S (g_rR S b r) a := ⟨fun _ => rfl, fun _ => rfl, fun _ => rfl, rfl, rfl, by rw [q_rR_aR]; exact g_row_n h⟩
theorem Fr.pI {lo hi : Nat} {S : gS} {f b : Nat} {v : Int32} (h1 : lo ≤ b) (h2 : b < hi) : Fr lo hi S (g_pI S f b v) := fun a ha => EqA.pI (by omega)
theorem Fr.pL {lo hi : Nat} {S : gS} {f b : Nat} {v : Int64} (h1 : lo ≤ b) (h2 : b < hi) : Fr lo hi S (g_pL S f b v) := fun a ha => EqA.pL (by omega)
theorem Fr.pR {lo hi : Nat} {S : gS} {f b : Nat} {v : Option Nat} (h1 : lo ≤ b) (h2 : b < hi) : Fr lo hi S (g_pR S f b v) := fun a ha => EqA.pR (by omega)
theorem Fr.rI {lo hi : Nat} {S : gS} {b : Nat} {r : Nat → Int32} (h1 : lo ≤ b) (h2 : b < hi) : Fr lo hi S (g_rI S b r) := fun a ha => EqA.rI (by omega)
theorem Fr.rL {lo hi : Nat} {S : gS} {b : Nat} {r : Nat → Int64} (h1 : lo ≤ b) (h2 : b < hi) : Fr lo hi S (g_rL S b r) := fun a ha => EqA.rL (by omega)
theorem Fr.rR {lo hi : Nat} {S : gS} {b : Nat} {r : Nat → Option Nat} (h1 : lo ≤ b) (h2 : b < hi) : Fr lo hi S (g_rR S b r) := fun a ha => EqA.rR (by omega)
/-- Imm through what changes references -/
theorem Imm.pR {S : gS} (h : Imm S) {f a : Nat} {v : Option Nat} (hf : f = 518 ∨ f = 519 ∨ f = 520 ∨ f = 521 ∨ f = 259 ∨ f = 260) : Imm (g_pR S f a v) := by
  obtain ⟨h1, h2, h3, h4, h5, h6, h7⟩ := h
  have hi : ∀ q ∈ immTab, q.1 ≠ 518 ∧ q.1 ≠ 519 ∧ q.1 ≠ 520 ∧ q.1 ≠ 521 ∧ q.1 ≠ 259 ∧ q.1 ≠ 260 := by decide
  have hr : ∀ q ∈ refTab, 576 ≤ q.1 := by decide
  refine ⟨h1, h2, h3, fun q hq => ?_, fun p hp => ?_, h6, fun q hq => ?_⟩
  · rw [q_pR_fR, g_up_f (by have := hi q hq; omega)]; exact h4 q hq
  · rw [q_pR_fR, g_up_f (by omega), g_up_f (by omega)]; exact h5 p hp
  · rw [q_pR_fR, g_up_f (by have := hr q hq; omega)]; exact h7 q hq
theorem Imm.rR {S : gS} (h : Imm S) {r : Nat → Option Nat} : Imm (g_rR S 3 r) := by
  obtain ⟨h1, h2, h3, h4, h5, h6, h7⟩ := h
  refine ⟨h1, h2, h3, h4, h5, fun k hk => ?_, h7⟩
  rw [q_rR_aR, g_row_n (by decide), g_row_n (by decide)]
  exact h6 k hk
