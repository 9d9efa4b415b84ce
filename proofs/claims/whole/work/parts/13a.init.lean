/-! ===== the constructors ===== -/
abbrev zI : Nat → Nat → Int32 := fun _ _ => 0
abbrev zL : Nat → Nat → Int64 := fun _ _ => 0
def Bn (φ : Nat → Nat → Int32) (S : gS) (c : Nat) : Prop := gn S = c ∧ gsl S = szs c ∧ (∀ a, gK S a = if a < c then K0 a else 0) ∧ (∀ a, gln S a = if a < c then L0 a else 0) ∧ gfI S = φ ∧ gfL S = zL ∧ gaI S = zI ∧ gaL S = zL
theorem Bn.al {φ : Nat → Nat → Int32} {S : gS} {c ci ln s : Nat} (h : Bn φ S c) (hk : K0 c = ci) (hl : L0 c = ln) (hs : (if K0 c < 10 then gNf (K0 c) else L0 c) = s) (hφ : ∀ f, φ f c = 0) : Bn φ (g_al S ci ln s) (c + 1) := by
  obtain ⟨h1, h2, h3, h4, h5, h6, h7, h8⟩ := h
  refine ⟨?_, ?_, fun a => ?_, fun a => ?_, ?_, ?_, ?_, ?_⟩
  · show gn S + 1 = c + 1
    rw [h1]
  · show gsl S + s = szs c + (if K0 c < 10 then gNf (K0 c) else L0 c)
    rw [h2, hs]
  · show (if a = gn S then ci else gK S a) = _
    rw [h1, h3]
    by_cases e : a = c
    · subst e
      rw [if_pos rfl, if_pos (by omega)]; exact hk.symm
    · rw [if_neg e]
      by_cases e2 : a < c
      · rw [if_pos e2, if_pos (by omega)]
      · rw [if_neg e2, if_neg (by omega)]
  · show (if a = gn S then ln else gln S a) = _
    rw [h1, h4]
    by_cases e : a = c
    · subst e
      rw [if_pos rfl, if_pos (by omega)]; exact hl.symm
    · rw [if_neg e]
      by_cases e2 : a < c
      · rw [if_pos e2, if_pos (by omega)]
      · rw [if_neg e2, if_neg (by omega)]
  · show g_col (gfI S) (gn S) 0 = φ
    rw [h1, h5]
    funext f a
    unfold g_col
    by_cases e : a = c
    · rw [if_pos e, e]; exact (hφ f).symm
    · rw [if_neg e]
  · show g_col (gfL S) (gn S) 0 = zL
    rw [h6]
    funext f a
    unfold g_col
    split <;> rfl
  · show g_row (gaI S) (gn S) (fun _ => 0) = zI
    rw [h7]
    funext a
    unfold g_row
    split <;> rfl
  · show g_row (gaL S) (gn S) (fun _ => 0) = zL
    rw [h8]
    funext a
    unfold g_row
    split <;> rfl
theorem Bn.is {φ : Nat → Nat → Int32} {S : gS} {c a ci : Nat} (h : Bn φ S c) (ha : a < c) (hk : K0 a = ci) : g_is S ci a := ⟨by rw [h.2.2.1, if_pos ha]; exact hk, by rw [h.1]; exact ha⟩
theorem Bn.ln {φ : Nat → Nat → Int32} {S : gS} {c a n : Nat} (h : Bn φ S c) (ha : a < c) (hk : L0 a = n) : gln S a = n := by rw [h.2.2.2.1, if_pos ha]; exact hk
def HR (R : Nat → Nat → Option Nat) (S : gS) : Prop := ∀ f a v, R f a = some v → a < gn S ∧ gfR S f a = some v
theorem HR.al {R : Nat → Nat → Option Nat} {S : gS} {ci ln s : Nat} (h : HR R S) : HR R (g_al S ci ln s) := by
  intro f a v e
  obtain ⟨h1, h2⟩ := h f a v e
  refine ⟨?_, ?_⟩
  · show a < gn S + 1
    omega
  · show g_col (gfR S) (gn S) none f a = some v
    unfold g_col
    rw [if_neg (by omega)]
    exact h2
theorem HR.pR {R : Nat → Nat → Option Nat} {S : gS} {f a v : Nat} (h : HR R S) (ha : a < gn S) : HR (g_up R f a (some v)) (g_pR S f a (some v)) := by
  intro g b w e
  rw [q_pR_fR, q_pR_n]
  unfold g_up at e ⊢
  by_cases c : g = f ∧ b = a
  · rw [if_pos c] at e ⊢
    exact ⟨by rw [c.2]; exact ha, e⟩
  · rw [if_neg c] at e ⊢
    exact h g b w e
def HA (A : Nat → Nat → Option Nat) (S : gS) : Prop := ∀ b j v, A b j = some v → b < gn S ∧ gaR S b j = some v
theorem HA.al {A : Nat → Nat → Option Nat} {S : gS} {ci ln s : Nat} (h : HA A S) : HA A (g_al S ci ln s) := by
  intro f a v e
  obtain ⟨h1, h2⟩ := h f a v e
  refine ⟨?_, ?_⟩
  · show f < gn S + 1
    omega
  · show g_row (gaR S) (gn S) (fun _ => none) f a = some v
    rw [g_row_n (by omega)]
    exact h2
theorem HA.rR {A : Nat → Nat → Option Nat} {S : gS} {b j v : Nat} (h : HA A S) (hb : b < gn S) : HA (g_up A b j (some v)) (g_rR S b (va_up (gaR S b) j (some v))) := by
  intro g i w e
  rw [q_rR_aR, q_rR_n]
  unfold g_up at e
  by_cases c : g = b ∧ i = j
  · rw [if_pos c] at e
    obtain ⟨rfl, rfl⟩ := c
    rw [g_row_s]
    unfold va_up
    rw [if_pos rfl]
    exact ⟨hb, e⟩
  · rw [if_neg c] at e
    obtain ⟨h1, h2⟩ := h g i w e
    refine ⟨h1, ?_⟩
    by_cases d : g = b
    · subst d
      rw [g_row_s]
      unfold va_up
      rw [if_neg (fun q => c ⟨rfl, q⟩)]
      exact h2
    · rw [g_row_n d]; exact h2
/-- the first k rows -/
def RW (S : gS) (k : Nat) : Prop := ∀ p, p < k → 9 + 5 * p ≤ gn S ∧ gfR S 259 (4 + 5 * p) = some (5 + 5 * p) ∧ gfR S 260 (4 + 5 * p) = some (7 + 5 * p) ∧ gfR S 128 (5 + 5 * p) = some (6 + 5 * p) ∧ gfR S 128 (7 + 5 * p) = some (8 + 5 * p) ∧ gaR S 3 p = some (4 + 5 * p)
theorem RW.al {S : gS} {k ci ln s : Nat} (h : RW S k) (h3 : 3 < gn S ∨ k = 0) : RW (g_al S ci ln s) k := by
  intro p hp
  obtain ⟨h1, h2, h4, h5, h6, h7⟩ := h p hp
  have c : ∀ f a v, a < gn S → gfR S f a = some v → gfR (g_al S ci ln s) f a = some v := by
    intro f a v ha hv
    show g_col (gfR S) (gn S) none f a = some v
    unfold g_col
    rw [if_neg (by omega)]
    exact hv
  refine ⟨?_, c _ _ _ (by omega) h2, c _ _ _ (by omega) h4, c _ _ _ (by omega) h5, c _ _ _ (by omega) h6, ?_⟩
  · show 9 + 5 * p ≤ gn S + 1
    omega
  · show g_row (gaR S) (gn S) (fun _ => none) 3 p = _
    rw [g_row_n (by omega)]
    exact h7
theorem RW.pR {S : gS} {k f a : Nat} {v : Option Nat} (h : RW S k) (ha : a < 4 ∨ 4 + 5 * k ≤ a) : RW (g_pR S f a v) k := by
  intro p hp
  obtain ⟨h1, h2, h4, h5, h6, h7⟩ := h p hp
  rw [q_pR_fR, q_pR_aR, q_pR_n]
  unfold g_up
  rw [if_neg (by omega), if_neg (by omega), if_neg (by omega), if_neg (by omega)]
  exact ⟨h1, h2, h4, h5, h6, h7⟩
theorem RW.rR {S : gS} {k b : Nat} {r : Nat → Option Nat} (h : RW S k) (hb : b ≠ 3) : RW (g_rR S b r) k := by
  intro p hp
  obtain ⟨h1, h2, h4, h5, h6, h7⟩ := h p hp
  rw [q_rR_fR, q_rR_aR, q_rR_n, g_row_n (Ne.symm hb)]
  exact ⟨h1, h2, h4, h5, h6, h7⟩
def QQ (φ : Nat → Nat → Int32) (R A : Nat → Nat → Option Nat) (k : Nat) (S : gS) (c : Nat) : Prop := Bn φ S c ∧ HR R S ∧ HA A S ∧ RW S k
theorem QQ.new {φ : Nat → Nat → Int32} {R A : Nat → Nat → Option Nat} {k c ci : Nat} {S : gS} (h : QQ φ R A k S c) (hk : K0 c = ci) (hc : ci < 10) (hl : L0 c = 0) (hφ : ∀ f, φ f c = 0) (h3 : 3 < c ∨ k = 0) : ∃ S1, (∀ (α : Type) (F : Nat → gS → Option α), g_new S ci F = F c S1) ∧ QQ φ R A k S1 (c + 1) := by
  refine ⟨g_al S ci 0 (gNf ci), fun α F => ?_, h.1.al hk hl (by rw [hk, if_pos hc]) hφ, h.2.1.al, h.2.2.1.al, h.2.2.2.al (by rw [h.1.1]; exact h3)⟩
  unfold g_new
  rw [h.1.1]
theorem QQ.nwa {φ : Nat → Nat → Int32} {R A : Nat → Nat → Option Nat} {k c ci n : Nat} {S : gS} (h : QQ φ R A k S c) {x : Int32} (hx : x = nI n) (hn : n ≤ 1048576) (hk : K0 c = ci) (hc : 10 ≤ ci) (hl : L0 c = n) (hφ : ∀ f, φ f c = 0) (h3 : 3 < c ∨ k = 0) : ∃ S1, (∀ (α : Type) (F : Nat → gS → Option α), g_nwa S ci x F = F c S1) ∧ QQ φ R A k S1 (c + 1) := by
  refine ⟨g_al S ci n n, fun α F => ?_, h.1.al hk hl (by rw [hk, if_neg (by omega)]; exact hl) hφ, h.2.1.al, h.2.2.1.al, h.2.2.2.al (by rw [h.1.1]; exact h3)⟩
  unfold g_nwa
  rw [hx, h.1.1, nI_clamp (by omega), if_neg]
  intro q
  rcases q with q | q
  · rw [show (0 : Int32) = nI 0 from rfl, nI_ltI (by omega) (by omega)] at q
    omega
  · omega
theorem QQ.putR {φ : Nat → Nat → Int32} {R A : Nat → Nat → Option Nat} {k c ci a : Nat} {S : gS} (h : QQ φ R A k S c) (j v : Nat) (ha : a < c) (hk : K0 a = ci) (hr : a < 4 ∨ 4 + 5 * k ≤ a) : ∃ S1, (∀ (α : Type) (F : gS → Option α), g_putR S ci j a v F = F S1) ∧ QQ φ (g_up R (64 * ci + j) a (some v)) A k S1 c := by
  refine ⟨g_pR S (64 * ci + j) a (some v), fun α F => ?_, h.1, h.2.1.pR (by rw [h.1.1]; exact ha), h.2.2.1, h.2.2.2.pR hr⟩
  unfold g_putR
  rw [g_ck_t (h.1.is ha hk)]
theorem QQ.putI {φ : Nat → Nat → Int32} {R A : Nat → Nat → Option Nat} {k c ci a : Nat} {S : gS} (h : QQ φ R A k S c) (j : Nat) (v : Int32) (ha : a < c) (hk : K0 a = ci) : ∃ S1, (∀ (α : Type) (F : gS → Option α), g_putI S ci j a v F = F S1) ∧ QQ (g_up φ (64 * ci + j) a v) R A k S1 c := by
  obtain ⟨⟨h1, h2, h3, h4, h5, h6⟩, h7, h8, h9⟩ := h
  refine ⟨g_pI S (64 * ci + j) a v, fun α F => ?_, ⟨h1, h2, h3, h4, by rw [q_pI_fI, h5], h6⟩, h7, h8, h9⟩
  unfold g_putI
  rw [g_ck_t (Bn.is ⟨h1, h2, h3, h4, h5, h6⟩ ha hk)]
theorem QQ.stR {φ : Nat → Nat → Int32} {R A : Nat → Nat → Option Nat} {k c ci ce b i v : Nat} {S : gS} (h : QQ φ R A k S c) (hb : b < c) (hk : K0 b = ci) (hv : v < c) (hkv : K0 v = ce) (hi : i < L0 b) (hL : L0 b < 2 ^ 31) (hb3 : b ≠ 3) : ∃ S1, (∀ (α : Type) (F : gS → Option α), g_stR S ci ce b (nI i) v F = F S1) ∧ QQ φ R (g_up A b i (some v)) k S1 c := by
  refine ⟨g_rR S b (va_up (gaR S b) i (some v)), fun α F => ?_, h.1, h.2.1, h.2.2.1.rR (by rw [h.1.1]; exact hb), h.2.2.2.rR hb3⟩
  unfold g_stR
  rw [g_ck_t (h.1.is hb hk), g_ck_t (h.1.is hv hkv), h.1.ln hb rfl, g_ix_t hi hL, nI_clamp (by omega)]
theorem QQ.ref {φ : Nat → Nat → Int32} {R A : Nat → Nat → Option Nat} {k c f a v : Nat} {S : gS} (h : QQ φ R A k S c) (hR : R f a = some v) : gfR S f a = some v := (h.2.1 f a v hR).2
/-! the classes -/
theorem x2_init {φ : Nat → Nat → Int32} {R A : Nat → Nat → Option Nat} {k c a : Nat} {S : gS} (h : QQ φ R A k S c) (ha : a < c) (hk : K0 a = 2) (hc : K0 c = 11) (hl : L0 c = 32) (hφ : ∀ f, φ f c = 0) (h3 : 3 < c ∨ k = 0) (hr : a < 4 ∨ 4 + 5 * k ≤ a) : ∃ S1, f_X2_init S a = some S1 ∧ QQ φ (g_up R 128 a (some c)) A k S1 (c + 1) := by
  obtain ⟨S1, e1, q1⟩ := h.nwa (x := 32) (n := 32) rfl (by decide) hc (by decide) hl hφ h3
  obtain ⟨S2, e2, q2⟩ := q1.putR 0 c (show a < c + 1 by omega) hk hr
  refine ⟨S2, ?_, q2⟩
  unfold f_X2_init
  rw [e1, e2]
theorem x1_init {φ : Nat → Nat → Int32} {R A : Nat → Nat → Option Nat} {k c a : Nat} {S : gS} (h : QQ φ R A k S c) (ha : a < c) (hk : K0 a = 1) (k0 : K0 c = 11) (l0 : L0 c = 8) (k1 : K0 (c + 1) = 2) (l1 : L0 (c + 1) = 0) (k2 : K0 (c + 2) = 11) (l2 : L0 (c + 2) = 32) (hφ : ∀ f d, c ≤ d → φ f d = 0) (h3 : 3 < c) (hr : a < 4 ∨ 4 + 5 * k ≤ a) (hr1 : 4 + 5 * k ≤ c) : ∃ S1, f_X1_init S a = some S1 ∧ QQ φ (g_up (g_up (g_up R 64 a (some c)) 128 (c + 1) (some (c + 2))) 65 a (some (c + 1))) A k S1 (c + 3) := by
  obtain ⟨S1, e1, q1⟩ := h.nwa (x := 8) (n := 8) rfl (by decide) k0 (by decide) l0 (fun f => hφ f _ (by omega)) (Or.inl h3)
  obtain ⟨S2, e2, q2⟩ := q1.putR 0 c (show a < c + 1 by omega) hk hr
  obtain ⟨S3, e3, q3⟩ := q2.new k1 (by decide) l1 (fun f => hφ f _ (by omega)) (Or.inl (by omega))
  obtain ⟨S4, e4, q4⟩ := x2_init q3 (show c + 1 < c + 2 by omega) k1 k2 l2 (fun f => hφ f _ (by omega)) (Or.inl (by omega)) (Or.inr (by omega))
  obtain ⟨S5, e5, q5⟩ := q4.putR 1 (c + 1) (show a < c + 3 by omega) hk hr
  refine ⟨S5, ?_, q5⟩
  unfold f_X1_init g_cN
  rw [e1, e2, e3, e4, Option.bind_some, e5]
theorem x5_init {φ : Nat → Nat → Int32} {R A : Nat → Nat → Option Nat} {k c a : Nat} {S : gS} (h : QQ φ R A k S c) (ha : a < c) (hk : K0 a = 5) (k0 : K0 c = 10) (l0 : L0 c = 8) (k1 : K0 (c + 1) = 10) (l1 : L0 (c + 1) = 8) (hφ : ∀ f d, c ≤ d → φ f d = 0) (h3 : 3 < c) (hr : a < 4 ∨ 4 + 5 * k ≤ a) : ∃ S1, f_X5_init S a = some S1 ∧ QQ φ (g_up (g_up R 320 a (some c)) 321 a (some (c + 1))) A k S1 (c + 2) := by
  obtain ⟨S1, e1, q1⟩ := h.nwa (x := 8) (n := 8) rfl (by decide) k0 (by decide) l0 (fun f => hφ f _ (by omega)) (Or.inl h3)
  obtain ⟨S2, e2, q2⟩ := q1.putR 0 c (show a < c + 1 by omega) hk hr
  obtain ⟨S3, e3, q3⟩ := q2.nwa (x := 8) (n := 8) rfl (by decide) k1 (by decide) l1 (fun f => hφ f _ (by omega)) (Or.inl (by omega))
  obtain ⟨S4, e4, q4⟩ := q3.putR 1 (c + 1) (show a < c + 2 by omega) hk hr
  refine ⟨S4, ?_, q4⟩
  unfold f_X5_init
  rw [e1, e2, e3, e4]
theorem x3_loop {φ : Nat → Nat → Int32} {R : Nat → Nat → Option Nat} {k0 a arr : Nat} (hR : R 192 a = some arr) (hka : K0 a = 3) (hkr : K0 arr = 14) (hlr : L0 arr = 6) (haa : a < arr) (h3 : 3 < a) (hφ : ∀ f d, arr ≤ d → φ f d = 0) (hst : ∀ j, j < 6 → K0 (arr + 2 + j) = 6 ∧ L0 (arr + 2 + j) = 0) : ∀ (d k fu : Nat) (S : gS) (A : Nat → Nat → Option Nat), k + d = 6 → d < fu → QQ φ R A k0 S (arr + 2 + k) → (∀ j, j < k → A arr j = some (arr + 2 + j)) → ∃ S1 A1, l_X3_init_23 a fu S (nI k) = some S1 ∧ QQ φ R A1 k0 S1 (arr + 8) ∧ (∀ j, j < 6 → A1 arr j = some (arr + 2 + j)) ∧ ∀ b j, b ≠ arr → A1 b j = A b j := by
  intro d
  induction d with
  | zero =>
    intro k fu S A hk hf hq hA
    obtain ⟨fu, rfl⟩ : ∃ m, fu = m + 1 := ⟨fu - 1, by omega⟩
    have : k = 6 := by omega
    subst this
    exact ⟨S, A, by rw [l_X3_init_23, if_pos (by decide)], hq, hA, fun _ _ _ => rfl⟩
  | succ d ih =>
    intro k fu S A hk hf hq hA
    obtain ⟨fu, rfl⟩ : ∃ m, fu = m + 1 := ⟨fu - 1, by omega⟩
    obtain ⟨s1, s2⟩ := hst k (by omega)
    obtain ⟨S1, e1, q1⟩ := hq.new s1 (by decide) s2 (fun f => hφ f _ (by omega)) (Or.inl (by omega))
    obtain ⟨S2, e2, q2⟩ := q1.stR (ce := 6) (i := k) (v := arr + 2 + k) (show arr < arr + 2 + k + 1 by omega) hkr (by omega) s1 (by rw [hlr]; omega) (by rw [hlr]; decide) (by omega)
    obtain ⟨S3, A3, e3, q3, q4, q5⟩ := ih (k + 1) fu S2 (g_up A arr k (some (arr + 2 + k))) (by omega) (by omega) q2 (fun j hj => by
      unfold g_up
      by_cases c : j = k
      · subst c; rw [if_pos ⟨rfl, rfl⟩]
      · rw [if_neg (fun q => c q.2)]; exact hA j (by omega))
    refine ⟨S3, A3, ?_, q3, q4, fun b j hb => (q5 b j hb).trans (if_neg (fun q => hb q.1))⟩
    rw [l_X3_init_23, if_neg (show ¬ (6 : Int32) ≤ nI k from nI_ge (b := 6) (by omega) (by omega))]
    unfold g_getR g_cN f_X6_init
    rw [g_ck_t (hq.1.is (by omega) hka), hq.ref hR, Option.bind_some, e1, Option.bind_some, e2, add1]
    exact e3
theorem x3_init {φ : Nat → Nat → Int32} {R A : Nat → Nat → Option Nat} {k0 a : Nat} {S : gS} (h : QQ φ R A k0 S (a + 1)) (hk : K0 a = 3) (k1 : K0 (a + 1) = 14) (l1 : L0 (a + 1) = 6) (k2 : K0 (a + 2) = 10) (l2 : L0 (a + 2) = 6) (hst : ∀ j, j < 6 → K0 (a + 1 + 2 + j) = 6 ∧ L0 (a + 1 + 2 + j) = 0) (hφ : ∀ f d, a < d → φ f d = 0) (h3 : 3 < a) (hr : 4 + 5 * k0 ≤ a) : ∃ S1 A1, f_X3_init S a = some S1 ∧ QQ φ (g_up (g_up R 192 a (some (a + 1))) 194 a (some (a + 2))) A1 k0 S1 (a + 9) ∧ (∀ j, j < 6 → A1 (a + 1) j = some (a + 3 + j)) ∧ ∀ b j, b ≠ a + 1 → A1 b j = A b j := by
  obtain ⟨S1, e1, q1⟩ := h.nwa (x := 6) (n := 6) rfl (by decide) k1 (by decide) l1 (fun f => hφ f _ (by omega)) (Or.inl (by omega))
  obtain ⟨S2, e2, q2⟩ := q1.putR 0 (a + 1) (show a < a + 1 + 1 by omega) hk (Or.inr hr)
  obtain ⟨S3, e3, q3⟩ := q2.nwa (x := 6) (n := 6) rfl (by decide) k2 (by decide) l2 (fun f => hφ f _ (by omega)) (Or.inl (by omega))
  obtain ⟨S4, e4, q4⟩ := q3.putR 2 (a + 1 + 1) (show a < a + 1 + 1 + 1 by omega) hk (Or.inr hr)
  obtain ⟨S5, A5, e5, q5, q6, q7⟩ := x3_loop (a := a) (arr := a + 1) (R := g_up (g_up R (64 * 3 + 0) a (some (a + 1))) (64 * 3 + 2) a (some (a + 1 + 1))) (by
    unfold g_up
    rw [if_neg (fun q => absurd q.1 (by decide)), if_pos ⟨rfl, rfl⟩]) hk k1 l1 (by omega) h3 (fun f d hd => hφ f d (by omega)) hst 6 0 100 S4 A (by omega) (by omega) q4 (fun j hj => by omega)
  refine ⟨S5, A5, ?_, q5, fun j hj => ?_, q7⟩
  · unfold f_X3_init
    rw [e1, e2, e3, e4]
    exact e5
  · rw [q6 j hj]
/-! the rows -/
theorem L0_rowz : ∀ p, p < 40 → L0 (4 + 5 * p) = 0 ∧ L0 (5 + 5 * p) = 0 ∧ L0 (7 + 5 * p) = 0 := by decide +kernel
theorem row_init {R A : Nat → Nat → Option Nat} {k : Nat} {S : gS} (h : QQ zI R A k S (4 + 5 * k)) (hk : k < 40) (hR : R 448 2 = some 3) (hd : ∀ f a v, R f a = some v → a < 4) (hA : ∀ b j, A b j = none) : ∃ S1, (∀ fu, l_X7_init_15 2 (fu + 1) S (nI k) = l_X7_init_15 2 fu S1 (nI (k + 1))) ∧ QQ zI R A (k + 1) S1 (4 + 5 * (k + 1)) := by
  obtain ⟨k1, k2, k3, k4, k5⟩ := K0_row k hk
  have lz : L0 (4 + 5 * k) = 0 ∧ L0 (5 + 5 * k) = 0 ∧ L0 (7 + 5 * k) = 0 := L0_rowz k hk
  obtain ⟨l1, l2⟩ := L0_row k hk
  have zz : ∀ c : Nat, ∀ f, zI f c = 0 := fun _ _ => rfl
  obtain ⟨S1, e1, q1⟩ := h.new k1 (by decide) lz.1 (zz _) (by omega)
  rw [show 4 + 5 * k + 1 = 5 + 5 * k by omega] at q1
  obtain ⟨S2, e2, q2⟩ := q1.new k2 (by decide) lz.2.1 (zz _) (by omega)
  rw [show 5 + 5 * k + 1 = 6 + 5 * k by omega] at q2
  obtain ⟨S3, e3, q3⟩ := x2_init q2 (show 5 + 5 * k < 6 + 5 * k by omega) k2 k3 l1 (zz _) (by omega) (by omega)
  rw [show 6 + 5 * k + 1 = 7 + 5 * k by omega] at q3
  obtain ⟨S4, e4, q4⟩ := q3.putR 3 (5 + 5 * k) (show 4 + 5 * k < 7 + 5 * k by omega) k1 (by omega)
  obtain ⟨S5, e5, q5⟩ := q4.new k4 (by decide) lz.2.2 (zz _) (by omega)
  rw [show 7 + 5 * k + 1 = 8 + 5 * k by omega] at q5
  obtain ⟨S6, e6, q6⟩ := x2_init q5 (show 7 + 5 * k < 8 + 5 * k by omega) k4 k5 l2 (zz _) (by omega) (by omega)
  rw [show 8 + 5 * k + 1 = 9 + 5 * k by omega] at q6
  obtain ⟨S7, e7, q7⟩ := q6.putR 4 (7 + 5 * k) (show 4 + 5 * k < 9 + 5 * k by omega) k1 (by omega)
  obtain ⟨b7, r7, a7, w7⟩ := q7
  refine ⟨g_rR S7 3 (va_up (gaR S7 3) k (some (4 + 5 * k))), fun fu => ?_, ?_, ?_, ?_, ?_⟩
  · rw [l_X7_init_15, if_neg (show ¬ (40 : Int32) ≤ nI k from nI_ge (b := 40) (by omega) (by omega))]
    unfold g_getR g_cN
    rw [g_ck_t (h.1.is (show 2 < 4 + 5 * k by omega) (show K0 2 = 7 by decide)), h.ref hR, Option.bind_some, e1]
    unfold f_X4_init g_cN
    rw [e2, e3, Option.bind_some, e4, e5, e6, Option.bind_some, e7, Option.bind_some]
    unfold g_stR
    rw [g_ck_t (b7.is (show 3 < 9 + 5 * k by omega) (show K0 3 = 13 by decide)), g_ck_t (b7.is (by omega) k1), b7.ln (show 3 < 9 + 5 * k by omega) (show L0 3 = 40 by decide), g_ix_t hk (by decide), nI_clamp (by omega), add1]
  · rw [show 4 + 5 * (k + 1) = 9 + 5 * k by omega]
    exact b7
  · intro f a v e
    have ha := hd f a v e
    obtain ⟨x1, x2⟩ := r7 f a v (by
      unfold g_up
      rw [if_neg (by omega), if_neg (by omega), if_neg (by omega), if_neg (by omega)]
      exact e)
    exact ⟨x1, x2⟩
  · intro b j v e
    rw [hA] at e
    cases e
  · intro p hp
    have gn7 : gn S7 = 9 + 5 * k := b7.1
    rw [q_rR_fR, q_rR_aR, q_rR_n, g_row_s]
    unfold va_up
    by_cases c : p = k
    · subst c
      rw [if_pos rfl]
      refine ⟨by omega, (r7 259 _ _ ?_).2, (r7 260 _ _ ?_).2, (r7 128 _ _ ?_).2, (r7 128 _ _ ?_).2, rfl⟩
      · unfold g_up
        rw [if_neg (by omega), if_neg (by omega), if_pos (by omega)]
      · unfold g_up
        rw [if_pos (by omega)]
      · unfold g_up
        rw [if_neg (by omega), if_neg (by omega), if_neg (by omega), if_pos (by omega)]
      · unfold g_up
        rw [if_neg (by omega), if_pos (by omega)]
    · rw [if_neg c]
      exact w7 p (by omega)
theorem rows_init {R A : Nat → Nat → Option Nat} (hR : R 448 2 = some 3) (hd : ∀ f a v, R f a = some v → a < 4) (hA : ∀ b j, A b j = none) : ∀ (d k fu : Nat) (S : gS), k + d = 40 → d < fu → QQ zI R A k S (4 + 5 * k) → ∃ S1, l_X7_init_15 2 fu S (nI k) = some S1 ∧ QQ zI R A 40 S1 204 := by
  intro d
  induction d with
  | zero =>
    intro k fu S hk hf h
    obtain ⟨fu, rfl⟩ : ∃ m, fu = m + 1 := ⟨fu - 1, by omega⟩
    have : k = 40 := by omega
    subst this
    exact ⟨S, by rw [l_X7_init_15, if_pos (by decide)], h⟩
  | succ d ih =>
    intro k fu S hk hf h
    obtain ⟨fu, rfl⟩ : ∃ m, fu = m + 1 := ⟨fu - 1, by omega⟩
    obtain ⟨S1, e1, q1⟩ := row_init h (by omega) hR hd hA
    rw [e1]
    exact ih (k + 1) fu S1 (by omega) (by omega) q1
