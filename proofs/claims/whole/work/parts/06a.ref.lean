/-! ===== the reference: where its arrays lie ===== -/
def refTab : List (Nat × Nat × Nat × Nat) := [(576, 238, 11, 656), (577, 239, 10, 656), (578, 240, 10, 15744), (579, 241, 10, 24), (580, 242, 10, 40), (581, 243, 10, 40), (583, 244, 10, 40), (584, 245, 12, 40), (585, 246, 12, 40), (586, 247, 12, 40), (587, 248, 10, 24), (588, 249, 10, 24), (589, 250, 10, 3), (592, 251, 10, 12), (593, 252, 10, 12), (594, 253, 10, 12), (595, 254, 10, 12), (596, 255, 10, 12), (599, 256, 10, 8), (600, 257, 10, 8), (601, 258, 10, 8), (602, 259, 10, 192), (604, 260, 10, 8), (610, 261, 10, 8), (611, 262, 12, 8), (612, 263, 10, 48), (613, 264, 10, 8)]
/-- the reference stands: its object, its arrays -/
def RefOk (S : gS) : Prop := g_is S 9 237 ∧ ∀ q ∈ refTab, gfR S q.1 237 = some q.2.1 ∧ g_is S q.2.2.1 q.2.1 ∧ gln S q.2.1 = q.2.2.2
theorem rf_numbers {S : gS} (h : RefOk S) : gfR S 576 237 = some 238 := (h.2 (576, 238, 11, 656) (by decide)).1
theorem ri_numbers {S : gS} (h : RefOk S) : g_is S 11 238 := (h.2 (576, 238, 11, 656) (by decide)).2.1
theorem rl_numbers {S : gS} (h : RefOk S) : gln S 238 = 656 := (h.2 (576, 238, 11, 656) (by decide)).2.2
theorem rf_lengths {S : gS} (h : RefOk S) : gfR S 577 237 = some 239 := (h.2 (577, 239, 10, 656) (by decide)).1
theorem ri_lengths {S : gS} (h : RefOk S) : g_is S 10 239 := (h.2 (577, 239, 10, 656) (by decide)).2.1
theorem rl_lengths {S : gS} (h : RefOk S) : gln S 239 = 656 := (h.2 (577, 239, 10, 656) (by decide)).2.2
theorem rf_chars {S : gS} (h : RefOk S) : gfR S 578 237 = some 240 := (h.2 (578, 240, 10, 15744) (by decide)).1
theorem ri_chars {S : gS} (h : RefOk S) : g_is S 10 240 := (h.2 (578, 240, 10, 15744) (by decide)).2.1
theorem rl_chars {S : gS} (h : RefOk S) : gln S 240 = 15744 := (h.2 (578, 240, 10, 15744) (by decide)).2.2
theorem rf_digits {S : gS} (h : RefOk S) : gfR S 579 237 = some 241 := (h.2 (579, 241, 10, 24) (by decide)).1
theorem ri_digits {S : gS} (h : RefOk S) : g_is S 10 241 := (h.2 (579, 241, 10, 24) (by decide)).2.1
theorem rl_digits {S : gS} (h : RefOk S) : gln S 241 = 24 := (h.2 (579, 241, 10, 24) (by decide)).2.2
theorem rf_keys {S : gS} (h : RefOk S) : gfR S 580 237 = some 242 := (h.2 (580, 242, 10, 40) (by decide)).1
theorem ri_keys {S : gS} (h : RefOk S) : g_is S 10 242 := (h.2 (580, 242, 10, 40) (by decide)).2.1
theorem rl_keys {S : gS} (h : RefOk S) : gln S 242 = 40 := (h.2 (580, 242, 10, 40) (by decide)).2.2
theorem rf_slots {S : gS} (h : RefOk S) : gfR S 581 237 = some 243 := (h.2 (581, 243, 10, 40) (by decide)).1
theorem ri_slots {S : gS} (h : RefOk S) : g_is S 10 243 := (h.2 (581, 243, 10, 40) (by decide)).2.1
theorem rl_slots {S : gS} (h : RefOk S) : gln S 243 = 40 := (h.2 (581, 243, 10, 40) (by decide)).2.2
theorem rf_sorts {S : gS} (h : RefOk S) : gfR S 583 237 = some 244 := (h.2 (583, 244, 10, 40) (by decide)).1
theorem ri_sorts {S : gS} (h : RefOk S) : g_is S 10 244 := (h.2 (583, 244, 10, 40) (by decide)).2.1
theorem rl_sorts {S : gS} (h : RefOk S) : gln S 244 = 40 := (h.2 (583, 244, 10, 40) (by decide)).2.2
theorem rf_lags {S : gS} (h : RefOk S) : gfR S 584 237 = some 245 := (h.2 (584, 245, 12, 40) (by decide)).1
theorem ri_lags {S : gS} (h : RefOk S) : g_is S 12 245 := (h.2 (584, 245, 12, 40) (by decide)).2.1
theorem rl_lags {S : gS} (h : RefOk S) : gln S 245 = 40 := (h.2 (584, 245, 12, 40) (by decide)).2.2
theorem rf_wasBehind {S : gS} (h : RefOk S) : gfR S 585 237 = some 246 := (h.2 (585, 246, 12, 40) (by decide)).1
theorem ri_wasBehind {S : gS} (h : RefOk S) : g_is S 12 246 := (h.2 (585, 246, 12, 40) (by decide)).2.1
theorem rl_wasBehind {S : gS} (h : RefOk S) : gln S 246 = 40 := (h.2 (585, 246, 12, 40) (by decide)).2.2
theorem rf_isUsed {S : gS} (h : RefOk S) : gfR S 586 237 = some 247 := (h.2 (586, 247, 12, 40) (by decide)).1
theorem ri_isUsed {S : gS} (h : RefOk S) : g_is S 12 247 := (h.2 (586, 247, 12, 40) (by decide)).2.1
theorem rl_isUsed {S : gS} (h : RefOk S) : gln S 247 = 40 := (h.2 (586, 247, 12, 40) (by decide)).2.2
theorem rf_names {S : gS} (h : RefOk S) : gfR S 587 237 = some 248 := (h.2 (587, 248, 10, 24) (by decide)).1
theorem ri_names {S : gS} (h : RefOk S) : g_is S 10 248 := (h.2 (587, 248, 10, 24) (by decide)).2.1
theorem rl_names {S : gS} (h : RefOk S) : gln S 248 = 24 := (h.2 (587, 248, 10, 24) (by decide)).2.2
theorem rf_types {S : gS} (h : RefOk S) : gfR S 588 237 = some 249 := (h.2 (588, 249, 10, 24) (by decide)).1
theorem ri_types {S : gS} (h : RefOk S) : g_is S 10 249 := (h.2 (588, 249, 10, 24) (by decide)).2.1
theorem rl_types {S : gS} (h : RefOk S) : gln S 249 = 24 := (h.2 (588, 249, 10, 24) (by decide)).2.2
theorem rf_columns {S : gS} (h : RefOk S) : gfR S 589 237 = some 250 := (h.2 (589, 250, 10, 3) (by decide)).1
theorem ri_columns {S : gS} (h : RefOk S) : g_is S 10 250 := (h.2 (589, 250, 10, 3) (by decide)).2.1
theorem rl_columns {S : gS} (h : RefOk S) : gln S 250 = 3 := (h.2 (589, 250, 10, 3) (by decide)).2.2
theorem rf_whats {S : gS} (h : RefOk S) : gfR S 592 237 = some 251 := (h.2 (592, 251, 10, 12) (by decide)).1
theorem ri_whats {S : gS} (h : RefOk S) : g_is S 10 251 := (h.2 (592, 251, 10, 12) (by decide)).2.1
theorem rl_whats {S : gS} (h : RefOk S) : gln S 251 = 12 := (h.2 (592, 251, 10, 12) (by decide)).2.2
theorem rf_stepNames {S : gS} (h : RefOk S) : gfR S 593 237 = some 252 := (h.2 (593, 252, 10, 12) (by decide)).1
theorem ri_stepNames {S : gS} (h : RefOk S) : g_is S 10 252 := (h.2 (593, 252, 10, 12) (by decide)).2.1
theorem rl_stepNames {S : gS} (h : RefOk S) : gln S 252 = 12 := (h.2 (593, 252, 10, 12) (by decide)).2.2
theorem rf_others {S : gS} (h : RefOk S) : gfR S 594 237 = some 253 := (h.2 (594, 253, 10, 12) (by decide)).1
theorem ri_others {S : gS} (h : RefOk S) : g_is S 10 253 := (h.2 (594, 253, 10, 12) (by decide)).2.1
theorem rl_others {S : gS} (h : RefOk S) : gln S 253 = 12 := (h.2 (594, 253, 10, 12) (by decide)).2.2
theorem rf_as {S : gS} (h : RefOk S) : gfR S 595 237 = some 254 := (h.2 (595, 254, 10, 12) (by decide)).1
theorem ri_as {S : gS} (h : RefOk S) : g_is S 10 254 := (h.2 (595, 254, 10, 12) (by decide)).2.1
theorem rl_as {S : gS} (h : RefOk S) : gln S 254 = 12 := (h.2 (595, 254, 10, 12) (by decide)).2.2
theorem rf_bs {S : gS} (h : RefOk S) : gfR S 596 237 = some 255 := (h.2 (596, 255, 10, 12) (by decide)).1
theorem ri_bs {S : gS} (h : RefOk S) : g_is S 10 255 := (h.2 (596, 255, 10, 12) (by decide)).2.1
theorem rl_bs {S : gS} (h : RefOk S) : gln S 255 = 12 := (h.2 (596, 255, 10, 12) (by decide)).2.2
theorem rf_draftA {S : gS} (h : RefOk S) : gfR S 599 237 = some 256 := (h.2 (599, 256, 10, 8) (by decide)).1
theorem ri_draftA {S : gS} (h : RefOk S) : g_is S 10 256 := (h.2 (599, 256, 10, 8) (by decide)).2.1
theorem rl_draftA {S : gS} (h : RefOk S) : gln S 256 = 8 := (h.2 (599, 256, 10, 8) (by decide)).2.2
theorem rf_draftB {S : gS} (h : RefOk S) : gfR S 600 237 = some 257 := (h.2 (600, 257, 10, 8) (by decide)).1
theorem ri_draftB {S : gS} (h : RefOk S) : g_is S 10 257 := (h.2 (600, 257, 10, 8) (by decide)).2.1
theorem rl_draftB {S : gS} (h : RefOk S) : gln S 257 = 8 := (h.2 (600, 257, 10, 8) (by decide)).2.2
theorem rf_letterCount {S : gS} (h : RefOk S) : gfR S 601 237 = some 258 := (h.2 (601, 258, 10, 8) (by decide)).1
theorem ri_letterCount {S : gS} (h : RefOk S) : g_is S 10 258 := (h.2 (601, 258, 10, 8) (by decide)).2.1
theorem rl_letterCount {S : gS} (h : RefOk S) : gln S 258 = 8 := (h.2 (601, 258, 10, 8) (by decide)).2.2
theorem rf_letterRow {S : gS} (h : RefOk S) : gfR S 602 237 = some 259 := (h.2 (602, 259, 10, 192) (by decide)).1
theorem ri_letterRow {S : gS} (h : RefOk S) : g_is S 10 259 := (h.2 (602, 259, 10, 192) (by decide)).2.1
theorem rl_letterRow {S : gS} (h : RefOk S) : gln S 259 = 192 := (h.2 (602, 259, 10, 192) (by decide)).2.2
theorem rf_seenTypes {S : gS} (h : RefOk S) : gfR S 604 237 = some 260 := (h.2 (604, 260, 10, 8) (by decide)).1
theorem ri_seenTypes {S : gS} (h : RefOk S) : g_is S 10 260 := (h.2 (604, 260, 10, 8) (by decide)).2.1
theorem rl_seenTypes {S : gS} (h : RefOk S) : gln S 260 = 8 := (h.2 (604, 260, 10, 8) (by decide)).2.2
theorem rf_origins {S : gS} (h : RefOk S) : gfR S 610 237 = some 261 := (h.2 (610, 261, 10, 8) (by decide)).1
theorem ri_origins {S : gS} (h : RefOk S) : g_is S 10 261 := (h.2 (610, 261, 10, 8) (by decide)).2.1
theorem rl_origins {S : gS} (h : RefOk S) : gln S 261 = 8 := (h.2 (610, 261, 10, 8) (by decide)).2.2
theorem rf_dropped {S : gS} (h : RefOk S) : gfR S 611 237 = some 262 := (h.2 (611, 262, 12, 8) (by decide)).1
theorem ri_dropped {S : gS} (h : RefOk S) : g_is S 12 262 := (h.2 (611, 262, 12, 8) (by decide)).2.1
theorem rl_dropped {S : gS} (h : RefOk S) : gln S 262 = 8 := (h.2 (611, 262, 12, 8) (by decide)).2.2
theorem rf_pastTypes {S : gS} (h : RefOk S) : gfR S 612 237 = some 263 := (h.2 (612, 263, 10, 48) (by decide)).1
theorem ri_pastTypes {S : gS} (h : RefOk S) : g_is S 10 263 := (h.2 (612, 263, 10, 48) (by decide)).2.1
theorem rl_pastTypes {S : gS} (h : RefOk S) : gln S 263 = 48 := (h.2 (612, 263, 10, 48) (by decide)).2.2
theorem rf_pasts {S : gS} (h : RefOk S) : gfR S 613 237 = some 264 := (h.2 (613, 264, 10, 8) (by decide)).1
theorem ri_pasts {S : gS} (h : RefOk S) : g_is S 10 264 := (h.2 (613, 264, 10, 8) (by decide)).2.1
theorem rl_pasts {S : gS} (h : RefOk S) : gln S 264 = 8 := (h.2 (613, 264, 10, 8) (by decide)).2.2
/-- the four arrays of values: numbers, lengths, chars, digits -/
def Q4 (S : gS) (nb : Nat → Int64) (ln ch dg : Nat → Int32) : gS := g_rL (g_rI (g_rI (g_rI S 241 dg) 240 ch) 239 ln) 238 nb
theorem g_row_c {α : Type} {f : Nat → Nat → α} {a b : Nat} {r1 r2 : Nat → α} (h : a ≠ b) : g_row (g_row f a r1) b r2 = g_row (g_row f b r2) a r1 := by
  funext x
  unfold g_row
  by_cases h1 : x = a
  · subst h1; simp [h]
  · simp [h1]
theorem g_rI_c {S : gS} {a b : Nat} {r1 r2 : Nat → Int32} (h : a ≠ b) : g_rI (g_rI S a r1) b r2 = g_rI (g_rI S b r2) a r1 := by
  have : g_row (gaI (g_rI S a r1)) b r2 = g_row (gaI (g_rI S b r2)) a r1 := g_row_c h
  unfold g_rI at this ⊢
  rw [this]
  rfl
theorem g_rIL {S : gS} {a b : Nat} {r1 : Nat → Int32} {r2 : Nat → Int64} : g_rI (g_rL S b r2) a r1 = g_rL (g_rI S a r1) b r2 := rfl
theorem Q4_nb {S : gS} {nb nb2 : Nat → Int64} {ln ch dg : Nat → Int32} : g_rL (Q4 S nb ln ch dg) 238 nb2 = Q4 S nb2 ln ch dg := g_rL_rL
theorem Q4_ln {S : gS} {nb : Nat → Int64} {ln ln2 ch dg : Nat → Int32} : g_rI (Q4 S nb ln ch dg) 239 ln2 = Q4 S nb ln2 ch dg := by
  unfold Q4
  rw [g_rIL, g_rI_rI]
theorem Q4_ch {S : gS} {nb : Nat → Int64} {ln ch ch2 dg : Nat → Int32} : g_rI (Q4 S nb ln ch dg) 240 ch2 = Q4 S nb ln ch2 dg := by
  unfold Q4
  rw [g_rIL, g_rI_c (a := 239) (b := 240) (by decide), g_rI_rI]
theorem Q4_dg {S : gS} {nb : Nat → Int64} {ln ch dg dg2 : Nat → Int32} : g_rI (Q4 S nb ln ch dg) 241 dg2 = Q4 S nb ln ch dg2 := by
  unfold Q4
  rw [g_rIL, g_rI_c (a := 239) (b := 241) (by decide), g_rI_c (a := 240) (b := 241) (by decide), g_rI_rI]
theorem Q4_Q4 {S : gS} {nb nb2 : Nat → Int64} {ln ln2 ch ch2 dg dg2 : Nat → Int32} : Q4 (Q4 S nb ln ch dg) nb2 ln2 ch2 dg2 = Q4 S nb2 ln2 ch2 dg2 := by
  show g_rL (g_rI (g_rI (g_rI (Q4 S nb ln ch dg) 241 dg2) 240 ch2) 239 ln2) 238 nb2 = _
  rw [Q4_dg, Q4_ch, Q4_ln, Q4_nb]
theorem Q4_id {S : gS} : Q4 S (gaL S 238) (gaI S 239) (gaI S 240) (gaI S 241) = S := by
  unfold Q4
  rw [g_rI_id]
  rw [g_rI_id, g_rI_id, g_rL_id]
theorem Q4_aL {S : gS} {nb : Nat → Int64} {ln ch dg : Nat → Int32} : gaL (Q4 S nb ln ch dg) 238 = nb := by unfold Q4; simp only [q_pI_fI, q_pI_fL, q_pI_fR, q_pI_aI, q_pI_aL, q_pI_aR, q_pI_K, q_pI_ln, q_pI_n, q_pI_sl, q_pI_is, q_pI_ck, q_pL_fI, q_pL_fL, q_pL_fR, q_pL_aI, q_pL_aL, q_pL_aR, q_pL_K, q_pL_ln, q_pL_n, q_pL_sl, q_pL_is, q_pL_ck, q_pR_fI, q_pR_fL, q_pR_fR, q_pR_aI, q_pR_aL, q_pR_aR, q_pR_K, q_pR_ln, q_pR_n, q_pR_sl, q_pR_is, q_pR_ck, q_rI_fI, q_rI_fL, q_rI_fR, q_rI_aI, q_rI_aL, q_rI_aR, q_rI_K, q_rI_ln, q_rI_n, q_rI_sl, q_rI_is, q_rI_ck, q_rL_fI, q_rL_fL, q_rL_fR, q_rL_aI, q_rL_aL, q_rL_aR, q_rL_K, q_rL_ln, q_rL_n, q_rL_sl, q_rL_is, q_rL_ck, q_rR_fI, q_rR_fL, q_rR_fR, q_rR_aI, q_rR_aL, q_rR_aR, q_rR_K, q_rR_ln, q_rR_n, q_rR_sl, q_rR_is, q_rR_ck]; simp [g_row]
theorem Q4_a239 {S : gS} {nb : Nat → Int64} {ln ch dg : Nat → Int32} : gaI (Q4 S nb ln ch dg) 239 = ln := by unfold Q4; simp only [q_pI_fI, q_pI_fL, q_pI_fR, q_pI_aI, q_pI_aL, q_pI_aR, q_pI_K, q_pI_ln, q_pI_n, q_pI_sl, q_pI_is, q_pI_ck, q_pL_fI, q_pL_fL, q_pL_fR, q_pL_aI, q_pL_aL, q_pL_aR, q_pL_K, q_pL_ln, q_pL_n, q_pL_sl, q_pL_is, q_pL_ck, q_pR_fI, q_pR_fL, q_pR_fR, q_pR_aI, q_pR_aL, q_pR_aR, q_pR_K, q_pR_ln, q_pR_n, q_pR_sl, q_pR_is, q_pR_ck, q_rI_fI, q_rI_fL, q_rI_fR, q_rI_aI, q_rI_aL, q_rI_aR, q_rI_K, q_rI_ln, q_rI_n, q_rI_sl, q_rI_is, q_rI_ck, q_rL_fI, q_rL_fL, q_rL_fR, q_rL_aI, q_rL_aL, q_rL_aR, q_rL_K, q_rL_ln, q_rL_n, q_rL_sl, q_rL_is, q_rL_ck, q_rR_fI, q_rR_fL, q_rR_fR, q_rR_aI, q_rR_aL, q_rR_aR, q_rR_K, q_rR_ln, q_rR_n, q_rR_sl, q_rR_is, q_rR_ck]; simp [g_row]
theorem Q4_a240 {S : gS} {nb : Nat → Int64} {ln ch dg : Nat → Int32} : gaI (Q4 S nb ln ch dg) 240 = ch := by unfold Q4; simp only [q_pI_fI, q_pI_fL, q_pI_fR, q_pI_aI, q_pI_aL, q_pI_aR, q_pI_K, q_pI_ln, q_pI_n, q_pI_sl, q_pI_is, q_pI_ck, q_pL_fI, q_pL_fL, q_pL_fR, q_pL_aI, q_pL_aL, q_pL_aR, q_pL_K, q_pL_ln, q_pL_n, q_pL_sl, q_pL_is, q_pL_ck, q_pR_fI, q_pR_fL, q_pR_fR, q_pR_aI, q_pR_aL, q_pR_aR, q_pR_K, q_pR_ln, q_pR_n, q_pR_sl, q_pR_is, q_pR_ck, q_rI_fI, q_rI_fL, q_rI_fR, q_rI_aI, q_rI_aL, q_rI_aR, q_rI_K, q_rI_ln, q_rI_n, q_rI_sl, q_rI_is, q_rI_ck, q_rL_fI, q_rL_fL, q_rL_fR, q_rL_aI, q_rL_aL, q_rL_aR, q_rL_K, q_rL_ln, q_rL_n, q_rL_sl, q_rL_is, q_rL_ck, q_rR_fI, q_rR_fL, q_rR_fR, q_rR_aI, q_rR_aL, q_rR_aR, q_rR_K, q_rR_ln, q_rR_n, q_rR_sl, q_rR_is, q_rR_ck]; simp [g_row]
theorem Q4_a241 {S : gS} {nb : Nat → Int64} {ln ch dg : Nat → Int32} : gaI (Q4 S nb ln ch dg) 241 = dg := by unfold Q4; simp only [q_pI_fI, q_pI_fL, q_pI_fR, q_pI_aI, q_pI_aL, q_pI_aR, q_pI_K, q_pI_ln, q_pI_n, q_pI_sl, q_pI_is, q_pI_ck, q_pL_fI, q_pL_fL, q_pL_fR, q_pL_aI, q_pL_aL, q_pL_aR, q_pL_K, q_pL_ln, q_pL_n, q_pL_sl, q_pL_is, q_pL_ck, q_pR_fI, q_pR_fL, q_pR_fR, q_pR_aI, q_pR_aL, q_pR_aR, q_pR_K, q_pR_ln, q_pR_n, q_pR_sl, q_pR_is, q_pR_ck, q_rI_fI, q_rI_fL, q_rI_fR, q_rI_aI, q_rI_aL, q_rI_aR, q_rI_K, q_rI_ln, q_rI_n, q_rI_sl, q_rI_is, q_rI_ck, q_rL_fI, q_rL_fL, q_rL_fR, q_rL_aI, q_rL_aL, q_rL_aR, q_rL_K, q_rL_ln, q_rL_n, q_rL_sl, q_rL_is, q_rL_ck, q_rR_fI, q_rR_fL, q_rR_fR, q_rR_aI, q_rR_aL, q_rR_aR, q_rR_K, q_rR_ln, q_rR_n, q_rR_sl, q_rR_is, q_rR_ck]; simp [g_row]
theorem Q4_ck {α : Type} {S : gS} {nb : Nat → Int64} {ln ch dg : Nat → Int32} {ci a : Nat} {o : Option α} : g_ck (Q4 S nb ln ch dg) ci a o = g_ck S ci a o := rfl
theorem Q4_fR {S : gS} {nb : Nat → Int64} {ln ch dg : Nat → Int32} : gfR (Q4 S nb ln ch dg) = gfR S := rfl
theorem Q4_gln {S : gS} {nb : Nat → Int64} {ln ch dg : Nat → Int32} : gln (Q4 S nb ln ch dg) = gln S := rfl
theorem Q4_ok {S : gS} {nb : Nat → Int64} {ln ch dg : Nat → Int32} (h : RefOk S) : RefOk (Q4 S nb ln ch dg) := h
theorem ck9 {α : Type} {S : gS} (h : RefOk S) {o : Option α} : g_ck S 9 237 o = o := g_ck_t h.1
def OnlyS (s : Nat) (nb nb1 : Nat → Int64) (ln ln1 ch ch1 : Nat → Int32) : Prop := (∀ k, k ≠ s → nb1 k = nb k ∧ ln1 k = ln k) ∧ ∀ j, (j < 24 * s ∨ 24 * s + 24 ≤ j) → ch1 j = ch j
theorem OnlyS.refl {s : Nat} {nb : Nat → Int64} {ln ch : Nat → Int32} : OnlyS s nb nb ln ln ch ch := ⟨fun _ _ => ⟨rfl, rfl⟩, fun _ _ => rfl⟩
theorem OnlyS.trans {s : Nat} {nb nb1 nb2 : Nat → Int64} {ln ln1 ln2 ch ch1 ch2 : Nat → Int32} (h : OnlyS s nb nb1 ln ln1 ch ch1) (g : OnlyS s nb1 nb2 ln1 ln2 ch1 ch2) : OnlyS s nb nb2 ln ln2 ch ch2 :=
  ⟨fun k hk => ⟨(g.1 k hk).1.trans (h.1 k hk).1, (g.1 k hk).2.trans (h.1 k hk).2⟩, fun j hj => (g.2 j hj).trans (h.2 j hj)⟩
/-- what changes one slot of the reference's values alone -/
def ROp (S : gS) (s : Nat) (nb : Nat → Int64) (ln ch : Nat → Int32) (o : Option gS) (P : (Nat → Int64) → (Nat → Int32) → (Nat → Int32) → Prop) : Prop := ∃ nb1 ln1 ch1 dg1, o = some (Q4 S nb1 ln1 ch1 dg1) ∧ OnlyS s nb nb1 ln ln1 ch ch1 ∧ P nb1 ln1 ch1
theorem ROp.bind {S : gS} {s : Nat} {nb : Nat → Int64} {ln ch : Nat → Int32} {o : Option gS} {F : gS → Option gS} {P Q : (Nat → Int64) → (Nat → Int32) → (Nat → Int32) → Prop} (h : ROp S s nb ln ch o P) (hF : ∀ nb1 ln1 ch1 dg1, P nb1 ln1 ch1 → ROp S s nb1 ln1 ch1 (F (Q4 S nb1 ln1 ch1 dg1)) Q) : ROp S s nb ln ch (o.bind F) Q := by
  obtain ⟨nb1, ln1, ch1, dg1, h1, h2, h3⟩ := h
  obtain ⟨nb2, ln2, ch2, dg2, g1, g2, g3⟩ := hF nb1 ln1 ch1 dg1 h3
  exact ⟨nb2, ln2, ch2, dg2, by rw [h1]; exact g1, h2.trans g2, g3⟩
theorem ROp.mono {S : gS} {s : Nat} {nb : Nat → Int64} {ln ch : Nat → Int32} {o : Option gS} {P Q : (Nat → Int64) → (Nat → Int32) → (Nat → Int32) → Prop} (h : ROp S s nb ln ch o P) (hF : ∀ nb1 ln1 ch1, OnlyS s nb nb1 ln ln1 ch ch1 → P nb1 ln1 ch1 → Q nb1 ln1 ch1) : ROp S s nb ln ch o Q := by
  obtain ⟨nb1, ln1, ch1, dg1, h1, h2, h3⟩ := h
  exact ⟨nb1, ln1, ch1, dg1, h1, h2, hF _ _ _ h2 h3⟩
theorem mul24 (s : Nat) : (24 : Int32) * nI s = nI (24 * s) := by rw [show (24 : Int32) = nI 24 from rfl, pk_mul]
theorem clear_eq {S : gS} {s : Nat} {nb : Nat → Int64} {ln ch dg : Nat → Int32} (h : RefOk S) (hs : s < 656) : f_X9_clear (Q4 S nb ln ch dg) 237 (nI s) = some (Q4 S (vp_updL nb s 0) (upd ln s 0) ch dg) := by
  unfold f_X9_clear
  simp only [g_getI, g_getL, g_getR, g_putI, g_putZ, g_putL, g_putR, g_ldI, g_ldL, g_ldR, g_stI, g_stZ, g_stL, g_stR, g_alen, g_ldX, g_cVI, g_cVL, g_cVR, g_cVV, g_cI, g_cL, g_cN, g_lt, g_jn, g_cpI, g_cpL, g_z, Nat.reduceMul, Nat.reduceAdd, Option.bind_some, or_true, true_or, if_true, q_pI_fI, q_pI_fL, q_pI_fR, q_pI_aI, q_pI_aL, q_pI_aR, q_pI_K, q_pI_ln, q_pI_n, q_pI_sl, q_pI_is, q_pI_ck, q_pL_fI, q_pL_fL, q_pL_fR, q_pL_aI, q_pL_aL, q_pL_aR, q_pL_K, q_pL_ln, q_pL_n, q_pL_sl, q_pL_is, q_pL_ck, q_pR_fI, q_pR_fL, q_pR_fR, q_pR_aI, q_pR_aL, q_pR_aR, q_pR_K, q_pR_ln, q_pR_n, q_pR_sl, q_pR_is, q_pR_ck, q_rI_fI, q_rI_fL, q_rI_fR, q_rI_aI, q_rI_aL, q_rI_aR, q_rI_K, q_rI_ln, q_rI_n, q_rI_sl, q_rI_is, q_rI_ck, q_rL_fI, q_rL_fL, q_rL_fR, q_rL_aI, q_rL_aL, q_rL_aR, q_rL_K, q_rL_ln, q_rL_n, q_rL_sl, q_rL_is, q_rL_ck, q_rR_fI, q_rR_fL, q_rR_fR, q_rR_aI, q_rR_aL, q_rR_aR, q_rR_K, q_rR_ln, q_rR_n, q_rR_sl, q_rR_is, q_rR_ck, Q4_ck, ck9 h, Q4_fR, rf_numbers h, rf_lengths h, g_ck_t (ri_numbers h), g_ck_t (ri_lengths h), Q4_gln, rl_numbers h, rl_lengths h, Q4_aL, Q4_a239]
  simp (disch := omega) only [g_ix_t, nI_clamp, Q4_nb, Q4_ln]
/-- a text in a slot -/
def RTx (ln ch : Nat → Int32) (s : Nat) (T : List Nat) : Prop := ln s = nI T.length ∧ T.length ≤ 24 ∧ (∀ c ∈ T, 0 < c ∧ c < 256) ∧ ∀ j, j < T.length → ch (24 * s + j) = nI (T.getD j 0)
theorem clear_R {S : gS} {s : Nat} {nb : Nat → Int64} {ln ch dg : Nat → Int32} (h : RefOk S) (hs : s < 656) : ROp S s nb ln ch (f_X9_clear (Q4 S nb ln ch dg) 237 (nI s)) (fun nb1 ln1 ch1 => nb1 s = 0 ∧ RTx ln1 ch1 s []) := by
  refine ⟨_, _, _, _, clear_eq h hs, ⟨fun k hk => ⟨pk_uLn hk, pk_un hk⟩, fun _ _ => rfl⟩, pk_uLs, pk_us, by decide, fun c hc => (by cases hc), fun j hj => (by cases hj)⟩
theorem addChar_R {S : gS} {s c : Nat} {nb : Nat → Int64} {ln ch dg : Nat → Int32} {T : List Nat} (h : RefOk S) (hs : s < 656) (hT : RTx ln ch s T) (hl : T.length < 24) (hc : c < 256) : ROp S s nb ln ch (f_X9_addChar (Q4 S nb ln ch dg) 237 (nI s) (nI c)) (fun nb1 ln1 ch1 => nb1 = nb ∧ RTx ln1 ch1 s (T ++ (if c = 0 then [] else [c]))) := by
  obtain ⟨t1, t2, t3, t4⟩ := hT
  unfold f_X9_addChar
  by_cases h0 : c = 0
  · rw [if_pos (show nI c = 0 by rw [h0]; rfl), if_pos h0, List.append_nil]
    exact ⟨_, _, _, _, rfl, OnlyS.refl, rfl, t1, t2, t3, t4⟩
  · rw [if_neg (fun q => h0 ((nI_eq0 (by omega)).mp q)), if_neg h0]
    simp only [g_getI, g_getL, g_getR, g_putI, g_putZ, g_putL, g_putR, g_ldI, g_ldL, g_ldR, g_stI, g_stZ, g_stL, g_stR, g_alen, g_ldX, g_cVI, g_cVL, g_cVR, g_cVV, g_cI, g_cL, g_cN, g_lt, g_jn, g_cpI, g_cpL, g_z, Nat.reduceMul, Nat.reduceAdd, Option.bind_some, or_true, true_or, if_true, q_pI_fI, q_pI_fL, q_pI_fR, q_pI_aI, q_pI_aL, q_pI_aR, q_pI_K, q_pI_ln, q_pI_n, q_pI_sl, q_pI_is, q_pI_ck, q_pL_fI, q_pL_fL, q_pL_fR, q_pL_aI, q_pL_aL, q_pL_aR, q_pL_K, q_pL_ln, q_pL_n, q_pL_sl, q_pL_is, q_pL_ck, q_pR_fI, q_pR_fL, q_pR_fR, q_pR_aI, q_pR_aL, q_pR_aR, q_pR_K, q_pR_ln, q_pR_n, q_pR_sl, q_pR_is, q_pR_ck, q_rI_fI, q_rI_fL, q_rI_fR, q_rI_aI, q_rI_aL, q_rI_aR, q_rI_K, q_rI_ln, q_rI_n, q_rI_sl, q_rI_is, q_rI_ck, q_rL_fI, q_rL_fL, q_rL_fR, q_rL_aI, q_rL_aL, q_rL_aR, q_rL_K, q_rL_ln, q_rL_n, q_rL_sl, q_rL_is, q_rL_ck, q_rR_fI, q_rR_fL, q_rR_fR, q_rR_aI, q_rR_aL, q_rR_aR, q_rR_K, q_rR_ln, q_rR_n, q_rR_sl, q_rR_is, q_rR_ck, Q4_ck, ck9 h, Q4_fR, rf_chars h, rf_lengths h, g_ck_t (ri_chars h), g_ck_t (ri_lengths h), Q4_gln, rl_chars h, rl_lengths h, Q4_a240, Q4_a239, mul24]
    rw [g_ix_t (by omega) (by decide), nI_clamp (by omega), t1, nI_add, g_ix_t (by omega) (by decide), nI_clamp (by omega), g_ix_t (by omega) (by decide), Q4_ch, g_row_n (show (239 : Nat) ≠ 240 by decide), Q4_a239, t1, add1, g_ix_t (by omega) (by decide), Q4_ln]
    refine ⟨_, _, _, _, rfl, ⟨fun k hk => ⟨rfl, pk_un hk⟩, fun j hj => pk_un (by omega)⟩, rfl, ?_, ?_, ?_, ?_⟩
    · rw [pk_us, List.length_append]; rfl
    · rw [List.length_append]; exact hl
    · intro x hx
      rcases List.mem_append.mp hx with hx | hx
      · exact t3 x hx
      · rw [List.mem_singleton.mp hx]; exact ⟨Nat.pos_of_ne_zero h0, hc⟩
    · intro j hj
      rw [List.length_append, List.length_singleton] at hj
      rw [getD_app]
      by_cases hlt : j < T.length
      · rw [if_pos hlt, pk_un (by omega), t4 j hlt]
      · have : j = T.length := by omega
        rw [if_neg hlt, if_pos this, this, pk_us]
