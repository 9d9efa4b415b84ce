section XM
variable {ρ ρ2 : Type} {em : ρ → Option Value × gS} {em2 : ρ2 → Option Value × gS} {E : gE} {M M2 : gM} {n0 s0 pc : Nat} {lv : List (Nat × Value)} {st : List Value} {S : gS} {o : Option ρ} {o2 : Option ρ2} {F : ρ2 → Option ρ}
/-! ===== calls ===== -/
theorem g_blind {args : List Value} : FrameBlind (g_Pc E args S) := by
  intro a U g mk h
  obtain ⟨h1, h2, h3, h4⟩ := h
  exact ⟨h1, h2, h3, h4.calling⟩
theorem g_pre {p : Program} {e : Env} {s : State} {m : MethodId} {args : Array Value} {below : List Frame} {meth : Method} {c : Code} {R : Room} {Q : State → Prop} {H : Heap} {locs : List Loc} {r : Option Value} {S' : gS}
    (hX : gX E M n0 s0 r S' p e s m args below meth c R Q) (hP : g_P E S H) (hS : va_S (g_A E) s.heap H locs) (hz : H.size = e0 E + gn S) (As : List Value) : ∀ U : State, U.heap = H → s.WarmedH U.vm → g_Pc E As S (As.map (g_rv E)).toArray U := by
  intro U hU hW
  refine ⟨rfl, by rw [hU]; exact hz, by rw [hU]; exact hP, hX.2.2.2.2.2.2.1.to hW fun a h1 h2 => by rw [hU]; exact hS.2.1 a h1 h2⟩
theorem g_after {p : Program} {e : Env} {s : State} {m : MethodId} {args : Array Value} {below : List Frame} {meth : Method} {c : Code} {R : Room} {Q : State → Prop} {H : Heap} {locs : List Loc} {ls : Array Slot} {r : Option Value} {S' : gS} {st0 : List Value} {z2 : ρ2} {av : Array Value} {T : State}
    (hX : gX E M n0 s0 r S' p e s m args below meth c R Q) (hl : lv_has ls (ml M) (g_lv E lv)) (hS : va_S (g_A E) s.heap H locs) (h1 : n0 ≤ gn S) (h2 : s0 ≤ gsl S) (c1 : gn S ≤ gn (em2 z2).2) (c2 : gsl S ≤ gsl (em2 z2).2)
    (hr : va_Run p (eL E) e R s m args below meth c H locs (gn S - n0) (gsl S - s0) (gn (em2 z2).2 - gn S) (gsl (em2 z2).2 - gsl S) (F0 m pc ls st0) (st.map (g_rv E)) (g_Qc E (em2 z2).1 (em2 z2).2 av) (g_A E))
    (hG : gG E M n0 s0 (pc + 3) lv ((em2 z2).1.toList ++ st) (em2 z2).2 r S') (hT : T.heap = H) (X : Stand p (eL E) e R s m args below meth c T locs (gn S - n0) (gsl S - s0)) : ∃ t, Steps p.tables e below (T.setTop (F0 m pc ls st0)) t ∧ Q t := by
  obtain ⟨v, st₀, t, T', L, h0, X', hL, e1, e2, ⟨hv, hP1, hz, hk⟩, stp⟩ := hr T hT X
  have hv2 : v = (em2 z2).1.map (g_rv E) := by cases hv; rfl
  rw [h0] at hz hk
  have hS1 : va_S (g_A E) s.heap T'.heap (locs ++ L) := by
    refine ⟨Nat.le_trans hS.1 (by rw [e1]; exact hz), fun q a b => ?_, fun q hq => ?_⟩
    · rw [e1, hk q (Nat.lt_of_lt_of_le a hS.1) b]
      exact hS.2.1 q a b
    · rcases List.mem_append.mp hq with h | h
      · exact hS.2.2 q h
      · exact hL q h
  have K := hG p e s m args below meth c R Q hX T'.heap (locs ++ L) ls hl (by rw [e1]; exact hP1) hS1 (by omega) (by omega)
  rw [show gn S - n0 + (gn (em2 z2).2 - gn S) = gn (em2 z2).2 - n0 by omega, show gsl S - s0 + (gsl (em2 z2).2 - gsl S) = gsl (em2 z2).2 - s0 by omega] at X'
  obtain ⟨t2, a1, b1⟩ := K T' rfl X'
  refine ⟨t2, stp t2 ?_, b1⟩
  have hst : v.toList ++ st.map (g_rv E) = ((em2 z2).1.toList ++ st).map (g_rv E) := by
    rw [hv2, List.map_append]
    cases (em2 z2).1 <;> rfl
  show Steps p.tables e below (T'.setTop (F0 m (pc + 3) ls (v.toList ++ st.map (g_rv E)))) t2
  rw [hst]
  exact a1
def g_okC (M2 : gM) (n : Nat) : Prop := Cond.code (my M2) (mc M2) (ml M2) (mt M2) ∈ lw_good ∧ Cond.initialized (my M2).cls ∈ lw_good ∧ (my M2).cls ≠ "java/lang/invoke/MethodHandle" ∧ (my M2).cls ≠ "java/lang/invoke/VarHandle" ∧ (parseMethodDescriptor (my M2).desc).map (fun d => d.parameters.length) = some n
def g_okR (M M2 : gM) : Prop := mf M2 + 1 ≤ mf M ∧ 8 + (ml M2 + 11) + mo M2 ≤ mo M
theorem g_cat (E : gE) (st : List Value) : ((st.map (g_rv E)).map fun v => v.category).sum = (st.map fun v => v.category).sum := by
  rw [List.map_map]
  congr 1
  apply List.map_congr_left
  intro v _
  exact g_rv_cat E v
theorem g_args (E : gE) (As st : List Value) : (As.reverse ++ st).map (g_rv E) = (As.map (g_rv E)).reverse ++ st.map (g_rv E) := by
  rw [List.map_append, List.map_reverse]
/-- a method of an object of class ci -/
def g_cV {α β : Type} (S : gS) (ci a : Nat) (o : Option β) (F : β → Option α) : Option α := g_ck S ci a (o.bind F)
theorem X_callV {ci idx a : Nat} {As : List Value} {stk : List Value} (hC : gC em2 E M2 (.ref a :: As) S o2) (hci : ci < 10) (hcl : (g_cl ci).1 = (my M2).cls) (hk : g_okC M2 As.length) (w1 : Cond.methodLink (my M).cls idx (my M2) ∈ lw_good) (w2 : Cond.instanceMethod (my M2) ∈ lw_good) (w3 : Cond.selects (my M2).cls (my M2) (my M2) ∈ lw_good) (hR : g_okR M M2) (hst : stk = As.reverse ++ .ref a :: st) (hcat : (st.map fun v => v.category).sum ≤ 8) (hd : decode (mc M) pc = .ok (.invokevirtual idx, 3))
    (h : ∀ z, gJ em E M n0 s0 (pc + 3) lv ((em2 z).1.toList ++ st) (em2 z).2 (F z)) : gJ em E M n0 s0 pc lv stk S (g_cV S ci a o2 F) := by
  intro z hz
  obtain ⟨hi, hz⟩ := g_ck_s hz
  cases hr : o2 with
  | none => rw [hr] at hz; cases hz
  | some z2 =>
    rw [hr] at hz
    obtain ⟨c1, c2, hM⟩ := hC z2 hr
    obtain ⟨m1, m2, hG⟩ := h z2 z hz
    refine ⟨by omega, by omega, fun p e s m args below meth c R Q hX H locs ls hl hP hS h1 h2 => ?_⟩
    intro T hT X
    have hsz := g_sz hX hP hS h1 hT X
    obtain ⟨hx, hb, hml, hown, hts, hnm, hEv, hs0, hfr, hlo, hce, hsl, hret⟩ := id hX
    obtain ⟨k1, k2, k3, k4, k5⟩ := hk
    have cb := callB_of (R := R) (own := (my M).cls) (index := idx) (y := my M2) (bytes := mc M2) (maxL := ml M2) (ret := mt M2) (ws := m_ws M2) (rm := { frames := mf M2, cells := gn (em2 z2).2 - gn S, slots := gsl (em2 z2).2 - gsl S, locals := mo M2 }) As.length hts (g_good_in k1) rfl rfl rfl (hts _ k2) (hts _ w1) ⟨k3, k4, k5⟩ ⟨Nat.le_trans hR.1 hfr, Nat.le_trans hR.2 hlo⟩
    have hrc : ∃ cellB : Cell, H[e0 E + a]? = some cellB ∧ cellB.vm.isStatics = false ∧ s.vm.findClass (my M2).cls = some cellB.cls := by
      rw [← hcl]
      exact va_recv hEv.1 hP (g_cl_at ci hci) (g_cell_o hi hci)
    have hrun := va_runV (g := F0 m pc ls (stk.map (g_rv E))) (C := (my M2).cls) (b := e0 E + a) (As := As.map (g_rv E)) (rest := st.map (g_rv E)) (locs := locs) (cells := gn S - n0) (slots := gsl S - s0) (below := below) (meth := meth) (e := e) (p := p) (m := m) (c := c) (cc := mc M) (nL := ml M) ⟨hx, hb, hml, hown, hts⟩ hM ⟨cb, hts _ w2, hts _ w3⟩ ⟨g_blind, hrc, g_pre hX hP hS hsz (.ref a :: As)⟩ rfl (by rw [List.length_map]) hl.1 (by rw [hst, g_args]; rfl) (by show 2 * 0 + _ ≤ 8; rw [g_cat]; omega) hd ⟨by omega, by omega⟩
    exact g_after (em2 := em2) hX hl hS h1 h2 c1 c2 hrun hG hT X
theorem X_callS {idx : Nat} {As : List Value} {stk : List Value} (hC : gC em2 E M2 As S o2) (hk : g_okC M2 As.length) (w1 : Cond.methodLink (my M).cls idx (my M2) ∈ lw_good) (w2 : Cond.static (my M2) ∈ lw_good) (hR : g_okR M M2) (hst : stk = As.reverse ++ st) (hcat : (st.map fun v => v.category).sum ≤ 8) (hd : decode (mc M) pc = .ok (.invokestatic idx, 3))
    (h : ∀ z, gJ em E M n0 s0 (pc + 3) lv ((em2 z).1.toList ++ st) (em2 z).2 (F z)) : gJ em E M n0 s0 pc lv stk S (o2.bind F) := by
  intro z hz
  cases hr : o2 with
  | none => rw [hr] at hz; cases hz
  | some z2 =>
    rw [hr] at hz
    obtain ⟨c1, c2, hM⟩ := hC z2 hr
    obtain ⟨m1, m2, hG⟩ := h z2 z hz
    refine ⟨by omega, by omega, fun p e s m args below meth c R Q hX H locs ls hl hP hS h1 h2 => ?_⟩
    intro T hT X
    have hsz := g_sz hX hP hS h1 hT X
    obtain ⟨hx, hb, hml, hown, hts, hnm, hEv, hs0, hfr, hlo, hce, hsl, hret⟩ := id hX
    obtain ⟨k1, k2, k3, k4, k5⟩ := hk
    have cb := callB_of (R := R) (own := (my M).cls) (index := idx) (y := my M2) (bytes := mc M2) (maxL := ml M2) (ret := mt M2) (ws := m_ws M2) (rm := { frames := mf M2, cells := gn (em2 z2).2 - gn S, slots := gsl (em2 z2).2 - gsl S, locals := mo M2 }) As.length hts (g_good_in k1) rfl rfl rfl (hts _ k2) (hts _ w1) ⟨k3, k4, k5⟩ ⟨Nat.le_trans hR.1 hfr, Nat.le_trans hR.2 hlo⟩
    have hrun := va_runS (g := F0 m pc ls (stk.map (g_rv E))) (As := As.map (g_rv E)) (rest := st.map (g_rv E)) (H := H) (locs := locs) (cells := gn S - n0) (slots := gsl S - s0) (below := below) (meth := meth) (e := e) (p := p) (m := m) (c := c) (cc := mc M) (nL := ml M) ⟨hx, hb, hml, hown, hts⟩ hM ⟨cb, hts _ w2⟩ ⟨g_blind, g_pre hX hP hS hsz As⟩ rfl (by rw [List.length_map]) hl.1 (by rw [hst, g_args]) (by show 2 * 0 + _ ≤ 8; rw [g_cat]; omega) hd ⟨by omega, by omega⟩
    exact g_after (em2 := em2) hX hl hS h1 h2 c1 c2 hrun hG hT X
theorem X_callI {idx a : Nat} {As : List Value} {stk : List Value} (hC : gC em2 E M2 (.ref a :: As) S o2) (hk : g_okC M2 As.length) (hmt : mt M2 = none) (hnm2 : (my M2).name = "<init>") (w1 : Cond.methodLink (my M).cls idx (my M2) ∈ lw_good) (w2 : Cond.instanceMethod (my M2) ∈ lw_good) (hR : g_okR M M2) (hst : stk = As.reverse ++ .ref a :: st) (hcat : (st.map fun v => v.category).sum ≤ 8) (hd : decode (mc M) pc = .ok (.invokespecial idx, 3))
    (h : ∀ z, gJ em E M n0 s0 (pc + 3) lv ((em2 z).1.toList ++ st) (em2 z).2 (F z)) : gJ em E M n0 s0 pc lv stk S (o2.bind F) := by
  intro z hz
  cases hr : o2 with
  | none => rw [hr] at hz; cases hz
  | some z2 =>
    rw [hr] at hz
    obtain ⟨c1, c2, hM⟩ := hC z2 hr
    obtain ⟨m1, m2, hG⟩ := h z2 z hz
    refine ⟨by omega, by omega, fun p e s m args below meth c R Q hX H locs ls hl hP hS h1 h2 => ?_⟩
    intro T hT X
    have hsz := g_sz hX hP hS h1 hT X
    obtain ⟨hx, hb, hml, hown, hts, hnm, hEv, hs0, hfr, hlo, hce, hsl, hret⟩ := id hX
    obtain ⟨k1, k2, k3, k4, k5⟩ := hk
    have cb := callB_of (R := R) (own := (my M).cls) (index := idx) (y := my M2) (bytes := mc M2) (maxL := ml M2) (ret := mt M2) (ws := m_ws M2) (rm := { frames := mf M2, cells := gn (em2 z2).2 - gn S, slots := gsl (em2 z2).2 - gsl S, locals := mo M2 }) As.length hts (g_good_in k1) rfl rfl rfl (hts _ k2) (hts _ w1) ⟨k3, k4, k5⟩ ⟨Nat.le_trans hR.1 hfr, Nat.le_trans hR.2 hlo⟩
    rw [hmt] at cb
    have hrun := va_runI (g := F0 m pc ls (stk.map (g_rv E))) (b := e0 E + a) (As := As.map (g_rv E)) (rest := st.map (g_rv E)) (H := H) (locs := locs) (cells := gn S - n0) (slots := gsl S - s0) (below := below) (meth := meth) (e := e) (p := p) (m := m) (c := c) (cc := mc M) (nL := ml M) ⟨hx, hb, hml, hown, hts⟩ hM ⟨cb, hnm2, hts _ w2⟩ ⟨g_blind, g_pre hX hP hS hsz (.ref a :: As)⟩ rfl (by rw [List.length_map]) hl.1 (by rw [hst, g_args]; rfl) (by show 2 * 0 + _ ≤ 8; rw [g_cat]; omega) hd ⟨by omega, by omega⟩
    exact g_after (em2 := em2) hX hl hS h1 h2 c1 c2 hrun hG hT X
theorem X_callN {idx a : Nat} {As : List Value} {stk : List Value} (hC : gC em2 E M2 (.ref a :: As) S o2) (hk : g_okC M2 As.length) (hmt : mt M2 = none) (hnm2 : (my M2).name = "<init>") (w1 : Cond.methodLinkNest (my M).cls idx (my M2) "ShiftHouse" ∈ g_nests) (w2 : Cond.instanceMethod (my M2) ∈ lw_good) (hR : g_okR M M2) (hst : stk = As.reverse ++ .ref a :: st) (hcat : (st.map fun v => v.category).sum ≤ 8) (hd : decode (mc M) pc = .ok (.invokespecial idx, 3))
    (h : ∀ z, gJ em E M n0 s0 (pc + 3) lv ((em2 z).1.toList ++ st) (em2 z).2 (F z)) : gJ em E M n0 s0 pc lv stk S (o2.bind F) := by
  intro z hz
  cases hr : o2 with
  | none => rw [hr] at hz; cases hz
  | some z2 =>
    rw [hr] at hz
    obtain ⟨c1, c2, hM⟩ := hC z2 hr
    obtain ⟨m1, m2, hG⟩ := h z2 z hz
    refine ⟨by omega, by omega, fun p e s m args below meth c R Q hX H locs ls hl hP hS h1 h2 => ?_⟩
    intro T hT X
    have hsz := g_sz hX hP hS h1 hT X
    obtain ⟨hx, hb, hml, hown, hts, hnm, hEv, hs0, hfr, hlo, hce, hsl, hret⟩ := id hX
    obtain ⟨k1, k2, k3, k4, k5⟩ := hk
    have cb := va_cnB (R := R) (own := (my M).cls) (host := "ShiftHouse") (index := idx) (y := my M2) (bytes := mc M2) (maxL := ml M2) (ret := mt M2) (ws := m_ws M2) (rm := { frames := mf M2, cells := gn (em2 z2).2 - gn S, slots := gsl (em2 z2).2 - gsl S, locals := mo M2 }) As.length hts (g_good_in k1) rfl rfl rfl (hEv.2.2.2.2.1 _ w1) (hts _ k2) ⟨k3, k4, k5⟩ ⟨Nat.le_trans hR.1 hfr, Nat.le_trans hR.2 hlo⟩
    rw [hmt] at cb
    have hrun := va_runIN (g := F0 m pc ls (stk.map (g_rv E))) (b := e0 E + a) (As := As.map (g_rv E)) (rest := st.map (g_rv E)) (H := H) (locs := locs) (cells := gn S - n0) (slots := gsl S - s0) (below := below) (meth := meth) (e := e) (p := p) (m := m) (c := c) (cc := mc M) (nL := ml M) ⟨hx, hb, hml, hown, hts⟩ hM ⟨cb, hnm2, hts _ w2⟩ ⟨g_blind, g_pre hX hP hS hsz (.ref a :: As)⟩ rfl (by rw [List.length_map]) hl.1 (by rw [hst, g_args]; rfl) (by show 2 * 0 + _ ≤ 8; rw [g_cat]; omega) hd ⟨by omega, by omega⟩
    exact g_after (em2 := em2) hX hl hS h1 h2 c1 c2 hrun hG hT X
/-! ===== the JDK's own, and the end ===== -/
theorem X_objInit {idx a : Nat} (w1 : Cond.methodLink (my M).cls idx objectInit ∈ lw_good) (w2 : Cond.instanceMethod objectInit ∈ lw_good) (w3 : Cond.code objectInit ⟨#[0xb1]⟩ 1 none ∈ lw_good) (hf : 1 ≤ mf M) (hlo : (st.map fun v => v.category).sum + 12 ≤ mo M) (hd : decode (mc M) pc = .ok (.invokespecial idx, 3)) (h : gJ em E M n0 s0 (pc + 3) lv st S o) : gJ em E M n0 s0 pc lv (.ref a :: st) S o :=
  gJ.stepX (fun p e s m args below meth c R Q H locs ls r S' hX hl hP hS _ _ k => W.objInit hX.1 hX.2.1 hX.2.2.2.1 (hX.2.2.2.2.1 _ w1) (hX.2.2.2.2.1 _ w2) (hX.2.2.2.2.1 _ w3) rfl (by rw [hX.2.2.1]; exact hl.1) rfl hd (Nat.le_trans hf hX.2.2.2.2.2.2.2.2.1) (by have := hX.2.2.2.2.2.2.2.2.2.1; show 2 * 0 + _ + 12 ≤ _; rw [g_cat]; omega) k) h
theorem X_max {idx : Nat} {x y : Int64} (w1 : Cond.methodLink (my M).cls idx Lib.MathLoose.max_long.x ∈ lw_good) (w2 : Cond.static Lib.MathLoose.max_long.x ∈ lw_good) (w3 : Cond.initialized "java/lang/Math" ∈ lw_good) (w4 : Cond.code Lib.MathLoose.max_long.x Lib.MathLoose.max_long.code 4 (some .long) ∈ lw_good) (hf : 1 ≤ mf M) (hlo : (st.map fun v => v.category).sum + 15 ≤ mo M) (hd : decode (mc M) pc = .ok (.invokestatic idx, 3)) (h : gJ em E M n0 s0 (pc + 3) lv (.long (if y < x then x else y) :: st) S o) : gJ em E M n0 s0 pc lv (.long y :: .long x :: st) S o :=
  gJ.stepX (fun p e s m args below meth c R Q H locs ls r S' hX hl hP hS hc hs k => va_mmax_long hX.1 hX.2.1 (by rw [hX.2.2.1]; exact hl.1.symm) hX.2.2.2.1 (hX.2.2.2.2.1 _ w1) (hX.2.2.2.2.1 _ w2) (hX.2.2.2.2.1 _ w3) (hX.2.2.2.2.1 _ w4) (Nat.le_trans hf hX.2.2.2.2.2.2.2.2.1) (by have := hX.2.2.2.2.2.2.2.2.2.1; rw [g_cat]; omega) hc hs hd k) h
theorem X_min {idx : Nat} {x y : Int64} (w1 : Cond.methodLink (my M).cls idx Lib.MathLoose.min_long.x ∈ lw_good) (w2 : Cond.static Lib.MathLoose.min_long.x ∈ lw_good) (w3 : Cond.initialized "java/lang/Math" ∈ lw_good) (w4 : Cond.code Lib.MathLoose.min_long.x Lib.MathLoose.min_long.code 4 (some .long) ∈ lw_good) (hf : 1 ≤ mf M) (hlo : (st.map fun v => v.category).sum + 15 ≤ mo M) (hd : decode (mc M) pc = .ok (.invokestatic idx, 3)) (h : gJ em E M n0 s0 (pc + 3) lv (.long (if y < x then y else x) :: st) S o) : gJ em E M n0 s0 pc lv (.long y :: .long x :: st) S o :=
  gJ.stepX (fun p e s m args below meth c R Q H locs ls r S' hX hl hP hS hc hs k => va_mmin_long hX.1 hX.2.1 (by rw [hX.2.2.1]; exact hl.1.symm) hX.2.2.2.1 (hX.2.2.2.2.1 _ w1) (hX.2.2.2.2.1 _ w2) (hX.2.2.2.2.1 _ w3) (hX.2.2.2.2.1 _ w4) (Nat.le_trans hf hX.2.2.2.2.2.2.2.2.1) (by have := hX.2.2.2.2.2.2.2.2.2.1; rw [g_cat]; omega) hc hs hd k) h
theorem X_abs {idx : Nat} {x : Int64} (w1 : Cond.methodLink (my M).cls idx Lib.MathLoose.abs_long.x ∈ lw_good) (w2 : Cond.static Lib.MathLoose.abs_long.x ∈ lw_good) (w3 : Cond.initialized "java/lang/Math" ∈ lw_good) (w4 : Cond.code Lib.MathLoose.abs_long.x Lib.MathLoose.abs_long.code 2 (some .long) ∈ lw_good) (hf : 1 ≤ mf M) (hlo : (st.map fun v => v.category).sum + 13 ≤ mo M) (hd : decode (mc M) pc = .ok (.invokestatic idx, 3)) (h : gJ em E M n0 s0 (pc + 3) lv (.long (if 0 < x then x else -x) :: st) S o) : gJ em E M n0 s0 pc lv (.long x :: st) S o :=
  gJ.stepX (fun p e s m args below meth c R Q H locs ls r S' hX hl hP hS hc hs k => va_mabs_long hX.1 hX.2.1 (by rw [hX.2.2.1]; exact hl.1.symm) hX.2.2.2.1 (hX.2.2.2.2.1 _ w1) (hX.2.2.2.2.1 _ w2) (hX.2.2.2.2.1 _ w3) (hX.2.2.2.2.1 _ w4) (Nat.le_trans hf hX.2.2.2.2.2.2.2.2.1) (by have := hX.2.2.2.2.2.2.2.2.2.1; rw [g_cat]; omega) hc hs hd k) h
/-- System.arraycopy -/
def g_rg {α : Type} (sp dp n : Int32) (n0 n1 : Nat) (o : Option α) : Option α := if sp < 0 ∨ dp < 0 ∨ n < 0 ∨ n0 < sp.toNatClampNeg + n.toNatClampNeg ∨ n1 < dp.toNatClampNeg + n.toNatClampNeg then none else o
theorem g_rg_s {α : Type} {sp dp n : Int32} {n0 n1 : Nat} {o : Option α} {z : α} (h : g_rg sp dp n n0 n1 o = some z) : (¬ sp < 0 ∧ ¬ dp < 0 ∧ ¬ n < 0 ∧ sp.toNatClampNeg + n.toNatClampNeg ≤ n0 ∧ dp.toNatClampNeg + n.toNatClampNeg ≤ n1) ∧ o = some z := by
  unfold g_rg at h
  by_cases hc : sp < 0 ∨ dp < 0 ∨ n < 0 ∨ n0 < sp.toNatClampNeg + n.toNatClampNeg ∨ n1 < dp.toNatClampNeg + n.toNatClampNeg
  · rw [if_pos hc] at h; cases h
  · rw [if_neg hc] at h
    simp only [not_or, Nat.not_lt] at hc
    exact ⟨hc, h⟩
def g_cpI {α : Type} (S : gS) (a0 : Nat) (sp : Int32) (a1 : Nat) (dp n : Int32) (F : gS → Option α) : Option α := g_ck S 10 a0 (g_ck S 10 a1 (g_rg sp dp n (gln S a0) (gln S a1) (F (g_rI S a1 (va_cpy (gaI S a0) (gaI S a1) sp.toNatClampNeg dp.toNatClampNeg n.toNatClampNeg)))))
def g_cpL {α : Type} (S : gS) (a0 : Nat) (sp : Int32) (a1 : Nat) (dp n : Int32) (F : gS → Option α) : Option α := g_ck S 11 a0 (g_ck S 11 a1 (g_rg sp dp n (gln S a0) (gln S a1) (F (g_rL S a1 (va_cpy (gaL S a0) (gaL S a1) sp.toNatClampNeg dp.toNatClampNeg n.toNatClampNeg)))))
theorem X_cpI {idx a0 a1 : Nat} {sp dp n : Int32} {G : gS → Option ρ} (w1 : Cond.methodLink (my M).cls idx arraycopyName ∈ lw_good) (w2 : Cond.native arraycopyName ∈ lw_good) (w3 : Cond.static arraycopyName ∈ lw_good) (w4 : Cond.initialized "java/lang/System" ∈ lw_good) (hf : 1 ≤ mf M) (hlo : (st.map fun v => v.category).sum + (nativeFrameWords "java/lang/System" "arraycopy" 5 + 11) ≤ mo M) (hd : decode (mc M) pc = .ok (.invokestatic idx, 3)) (h : ∀ S1, gJ em E M n0 s0 (pc + 3) lv st S1 (G S1)) : gJ em E M n0 s0 pc lv (.int n :: .int dp :: .ref a1 :: .int sp :: .ref a0 :: st) S (g_cpI S a0 sp a1 dp n G) := by
  intro z hz
  obtain ⟨hi, hz⟩ := g_ck_s hz
  obtain ⟨hj, hz⟩ := g_ck_s hz
  obtain ⟨⟨q1, q2, q3, q4, q5⟩, hz⟩ := g_rg_s hz
  obtain ⟨m1, m2, hG⟩ := h _ z hz
  refine ⟨m1, m2, fun p e s m args below meth c R Q hX H locs ls hl hP hS h1 h2 => va_copyi (D := eD E) hX.1 hX.2.1 (by rw [hX.2.2.1]; exact hl.1.symm) hX.2.2.2.1 (hX.2.2.2.2.1 _ w1) (hX.2.2.2.2.1 _ w2) (hX.2.2.2.2.1 _ w3) (hX.2.2.2.2.1 _ w4) hX.2.2.2.2.2.2.1.1 hP (g_w_D E S) hS a0 a1 0 0 (g_cell_I hi (Or.inl rfl)) (g_cell_I hj (Or.inl rfl)) (ty := .int) rfl rfl rfl q1 q2 q3 q4 q5 (fun _ _ => rfl) (Nat.le_trans hf hX.2.2.2.2.2.2.2.2.1) (by have := hX.2.2.2.2.2.2.2.2.2.1; rw [g_cat]; omega) hd fun H1 locs1 hP1 _ hS1 => ?_⟩
  rw [g_rI_w hj (Or.inl rfl)] at hP1
  exact hG p e s m args below meth c R Q hX H1 locs1 ls hl hP1 hS1 h1 h2
theorem X_cpL {idx a0 a1 : Nat} {sp dp n : Int32} {G : gS → Option ρ} (w1 : Cond.methodLink (my M).cls idx arraycopyName ∈ lw_good) (w2 : Cond.native arraycopyName ∈ lw_good) (w3 : Cond.static arraycopyName ∈ lw_good) (w4 : Cond.initialized "java/lang/System" ∈ lw_good) (hf : 1 ≤ mf M) (hlo : (st.map fun v => v.category).sum + (nativeFrameWords "java/lang/System" "arraycopy" 5 + 11) ≤ mo M) (hd : decode (mc M) pc = .ok (.invokestatic idx, 3)) (h : ∀ S1, gJ em E M n0 s0 (pc + 3) lv st S1 (G S1)) : gJ em E M n0 s0 pc lv (.int n :: .int dp :: .ref a1 :: .int sp :: .ref a0 :: st) S (g_cpL S a0 sp a1 dp n G) := by
  intro z hz
  obtain ⟨hi, hz⟩ := g_ck_s hz
  obtain ⟨hj, hz⟩ := g_ck_s hz
  obtain ⟨⟨q1, q2, q3, q4, q5⟩, hz⟩ := g_rg_s hz
  obtain ⟨m1, m2, hG⟩ := h _ z hz
  refine ⟨m1, m2, fun p e s m args below meth c R Q hX H locs ls hl hP hS h1 h2 => va_copyl (D := eD E) hX.1 hX.2.1 (by rw [hX.2.2.1]; exact hl.1.symm) hX.2.2.2.1 (hX.2.2.2.2.1 _ w1) (hX.2.2.2.2.1 _ w2) (hX.2.2.2.2.1 _ w3) (hX.2.2.2.2.1 _ w4) hX.2.2.2.2.2.2.1.1 hP (g_w_D E S) hS a0 a1 1 1 (g_cell_L hi) (g_cell_L hj) (ty := .long) rfl rfl rfl q1 q2 q3 q4 q5 (fun _ _ => rfl) (Nat.le_trans hf hX.2.2.2.2.2.2.2.2.1) (by have := hX.2.2.2.2.2.2.2.2.2.1; rw [g_cat]; omega) hd fun H1 locs1 hP1 _ hS1 => ?_⟩
  rw [g_rL_w hj] at hP1
  exact hG p e s m args below meth c R Q hX H1 locs1 ls hl hP1 hS1 h1 h2
/-- the end -/
theorem gJ.ret {z0 : ρ} {stk : List Value} (hd : decode (mc M) pc = .ok (g_ri (mt M), 1)) (hk : g_rok (mt M) (em z0).1) (hst : stk = (em z0).1.toList) : gJ em E M n0 s0 pc lv stk (em z0).2 (some z0) := by
  intro z hz
  cases hz
  refine ⟨Nat.le_refl _, Nat.le_refl _, fun p e s m args below meth c R Q hX H locs ls hl hP hS h1 h2 => ?_⟩
  rw [hst]
  exact hX.2.2.2.2.2.2.2.2.2.2.2.2 H locs ls pc hd hk hP hS
theorem X_iret {x : Int32} (hm : mt M = some .int) (hd : decode (mc M) pc = .ok (.ireturn, 1)) : gJ gI E M n0 s0 pc lv [.int x] S (some (x, S)) := gJ.ret (em := gI) (z0 := (x, S)) (by rw [hm]; exact hd) (by rw [hm]; trivial) rfl
def g_z {α : Type} (x : Int32) (o : Option α) : Option α := if x = 0 ∨ x = 1 then o else none
theorem X_zret {x : Int32} (hm : mt M = some .boolean) (hd : decode (mc M) pc = .ok (.ireturn, 1)) : gJ gI E M n0 s0 pc lv [.int x] S (g_z x (some (x, S))) := by
  intro z hz
  unfold g_z at hz
  by_cases hx : x = 0 ∨ x = 1
  · rw [if_pos hx] at hz
    exact gJ.ret (em := gI) (z0 := (x, S)) (by rw [hm]; exact hd) (by rw [hm]; exact hx) rfl z hz
  · rw [if_neg hx] at hz; cases hz
theorem X_z0 (hm : mt M = some .boolean) (hd : decode (mc M) pc = .ok (.ireturn, 1)) : gJ gI E M n0 s0 pc lv [.int 0] S (some (0, S)) := gJ.ret (em := gI) (z0 := (0, S)) (by rw [hm]; exact hd) (by rw [hm]; exact Or.inl rfl) rfl
theorem X_z1 (hm : mt M = some .boolean) (hd : decode (mc M) pc = .ok (.ireturn, 1)) : gJ gI E M n0 s0 pc lv [.int 1] S (some (1, S)) := gJ.ret (em := gI) (z0 := (1, S)) (by rw [hm]; exact hd) (by rw [hm]; exact Or.inr rfl) rfl
theorem X_lret {x : Int64} (hm : mt M = some .long) (hd : decode (mc M) pc = .ok (.lreturn, 1)) : gJ gL E M n0 s0 pc lv [.long x] S (some (x, S)) := gJ.ret (em := gL) (z0 := (x, S)) (by rw [hm]; exact hd) (by rw [hm]; trivial) rfl
theorem X_aret {x : Nat} {C : String} (hm : mt M = some (.object C)) (hd : decode (mc M) pc = .ok (.areturn, 1)) : gJ gR E M n0 s0 pc lv [.ref x] S (some (x, S)) := gJ.ret (em := gR) (z0 := (x, S)) (by rw [hm]; exact hd) (by rw [hm]; trivial) rfl
theorem X_vret (hm : mt M = none) (hd : decode (mc M) pc = .ok (.return_, 1)) : gJ gV E M n0 s0 pc lv [] S (some S) := gJ.ret (em := gV) (z0 := S) (by rw [hm]; exact hd) (by rw [hm]; trivial) rfl
end XM
