section XC
variable {ρ : Type} {em : ρ → Option Value × gS} {E : gE} {M : gM} {n0 s0 pc : Nat} {lv : List (Nat × Value)} {st : List Value} {S : gS} {o : Option ρ}
/-! ===== the heap's size is what the store says ===== -/
theorem g_sz {p : Program} {e : Env} {s : State} {m : MethodId} {args : Array Value} {below : List Frame} {meth : Method} {c : Code} {R : Room} {Q : State → Prop} {H : Heap} {locs : List Loc} {r : Option Value} {S' : gS} {slots : Nat} {T : State}
    (hX : gX E M n0 s0 r S' p e s m args below meth c R Q) (hP : g_P E S H) (hS : va_S (g_A E) s.heap H locs) (h1 : n0 ≤ gn S) (hT : T.heap = H) (X : Stand p (eL E) e R s m args below meth c T locs (gn S - n0) slots) : H.size = e0 E + gn S := by
  have a := X.heapSize
  have b := hX.2.2.2.2.2.2.2.1
  have d := hS.1
  rw [hT] at a
  by_cases h : gn S = n0
  · omega
  · have q : e0 E + (gn S - 1) < H.size := (hP (gn S - 1) _ (g_w_get (by omega))).lt
    omega
theorem g_noF : ((List.range 10).all fun ci => (List.range (gNf ci)).all fun j => match gTy ci j with | .float => false | .double => false | _ => true) = true := by decide +kernel
/-! ===== new cells ===== -/
def g_new {α : Type} (S : gS) (ci : Nat) (F : Nat → gS → Option α) : Option α := F (gn S) (g_al S ci 0 (gNf ci))
def g_nwa {α : Type} (S : gS) (ci : Nat) (n : Int32) (F : Nat → gS → Option α) : Option α := if n < 0 ∨ 1048576 < n.toNatClampNeg then none else F (gn S) (g_al S ci n.toNatClampNeg n.toNatClampNeg)
theorem g_newW {ci ln sl : Nat} {H H1 : Heap} (hP : g_P E S H) (hz : H.size = e0 E + gn S) (o1 : ∀ q, q < H.size → H1[q]? = H[q]?) (hat : va_at (eD E) vwCl (e0 E + gn S, g_cell E (g_al S ci ln sl) (gn S)) H1) : g_P E (g_al S ci ln sl) H1 := by
  unfold g_P
  rw [g_w_push]
  refine va_P.app (va_P.kept hP fun k q hk => o1 q.1 (hP k q hk).lt) fun k q hk => ?_
  have hz : k < 1 := (List.getElem?_eq_some_iff.mp hk).1
  rw [show k = 0 by omega] at hk
  cases hk
  exact hat
/-- what 'new' needs among the tables' words -/
def g_okN (own : String) (idx ci : Nat) : Prop := ci < 10 ∧ Cond.classLink own idx (g_cl ci).1 ∈ lw_good ∧ Cond.instantiable (g_cl ci).1 (g_cl ci).2.2 ∈ lw_good ∧ Cond.initialized (g_cl ci).1 ∈ lw_good
theorem X_new {idx ci : Nat} {F : Nat → gS → Option ρ} (ho : g_okN (my M).cls idx ci) (hd : decode (mc M) pc = .ok (.new idx, 3)) (h : ∀ k S1, gJ em E M n0 s0 (pc + 3) lv (.ref k :: st) S1 (F k S1)) : gJ em E M n0 s0 pc lv st S (g_new S ci F) := by
  intro z hz
  obtain ⟨m1, m2, hG⟩ := h _ _ z hz
  have q1 : gn (g_al S ci 0 (gNf ci)) = gn S + 1 := rfl
  have q2 : gsl (g_al S ci 0 (gNf ci)) = gsl S + gNf ci := rfl
  rw [q1] at m1
  rw [q2] at m2
  refine ⟨by omega, by omega, fun p e s m args below meth c R Q hX H locs ls hl hP hS h1 h2 => ?_⟩
  intro T hT X
  have hsz := g_sz hX hP hS h1 hT X
  obtain ⟨hx, hb, hml, hown, hts, hnm, hEv, hs0, hfr, hlo, hce, hsl, hret⟩ := id hX
  obtain ⟨hc, w1, w2, w3⟩ := ho
  have hKn := hEv.1.1 ci _ (g_cl_at ci hc)
  have KK : W p (eL E) e R s m args below meth c H locs (gn S - n0) (gsl S - s0) Q (F0 m pc ls (st.map (g_rv E))) := by
    refine W.newcK hx hb hown (hts _ w1) (hts _ w2) (hts _ w3) rfl hd (by omega) (by show gsl S - s0 + gNf ci ≤ _; omega) hKn.2.1 hsz fun H1 kC hkC e1 z1 o1 => ?_
    have hat : va_at (eD E) vwCl (e0 E + gn S, g_cell E (g_al S ci 0 (gNf ci)) (gn S)) H1 := by
      have hk : gK (g_al S ci 0 (gNf ci)) (gn S) = ci := by simp [g_al, gK]
      unfold g_cell
      rw [hk, if_pos hc]
      refine ⟨_, g_cl_at ci hc, (u_born (gTy ci) hts (g_in hc) hKn hkC e1 (g_tyok ci hc)).to ?_⟩
      intro j hj
      have hj2 : j < gNf ci := hj
      unfold vp_V
      rw [List.getD_eq_getElem?_getD, g_fv_at hj2]
      show defaultValue (gTy ci j) = g_fv E _ _ ci j
      have : ∀ ft : FieldType, gTy ci j = ft → ft ≠ .float → ft ≠ .double → defaultValue ft = g_fv E (g_al S ci 0 (gNf ci)) (gn S) ci j := by
        intro ft hft n1 n2
        unfold g_fv
        rw [hft]
        cases ft <;> first | exact absurd rfl n1 | exact absurd rfl n2 | (simp [g_ft, defaultValue, g_al, gfI, gfL, gfR, g_col, g_ad, va_rf]; done)
      refine this _ rfl ?_ ?_
      · intro hh
        have := List.all_eq_true.mp g_noF ci (List.mem_range.mpr hc)
        have := List.all_eq_true.mp this j (List.mem_range.mpr hj2)
        rw [hh] at this
        cases this
      · intro hh
        have := List.all_eq_true.mp g_noF ci (List.mem_range.mpr hc)
        have := List.all_eq_true.mp this j (List.mem_range.mpr hj2)
        rw [hh] at this
        cases this
    have K := hG p e s m args below meth c R Q hX H1 locs ls hl (g_newW hP hsz (by rw [hsz]; exact o1) hat) ⟨Nat.le_trans hS.1 (by omega), fun x h1 h2 => (o1 x (by have := hS.1; omega)).trans (hS.2.1 x h1 h2), hS.2.2⟩ (by rw [q1]; omega) (by rw [q2]; omega)
    rw [q1, q2, show gn S + 1 - n0 = gn S - n0 + 1 by omega, show gsl S + gNf ci - s0 = gsl S - s0 + gNf ci by omega] at K
    exact K
  exact KK T hT X
theorem X_newarr {atype : ArrayType} {ty : FieldType} {ci : Nat} {n : Int32} {F : Nat → gS → Option ρ} (hty : newarray.typeOf atype = ty) (hc : (ci = 10 ∧ ty = .int) ∨ (ci = 11 ∧ ty = .long) ∨ (ci = 12 ∧ ty = .boolean)) (hw : Cond.arrayClass ty ∈ lw_good) (hd : decode (mc M) pc = .ok (.newarray atype, 2)) (h : ∀ k S1, gJ em E M n0 s0 (pc + 2) lv (.ref k :: st) S1 (F k S1)) : gJ em E M n0 s0 pc lv (.int n :: st) S (g_nwa S ci n F) := by
  subst hty
  intro z hz
  unfold g_nwa at hz
  by_cases hn : n < 0 ∨ 1048576 < n.toNatClampNeg
  · rw [if_pos hn] at hz; cases hz
  rw [if_neg hn] at hz
  obtain ⟨m1, m2, hG⟩ := h _ _ z hz
  generalize hN : n.toNatClampNeg = N at *
  have q1 : gn (g_al S ci N N) = gn S + 1 := rfl
  have q2 : gsl (g_al S ci N N) = gsl S + N := rfl
  rw [q1] at m1
  rw [q2] at m2
  refine ⟨by omega, by omega, fun p e s m args below meth c R Q hX H locs ls hl hP hS h1 h2 => ?_⟩
  intro T hT X
  have hsz := g_sz hX hP hS h1 hT X
  obtain ⟨hx, hb, hml, hown, hts, hnm, hEv, hs0, hfr, hlo, hce, hsl, hret⟩ := id hX
  have hb2 : N * componentBytes (newarray.typeOf atype) ≤ 536870912 := by
    have : componentBytes (newarray.typeOf atype) ≤ 8 := by cases atype <;> decide
    calc N * componentBytes (newarray.typeOf atype) ≤ N * 8 := Nat.mul_le_mul_left _ this
      _ ≤ _ := by omega
  have KK : W p (eL E) e R s m args below meth c H locs (gn S - n0) (gsl S - s0) Q (F0 m pc ls (.int n :: st.map (g_rv E))) := by
    refine va_newaK hx hb (hts _ hw) rfl hd rfl (fun q => hn (Or.inl q)) hN hb2 (by omega) (by omega) hsz fun H1 cA e1 z1 o1 hAr hNm => ?_
    have hat : va_at (eD E) vwCl (e0 E + gn S, g_cell E (g_al S ci N N) (gn S)) H1 := by
      have hk : gK (g_al S ci N N) (gn S) = ci := by simp [g_al, gK]
      have hl2 : gln (g_al S ci N N) (gn S) = N := by simp [g_al, gln]
      have hI : gaI (g_al S ci N N) (gn S) = fun _ => 0 := by simp [g_al, gaI, g_row]
      have hL : gaL (g_al S ci N N) (gn S) = fun _ => 0 := by simp [g_al, gaL, g_row]
      unfold g_cell
      rw [hk, hl2, hI, hL]
      rcases hc with ⟨rfl, ht⟩ | ⟨rfl, ht⟩ | ⟨rfl, ht⟩
      · have hA := (hEv.1.2 0 (eC E 10, .int) rfl).2
        rw [ht] at e1 hNm
        have : cA = eC E 10 := Option.some.inj (hNm.symm.trans hA)
        subst this
        exact e1
      · have hA := (hEv.1.2 1 (eC E 11, .long) rfl).2
        rw [ht] at e1 hNm
        have : cA = eC E 11 := Option.some.inj (hNm.symm.trans hA)
        subst this
        exact e1
      · have hA := (hEv.1.2 2 (eC E 12, .boolean) rfl).2
        rw [ht] at e1 hNm
        have : cA = eC E 12 := Option.some.inj (hNm.symm.trans hA)
        subst this
        exact e1
    have K := hG p e s m args below meth c R Q hX H1 locs ls hl (g_newW hP hsz (by rw [hsz]; exact o1) hat) ⟨Nat.le_trans hS.1 (by omega), fun x h1 h2 => (o1 x (by have := hS.1; omega)).trans (hS.2.1 x h1 h2), hS.2.2⟩ (by rw [q1]; omega) (by rw [q2]; omega)
    rw [q1, q2, show gn S + 1 - n0 = gn S - n0 + 1 by omega, show gsl S + N - s0 = gsl S - s0 + N by omega] at K
    exact K
  exact KK T hT X
theorem X_anew {idx ci : Nat} {C : String} {n : Int32} {F : Nat → gS → Option ρ} (hc : (ci = 13 ∧ C = RX4) ∨ (ci = 14 ∧ C = RX6)) (hw : Cond.classLink (my M).cls idx C ∈ lw_good) (hd : decode (mc M) pc = .ok (.anewarray idx, 3)) (h : ∀ k S1, gJ em E M n0 s0 (pc + 3) lv (.ref k :: st) S1 (F k S1)) : gJ em E M n0 s0 pc lv (.int n :: st) S (g_nwa S ci n F) := by
  intro z hz
  unfold g_nwa at hz
  by_cases hn : n < 0 ∨ 1048576 < n.toNatClampNeg
  · rw [if_pos hn] at hz; cases hz
  rw [if_neg hn] at hz
  obtain ⟨m1, m2, hG⟩ := h _ _ z hz
  have q1 : gn (g_al S ci n.toNatClampNeg n.toNatClampNeg) = gn S + 1 := rfl
  have q2 : gsl (g_al S ci n.toNatClampNeg n.toNatClampNeg) = gsl S + n.toNatClampNeg := rfl
  rw [q1] at m1
  rw [q2] at m2
  refine ⟨by omega, by omega, fun p e s m args below meth c R Q hX H locs ls hl hP hS h1 h2 => ?_⟩
  intro T hT X
  have hsz := g_sz hX hP hS h1 hT X
  obtain ⟨hx, hb, hml, hown, hts, hnm, hEv, hs0, hfr, hlo, hce, hsl, hret⟩ := id hX
  have hAO : va_AO C s := by
    rcases hc with ⟨-, rfl⟩ | ⟨-, rfl⟩
    · exact hEv.2.2.2.2.2.1
    · exact hEv.2.2.2.2.2.2
  have KK : W p (eL E) e R s m args below meth c H locs (gn S - n0) (gsl S - s0) Q (F0 m pc ls (.int n :: st.map (g_rv E))) := by
    refine W.anew hx hb hown (hts _ hw) (va_AO.use hAO) rfl hd rfl (fun q => hn (Or.inl q)) (by omega) (by omega) (by omega) fun cA kA comp f1 f2 f3 f4 => ?_
    generalize hH1 : H.push ({ cls := cA, slots := Array.replicate n.toNatClampNeg .null, vm := .none } : Cell) = H1
    have z1 : H1.size = H.size + 1 := by rw [← hH1, Array.size_push]
    have e1 : H1[H.size]? = some (arrV cA n.toNatClampNeg (fun _ => .null)) := by rw [← hH1, Array.getElem?_push_size, ← arrV_new]
    have o1 : ∀ q : Nat, q < H.size → H1[q]? = H[q]? := fun q hq => by rw [← hH1, Array.getElem?_push, if_neg (Nat.ne_of_lt hq)]
    rw [hsz] at e1
    have hat : va_at (eD E) vwCl (e0 E + gn S, g_cell E (g_al S ci n.toNatClampNeg n.toNatClampNeg) (gn S)) H1 := by
      have hk : gK (g_al S ci n.toNatClampNeg n.toNatClampNeg) (gn S) = ci := by simp [g_al, gK]
      have hl2 : gln (g_al S ci n.toNatClampNeg n.toNatClampNeg) (gn S) = n.toNatClampNeg := by simp [g_al, gln]
      have hR : gaR (g_al S ci n.toNatClampNeg n.toNatClampNeg) (gn S) = fun _ => none := by simp [g_al, gaR, g_row]
      unfold g_cell
      rw [hk, hl2, hR]
      rcases hc with ⟨rfl, rfl⟩ | ⟨rfl, rfl⟩
      · obtain ⟨kA', comp', g1, g2, g3, g4⟩ := (hEv.1.2 3 (eC E 13, .object RX4) rfl).2
        have : cA = eC E 13 := Option.some.inj (f1.symm.trans g4)
        subst this
        exact e1
      · obtain ⟨kA', comp', g1, g2, g3, g4⟩ := (hEv.1.2 4 (eC E 14, .object RX6) rfl).2
        have : cA = eC E 14 := Option.some.inj (f1.symm.trans g4)
        subst this
        exact e1
    have K := hG p e s m args below meth c R Q hX H1 locs ls hl (g_newW hP hsz o1 hat) ⟨Nat.le_trans hS.1 (by omega), fun x h1 h2 => (o1 x (by have := hS.1; omega)).trans (hS.2.1 x h1 h2), hS.2.2⟩ (by rw [q1]; omega) (by rw [q2]; omega)
    rw [q1, q2, show gn S + 1 - n0 = gn S - n0 + 1 by omega, show gsl S + n.toNatClampNeg - s0 = gsl S - s0 + n.toNatClampNeg by omega] at K
    rw [hsz]
    exact K
  exact KK T hT X
end XC
