theorem g_cl_at : ∀ ci, ci < 10 → vwCl[ci]? = some (g_cl ci) := by
  intro ci h
  match ci, h with
  | 0, _ => rfl
  | 1, _ => rfl
  | 2, _ => rfl
  | 3, _ => rfl
  | 4, _ => rfl
  | 5, _ => rfl
  | 6, _ => rfl
  | 7, _ => rfl
  | 8, _ => rfl
  | 9, _ => rfl
  | n + 10, h => exact absurd h (by omega)
theorem g_nm : ∀ ci, ci < 10 → ∀ a, a < gNf ci → ∀ b, b < gNf ci → a ≠ b → ((g_cl ci).2.1 a).2.1 ≠ ((g_cl ci).2.1 b).2.1 := by
  intro ci h
  match ci, h with
  | 0, _ => exact nmX0
  | 1, _ => exact nmX1
  | 2, _ => exact nmX2
  | 3, _ => exact nmX3
  | 4, _ => exact nmX4
  | 5, _ => exact nmX5
  | 6, _ => exact nmX6
  | 7, _ => exact nmX7
  | 8, _ => exact nmX8
  | 9, _ => exact nmX9
  | n + 10, h => exact absurd h (by omega)
theorem g_tyok : ∀ ci, ci < 10 → ∀ k, k < gNf ci → parseFieldDescriptor ((g_cl ci).2.1 k).2.2.1 = some (gTy ci k) := by
  intro ci h
  match ci, h with
  | 0, _ => exact tyX0_ok
  | 1, _ => exact tyX1_ok
  | 2, _ => exact tyX2_ok
  | 3, _ => exact tyX3_ok
  | 4, _ => exact tyX4_ok
  | 5, _ => exact tyX5_ok
  | 6, _ => exact tyX6_ok
  | 7, _ => exact tyX7_ok
  | 8, _ => exact tyX8_ok
  | 9, _ => exact tyX9_ok
  | n + 10, h => exact absurd h (by omega)
theorem g_in0 : ((List.range 10).all fun ci => (u_ws (g_cl ci).1 (g_cl ci).2.1 (g_cl ci).2.2).all fun w => decide (w ∈ tables_1) && goodWord w) = true := by decide +kernel
theorem g_in {ci : Nat} (h : ci < 10) : ∀ w ∈ u_ws (g_cl ci).1 (g_cl ci).2.1 (g_cl ci).2.2, w ∈ lw_good := by
  intro w hw
  have h1 := List.all_eq_true.mp (List.all_eq_true.mp g_in0 ci (List.mem_range.mpr h)) w hw
  simp only [Bool.and_eq_true, decide_eq_true_eq] at h1
  exact lw_good_of (List.mem_append_right _ h1.1) h1.2
/-! ===== what stays true of every state in which a method starts ===== -/
def g_cb (j : Nat) : Int32 := ([14, 13, 27, 23, 12] : List Int32).getD j 0
def g_nests : List Cond := [.methodLinkNest RX8 9 yX0_init "ShiftHouse", .methodLinkNest RX7 17 yX4_init "ShiftHouse", .methodLinkNest RX4 11 yX2_init "ShiftHouse", .methodLinkNest RX8 25 yX1_init "ShiftHouse", .methodLinkNest RX1 17 yX2_init "ShiftHouse", .methodLinkNest RX8 32 yX2_init "ShiftHouse", .methodLinkNest RX8 39 yX5_init "ShiftHouse", .methodLinkNest RX3 21 yX6_init "ShiftHouse"]
theorem g_nests_in : ∀ w ∈ g_nests, w ∈ tables_1 := by decide +kernel
theorem g_nest_form : ∀ w ∈ g_nests, ∃ a i x h, w = Cond.methodLinkNest a i x h := by
  intro w hw
  simp only [g_nests, List.mem_cons, List.not_mem_nil, or_false] at hw
  rcases hw with rfl | rfl | rfl | rfl | rfl | rfl | rfl | rfl <;> exact ⟨_, _, _, _, rfl⟩
def g_Ev (E : gE) (U : State) : Prop := va_K (eD E) vwCl (g_tys E) U ∧ va_T .int (eB E) (eN E) (fun j => .int (eX E j)) (g_A E) U U.heap ∧ va_Z "ShiftHouse$Schema" "CAN_BECOME" "[I" (.ref (eT E)) (g_A E) U U.heap ∧ va_T .int (eT E) 5 (fun j => .int (g_cb j)) (g_A E) U U.heap ∧ (∀ w ∈ g_nests, va_Nw w U) ∧ va_AO RX4 U ∧ va_AO RX6 U
theorem g_Ev.to {E : gE} {s U : State} (hW : s.WarmedH U.vm) (hk : ∀ a : Nat, a < s.heap.size → ¬ g_A E a → U.heap[a]? = s.heap[a]?) (h : g_Ev E s) : g_Ev E U := by
  obtain ⟨h1, h2, h3, h4, h5, h6, h7⟩ := h
  refine ⟨va_K.moved hW.alike h1, va_T.moved hW.alike (h2.kept hk), va_Z.moved hW.alike (h3.kept hk), va_T.moved hW.alike (h4.kept hk), fun w hw => ?_, va_AO.moved hW.alike h6, va_AO.moved hW.alike h7⟩
  obtain ⟨a, i, x, hh, rfl⟩ := g_nest_form w hw
  exact va_Nw.warmM hW (h5 _ hw)
theorem g_Ev.calling {E : gE} {U : State} {g : JFrame} {mk : MethodId} {a : Array Value} (h : g_Ev E U) : g_Ev E (U.calling g mk a) := by
  obtain ⟨h1, h2, h3, h4, h5, h6, h7⟩ := h
  have hv : U.vm.Alike (U.calling g mk a).vm := Vm.Alike.refl U.vm
  refine ⟨va_K.moved hv h1, va_T.moved hv h2, va_Z.moved hv h3, va_T.moved hv h4, fun w hw => ?_, va_AO.moved hv h6, va_AO.moved hv h7⟩
  obtain ⟨b, i, x, hh, rfl⟩ := g_nest_form w hw
  exact va_Nw.same rfl rfl (h5 _ hw)
/-! ===== a method: its name, its code, its locals, what it answers, its room ===== -/
def gM : Type := MethodName × ByteArray × Nat × Option FieldType × Nat × Nat
def my (M : gM) : MethodName := M.1
def mc (M : gM) : ByteArray := M.2.1
def ml (M : gM) : Nat := M.2.2.1
def mt (M : gM) : Option FieldType := M.2.2.2.1
def mf (M : gM) : Nat := M.2.2.2.2.1
def mo (M : gM) : Nat := M.2.2.2.2.2
def m_ws (M : gM) : List Cond := .code (my M) (mc M) (ml M) (mt M) :: lw_good
def g_rv (E : gE) : Value → Value
  | .ref k => .ref (e0 E + k)
  | .retAddr k => .ref (if k = 0 then eB E else eT E)
  | v => v
theorem g_rv_cat (E : gE) (v : Value) : (g_rv E v).category = v.category := by cases v <;> rfl
def g_lv (E : gE) (lv : List (Nat × Value)) : List (Nat × Value) := lv.map (fun q => (q.1, g_rv E q.2))
/-- the instruction that ends a method, and what it may answer -/
def g_ri : Option FieldType → Instr
  | none => .return_
  | some .long => .lreturn
  | some (.object _) => .areturn
  | some (.array _) => .areturn
  | _ => .ireturn
def g_rok : Option FieldType → Option Value → Prop
  | none, none => True
  | some .int, some (.int _) => True
  | some .boolean, some (.int x) => x = 0 ∨ x = 1
  | some .long, some (.long _) => True
  | some (.object _), some (.ref _) => True
  | _, _ => False
def gX (E : gE) (M : gM) (n0 s0 : Nat) (r : Option Value) (S' : gS) (p : Program) (e : Env) (s : State) (m : MethodId) (args : Array Value) (below : List Frame) (meth : Method) (c : Code) (R : Room) (Q : State → Prop) : Prop :=
  p.tables.exec = Jvm.exec ∧ c.code = mc M ∧ c.maxLocals = ml M ∧ s.vm.findClass (my M).cls = some m.cls ∧ (∀ w ∈ lw_good, w.before args s = true) ∧ ((my M).name = "<init>" → meth.name = "<init>") ∧ g_Ev E s ∧ s.heap.size = e0 E + n0 ∧
  mf M ≤ R.frames ∧ mo M ≤ R.locals ∧ gn S' - n0 ≤ R.cells ∧ gsl S' - s0 ≤ R.slots ∧
  (∀ (H : Heap) (locs : List Loc) (ls : Array Slot) (pc : Nat), decode (mc M) pc = .ok (g_ri (mt M), 1) → g_rok (mt M) r → g_P E S' H → va_S (g_A E) s.heap H locs →
    W p (eL E) e R s m args below meth c H locs (gn S' - n0) (gsl S' - s0) Q (F0 m pc ls (r.toList.map (g_rv E))))
def gG (E : gE) (M : gM) (n0 s0 pc : Nat) (lv : List (Nat × Value)) (st : List Value) (S : gS) (r : Option Value) (S' : gS) : Prop :=
  ∀ (p : Program) (e : Env) (s : State) (m : MethodId) (args : Array Value) (below : List Frame) (meth : Method) (c : Code) (R : Room) (Q : State → Prop), gX E M n0 s0 r S' p e s m args below meth c R Q →
    ∀ (H : Heap) (locs : List Loc) (ls : Array Slot), lv_has ls (ml M) (g_lv E lv) → g_P E S H → va_S (g_A E) s.heap H locs → n0 ≤ gn S → s0 ≤ gsl S →
      W p (eL E) e R s m args below meth c H locs (gn S - n0) (gsl S - s0) Q (F0 m pc ls (st.map (g_rv E)))
/-- THE JUDGEMENT: from here on the method comes to what o says -/
def gJ {ρ : Type} (em : ρ → Option Value × gS) (E : gE) (M : gM) (n0 s0 pc : Nat) (lv : List (Nat × Value)) (st : List Value) (S : gS) (o : Option ρ) : Prop :=
  ∀ z, o = some z → gn S ≤ gn (em z).2 ∧ gsl S ≤ gsl (em z).2 ∧ gG E M n0 s0 pc lv st S (em z).1 (em z).2
/-- A CONTRACT -/
def g_Pc (E : gE) (args : List Value) (S : gS) : Array Value → State → Prop := va_Pc (args.map (g_rv E)) (fun U => U.heap.size = e0 E + gn S ∧ g_P E S U.heap ∧ g_Ev E U)
def g_Qc (E : gE) (r : Option Value) (S' : gS) : Array Value → State → Outcome → State → Prop := fun _ st oc t => oc = .returned (r.map (g_rv E)) ∧ g_P E S' t.heap ∧ va_F (g_A E) st t
def gC {ρ : Type} (em : ρ → Option Value × gS) (E : gE) (M : gM) (args : List Value) (S : gS) (o : Option ρ) : Prop :=
  ∀ z, o = some z → gn S ≤ gn (em z).2 ∧ gsl S ≤ gsl (em z).2 ∧ Met (eL E) (my M) (m_ws M) ({ frames := mf M, cells := gn (em z).2 - gn S, slots := gsl (em z).2 - gsl S, locals := mo M }) (g_Pc E args S) (g_Qc E (em z).1 (em z).2) (gn (em z).2 - gn S) (gsl (em z).2 - gsl S) (g_A E)
def gI (z : Int32 × gS) : Option Value × gS := (some (.int z.1), z.2)
def gL (z : Int64 × gS) : Option Value × gS := (some (.long z.1), z.2)
def gR (z : Nat × gS) : Option Value × gS := (some (.ref z.1), z.2)
def gV (z : gS) : Option Value × gS := (none, z)
theorem gJ.none {ρ : Type} {em : ρ → Option Value × gS} {E : gE} {M : gM} {n0 s0 pc : Nat} {lv : List (Nat × Value)} {st : List Value} {S : gS} : gJ em E M n0 s0 pc lv st S none := fun _ h => by cases h
theorem gC.of {ρ : Type} {em : ρ → Option Value × gS} {E : gE} {M : gM} {args : List Value} {S : gS} {o : Option ρ} (hy : plainName (my M).cls = true) (hn : (lg_sl (args.map (g_rv E))).length ≤ ml M) (hJ : gJ em E M (gn S) (gsl S) 0 (lv_args 0 args) [] S o) : gC em E M args S o := by
  intro z hz
  obtain ⟨m1, m2, hG⟩ := hJ z hz
  refine ⟨m1, m2, Met.ofW (cc := mc M) (maxL := ml M) (ret := mt M) hy rfl ?_⟩
  intro p e s m ar below meth c s₁ B hml hv
  obtain ⟨rfl, hsz, hP, hEv⟩ := hv
  have hts := atoms_spec (ws := m_ws M) B.pre
  have hown : s.vm.findClass (my M).cls = some m.cls := findClass_of_methodNamed B.named
  have hlocks : meth.locks = false := B.notSynchronized
  have hnm : meth.name = (my M).name := (name_of_methodNamed B.named B.method).1
  have hl := lv_entry (args.map (g_rv E)) (n := ml M) hn
  rw [lg_entry_eq]
  generalize (lg_sl (args.map (g_rv E)) ++ List.replicate (ml M - (lg_sl (args.map (g_rv E))).length) Slot.unset).toArray = ls at hl ⊢
  have hla : ∀ (as : List Value) (i : Nat), lv_args i (as.map (g_rv E)) = g_lv E (lv_args i as) := by
    intro as
    induction as with
    | nil => intro i; rfl
    | cons a as ih =>
      intro i
      show (i, g_rv E a) :: lv_args (if (g_rv E a).category = 2 then i + 2 else i + 1) (as.map (g_rv E)) = _
      rw [g_rv_cat, ih]
      rfl
  rw [hla] at hl
  have hX : gX E M (gn S) (gsl S) (em z).1 (em z).2 p e s m (args.map (g_rv E)).toArray below meth c (headSpec (m_ws M) { frames := mf M, cells := gn (em z).2 - gn S, slots := gsl (em z).2 - gsl S, locals := mo M }).room (MQ below (g_Qc E (em z).1 (em z).2) (args.map (g_rv E)).toArray s (gn (em z).2 - gn S) (gsl (em z).2 - gsl S) (g_A E)) := by
    refine ⟨B.exec, B.bytes, hml, hown, fun w hw => hts w (List.mem_cons_of_mem _ hw), fun h => hnm.trans h, hEv, hsz, Nat.le_refl _, Nat.le_refl _, Nat.le_refl _, Nat.le_refl _, ?_⟩
    intro H locs ls pc hd hok hP' hS
    have hx := B.exec
    have hb := B.bytes
    have hr : meth.sig.returnType = mt M := B.returns
    have hq : ∀ t : State, t.heap = H → s.WarmedH t.vm → g_Qc E (em z).1 (em z).2 (args.map (g_rv E)).toArray s (.returned ((em z).1.map (g_rv E))) t := fun t ht _ => ⟨rfl, by rw [ht]; exact hP', hS.F ht⟩
    generalize (em z).1 = r at hok hq ⊢
    cases r with
    | none =>
      cases hmt : mt M with
      | none => rw [hmt] at hd hr; exact W.vret hx hb hr hq hS.2.2 hd
      | some ft => rw [hmt] at hok; cases ft <;> exact hok.elim
    | some v =>
      cases hmt : mt M with
      | none => rw [hmt] at hok; exact hok.elim
      | some ft =>
        rw [hmt] at hd hr hok
        cases ft with
        | int => cases v <;> first | exact hok.elim | exact W.iret hx hb hr hq hS.2.2 hd
        | boolean =>
          cases v with
          | int x =>
            refine W.zret hx hb hr ?_ hq hS.2.2 hd
            rcases hok with h | h <;> subst h <;> decide
          | _ => exact hok.elim
        | long => cases v <;> first | exact hok.elim | exact W.lret hx hb hr hq hS.2.2 hd
        | object nm =>
          cases v with
          | ref a => exact W.aret (v := .ref (e0 E + a)) hx hb hr (Or.inl ⟨_, rfl⟩) (Or.inr ⟨_, rfl⟩) hq hS.2.2 hd
          | _ => exact hok.elim
        | _ => exact hok.elim
  have K := hG p e s m _ below meth c _ _ hX s.heap [] ls hl hP va_S.rf (Nat.le_refl _) (Nat.le_refl _)
  rw [Nat.sub_self, Nat.sub_self] at K
  exact K
