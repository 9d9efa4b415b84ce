/-! THE CLAIM OUT OF ONE WALK OF THE LAW'S BODY. Your part is whole_start (and what it stands on); all else here is the same for every law, but numbers. -/
def R_law : String := "ShiftHouseLaw"
def lw_P (b : Addr) (xs : List Int32) (args : Array Value) (s : State) : Prop := args = #[.ref b] ∧ s.IntsAt b xs ∧ xs.length ≤ 3072 ∧ (Jvm.Cond.and given_1 narrow_1).before args s = true
def lw_Q (_ : Array Value) (s : State) (o : Outcome) (t : State) : Prop := o = .returned (some (.int 1)) ∧ Framed s o t [] 600000 7302250
def lw_Z (below : List Frame) (a : Array Value) (s : State) : State → Prop := fun t => ∃ o, t.status = .running ∧ Ended t below o ∧ lw_Q a s o t
/-- the law's own end, with 1 on the stack, nothing written that was there before, its room as the claim has it -/
theorem lw_ret {p : Program} {l : Launch} {e : Env} {s : State} {m : MethodId} {below : List Frame} {meth : Method} {c : Code} {b : Nat} (hx : p.tables.exec = Jvm.exec) (hb : c.code = code) (hr : meth.sig.returnType = ret) (hlocks : meth.locks = false) {pc : Nat} {H : Heap} {ls : Array Slot} (hdg : decode code pc = .ok (.ireturn, 1)) : W p l e room_1 s m #[Value.ref b] below meth c H [] 600000 7302250 (lw_Z below #[Value.ref b] s) (F0 m pc ls [.int 1]) := by
  intro T hT X
  obtain ⟨fs, hret, hrun, hended, hW, hframe⟩ := X.leave (v := some (.int 1)) (hlocks := hlocks) (fun h => by rw [hr] at h; cases h)
  have hmeth' : T.vm.method? m = some meth := X.method'
  refine ⟨T.setFrames fs, ?_, .returned (some (.int 1)), hrun, hended, rfl, ⟨_, rfl⟩, hW, hframe⟩
  jvm_step X.here [X.here.top, hx, hb, hdg, hmeth', hr, ret, narrow_b1]
  (try refine ⟨rfl, ?_⟩); (try refine ⟨rfl, ?_⟩)
  first | (intro acts; rw [hret _ acts rfl rfl rfl]) | rw [hret _ _ rfl rfl rfl]
  exact Steps.refl _
/-- what holds at the law's entry: the machine, the code, the tables' words (any of lw_tbl by 'hts w (by decide +kernel)'), the script of L ints xs at the cell b, what the Statement gives of the start (any of its parts by flat_of_before) -/
def lw_At (p : Program) (s : State) (m : MethodId) (meth : Method) (c : Code) (b L : Nat) (xs : Nat → Int32) : Prop :=
  p.tables.exec = Jvm.exec ∧ c.code = code ∧ meth.sig.returnType = ret ∧ c.maxLocals = 4 ∧ s.vm.findClass R_law = some m.cls ∧ (∀ w ∈ lw_tbl, w.before #[Value.ref b] s = true) ∧ va_X b L xs s s.heap ∧ b < s.heap.size ∧ meth.locks = false ∧ (Jvm.Cond.and given_1 narrow_1).before #[Value.ref b] s = true

/-- the store before the law makes anything -/
def g_S0 : gS := ((fun _ _ => 0), (fun _ _ => 0), (fun _ _ => none), (fun _ _ => 0), (fun _ _ => 0), (fun _ _ => none), (fun _ => 0), (fun _ => 0), 0, 0)
theorem lw_in : ∀ w ∈ lw_good, w ∈ lw_tbl := fun _ h => (List.mem_filter.mp h).1
theorem g_inst0 : ((List.range 10).all fun ci => decide (Cond.instantiable (g_cl ci).1 (g_cl ci).2.2 ∈ tables_1)) = true := by decide +kernel
theorem g_arrs : Cond.arrayClass .int ∈ tables_1 ∧ Cond.arrayClass .long ∈ tables_1 ∧ Cond.arrayClass .boolean ∈ tables_1 ∧ Cond.arrayOver (.object RX4) ∈ tables_1 ∧ Cond.arrayOver (.object RX6) ∈ tables_1 ∧ Cond.laysStatic "ShiftHouse$Schema" "CAN_BECOME" "[I" ∈ tables_1 ∧ Cond.initialized "ShiftHouse$Schema" ∈ tables_1 := by
  refine ⟨?_, ?_, ?_, ?_, ?_, ?_, ?_⟩ <;> decide +kernel
theorem g_arrK {s : State} {args : Array Value} {ty : FieldType} (h : (Cond.arrayClass ty).before args s = true) (hn : ∀ C, ty ≠ .object C) : ∃ cA, ArrOfT s cA ty ∧ va_RA s cA ty := by
  obtain ⟨cA, kA, comp, h1, h2, h3⟩ := Cond.arrayClass_spec h
  refine ⟨cA, fun n z => ⟨fun k h => (by cases h), kA, h2, comp, h3⟩, ?_⟩
  cases ty with
  | object C => exact absurd rfl (hn C)
  | _ => exact h1
theorem g_arrO {s : State} {args : Array Value} {C : String} (h : (Cond.arrayOver (.object C)).before args s = true) : ∃ cA, ArrOfT s cA (.object C) ∧ va_RA s cA (.object C) := by
  obtain ⟨comp, c, k, h1, h2, h3, h4, h5⟩ := Cond.arrayOver_spec h
  exact ⟨c, fun n z => ⟨fun k h => (by cases h), k, h3, comp, h4⟩, k, comp, h3, h4, h1, h5⟩

/-- WHAT IS LEFT, in numbers alone: for every script the law's function answers 1, in the room -/
def g_Claim : Prop := ∀ E : gE, eN E ≤ 3072 → ∃ S', f_L_law E g_S0 = some (1, S') ∧ gn S' ≤ 600000 ∧ gsl S' ≤ 7302250
set_option maxHeartbeats 4000000 in
set_option maxRecDepth 100000 in
theorem whole_of (hcl : g_Claim) {p : Program} {e : Env} {s : State} {m : MethodId} {below : List Frame} {meth : Method} {c : Code} (l : Launch) {b L : Nat} {xs : Nat → Int32} (hL : L ≤ 3072) (C0 : lw_At p s m meth c b L xs) : W p l e room_1 s m #[Value.ref b] below meth c s.heap [] 0 0 (lw_Z below #[Value.ref b] s) (entryFrame m ([Value.ref b] : List Value).toArray 4) := by
  obtain ⟨hx, hb, hr, hml, hown, hts, hX, hbl, hlocks, hgv⟩ := id C0
  have htb : ∀ w ∈ tables_1, w.before #[Value.ref b] s = true := fun w h => hts w (List.mem_append_right _ h)
  have htg : ∀ w ∈ lw_good, w.before #[Value.ref b] s = true := fun w h => hts w (lw_in w h)
  obtain ⟨a1, a2, a3, a4, a5, a6, a7⟩ := g_arrs
  obtain ⟨cI, kI⟩ := g_arrK (htb _ a1) (fun C h => by cases h)
  obtain ⟨cJ, kJ⟩ := g_arrK (htb _ a2) (fun C h => by cases h)
  obtain ⟨cZ, kZ⟩ := g_arrK (htb _ a3) (fun C h => by cases h)
  obtain ⟨cR, kR⟩ := g_arrO (htb _ a4)
  obtain ⟨cP, kP⟩ := g_arrO (htb _ a5)
  have hcls : ∀ ci, ∃ (cC : ClassId) (iS : Nat → Nat), ci < 10 → u_Kn s (g_cl ci).1 (g_cl ci).2.1 (g_cl ci).2.2 cC iS := by
    intro ci
    by_cases hc : ci < 10
    · have h1 := List.all_eq_true.mp g_inst0 ci (List.mem_range.mpr hc)
      simp only [decide_eq_true_eq] at h1
      obtain ⟨cC, iS, h⟩ := u_known (C := (g_cl ci).1) (T := (g_cl ci).2.1) (N := (g_cl ci).2.2) htg (g_in hc) (htb _ h1)
      exact ⟨cC, iS, fun _ => h⟩
    · exact ⟨0, fun _ => 0, fun h => absurd h hc⟩
  have hgf := flat_of_before _ hgv
  have hA : ∀ a : Nat, a < s.heap.size → ¬ (fun q : Nat => s.heap.size ≤ q) a := fun a h => Nat.not_le.mpr h
  have harr : (Cond.arrayOf (.static "ShiftHouse$Schema" "CAN_BECOME" "[I") .int).before #[Value.ref b] s = true := hgf _ (by decide +kernel)
  have hlen : (Cond.eq (.length (.static "ShiftHouse$Schema" "CAN_BECOME" "[I")) (.int 5)).before #[Value.ref b] s = true := hgf _ (by decide +kernel)
  have he0 : (Cond.eq (.elem (.static "ShiftHouse$Schema" "CAN_BECOME" "[I") (.int 0)) (.int 14)).before #[Value.ref b] s = true := hgf _ (by decide +kernel)
  have he1 : (Cond.eq (.elem (.static "ShiftHouse$Schema" "CAN_BECOME" "[I") (.int 1)) (.int 13)).before #[Value.ref b] s = true := hgf _ (by decide +kernel)
  have he2 : (Cond.eq (.elem (.static "ShiftHouse$Schema" "CAN_BECOME" "[I") (.int 2)) (.int 27)).before #[Value.ref b] s = true := hgf _ (by decide +kernel)
  have he3 : (Cond.eq (.elem (.static "ShiftHouse$Schema" "CAN_BECOME" "[I") (.int 3)) (.int 23)).before #[Value.ref b] s = true := hgf _ (by decide +kernel)
  have he4 : (Cond.eq (.elem (.static "ShiftHouse$Schema" "CAN_BECOME" "[I") (.int 4)) (.int 12)).before #[Value.ref b] s = true := hgf _ (by decide +kernel)
  obtain ⟨bs, hbs, hT⟩ := va_Tof (f := fun j => .int (g_cb j)) (A := fun q : Nat => s.heap.size ≤ q) (N := 5) (by decide) harr (va_eqt hlen) (fun j hj => by
    rcases (show j = 0 ∨ j = 1 ∨ j = 2 ∨ j = 3 ∨ j = 4 by omega) with rfl | rfl | rfl | rfl | rfl
    · exact va_eqt he0
    · exact va_eqt he1
    · exact va_eqt he2
    · exact va_eqt he3
    · exact va_eqt he4) hA
  have hZ := va_Zref (A := fun q : Nat => s.heap.size ≤ q) (htb _ a6) (htb _ a7) hbs hA
  let E : gE := (l, ((fun ci => Classical.choose (hcls ci)), (fun ci => Classical.choose (Classical.choose_spec (hcls ci)))), (fun k => if k = 10 then cI else if k = 11 then cJ else if k = 12 then cZ else if k = 13 then cR else cP), s.heap.size, b, bs, L, xs)
  obtain ⟨S', hf, hn, hs⟩ := hcl E hL
  have hScr : va_T .int b L (fun j => .int (xs j)) (fun q : Nat => s.heap.size ≤ q) s s.heap := by
    obtain ⟨scr, h1, h2, h3, h4, h5⟩ := hX
    refine ⟨scr, h1, h2, h3, Nat.le_of_eq h4.symm, by rw [h4], h5, hA b hbl⟩
  have hEv : g_Ev E s := by
    refine ⟨⟨fun ci q hq => ?_, fun k q hk => ?_⟩, hScr, hZ, hT, fun w hw => ?_, va_AO.of (htb _ a4), va_AO.of (htb _ a5)⟩
    · have hci : ci < 10 := (List.getElem?_eq_some_iff.mp hq).1
      have := Option.some.inj ((g_cl_at ci hci).symm.trans hq)
      subst this
      exact Classical.choose_spec (Classical.choose_spec (hcls ci)) hci
    · match k, hk with
      | 0, hk => cases hk; exact kI
      | 1, hk => cases hk; exact kJ
      | 2, hk => cases hk; exact kZ
      | 3, hk => cases hk; exact kR
      | 4, hk => cases hk; exact kP
      | k + 5, hk => simp [g_tys] at hk
    · obtain ⟨a, i, x, hh, rfl⟩ := g_nest_form w hw
      exact va_Nw.of rfl (htb _ (g_nests_in _ hw))
  obtain ⟨-, -, hG⟩ := c_L_law E (n0 := 0) (s0 := 0) g_S0 (1, S') hf
  have hXX : gX E M_L_law 0 0 (gI (1, S')).1 (gI (1, S')).2 p e s m #[Value.ref b] below meth c room_1 (lw_Z below #[Value.ref b] s) := by
    refine ⟨hx, hb, hml, hown, htg, fun h => absurd h (by decide), hEv, rfl, by decide, by decide, hn, hs, ?_⟩
    · intro H locs ls pc hd _ _ hS
      refine va_forget (fun q hq => hS.2.2 q hq) ?_
      refine W.widen (k := 600000) (n := 7302250) hn hs ?_
      exact lw_ret hx hb hr hlocks hd
  have hl := lv_entry ([.ref b]) (n := 4) (Nat.le_of_ble_eq_true rfl)
  rw [lg_entry_eq]
  generalize (lg_sl ([.ref b]) ++ List.replicate (4 - (lg_sl ([.ref b])).length) Slot.unset).toArray = ls at hl ⊢
  have hP : g_P E g_S0 s.heap := fun k q h => by simp [g_w, g_S0, gn] at h
  exact hG p e s m #[Value.ref b] below meth c room_1 _ hXX s.heap [] ls hl hP va_S.rf (Nat.le_refl _) (Nat.le_refl _)
