section XR
variable {ρ : Type} {em : ρ → Option Value × gS} {E : gE} {M : gM} {n0 s0 pc : Nat} {lv : List (Nat × Value)} {st : List Value} {S : gS} {o : Option ρ}
/-- an instruction that touches the stack alone -/
theorem gJ.step {pc2 : Nat} {st2 : List Value}
    (hW : ∀ (p : Program) (e : Env) (s : State) (m : MethodId) (args : Array Value) (below : List Frame) (meth : Method) (c : Code) (R : Room) (Q : State → Prop) (H : Heap) (locs : List Loc) (ls : Array Slot) (cells slots : Nat), p.tables.exec = Jvm.exec → c.code = mc M →
      W p (eL E) e R s m args below meth c H locs cells slots Q (F0 m pc2 ls (st2.map (g_rv E))) → W p (eL E) e R s m args below meth c H locs cells slots Q (F0 m pc ls (st.map (g_rv E))))
    (h : gJ em E M n0 s0 pc2 lv st2 S o) : gJ em E M n0 s0 pc lv st S o := by
  intro z hz
  obtain ⟨m1, m2, hG⟩ := h z hz
  exact ⟨m1, m2, fun p e s m args below meth c R Q hX H locs ls hl hP hS h1 h2 => hW p e s m args below meth c R Q H locs ls _ _ hX.1 hX.2.1 (hG p e s m args below meth c R Q hX H locs ls hl hP hS h1 h2)⟩
/-- the same, when it must know the locals, the tables and the start -/
theorem gJ.stepX {pc2 : Nat} {st2 : List Value}
    (hW : ∀ (p : Program) (e : Env) (s : State) (m : MethodId) (args : Array Value) (below : List Frame) (meth : Method) (c : Code) (R : Room) (Q : State → Prop) (H : Heap) (locs : List Loc) (ls : Array Slot) (r : Option Value) (S' : gS), gX E M n0 s0 r S' p e s m args below meth c R Q → lv_has ls (ml M) (g_lv E lv) → g_P E S H → va_S (g_A E) s.heap H locs → gn S - n0 ≤ R.cells → gsl S - s0 ≤ R.slots →
      W p (eL E) e R s m args below meth c H locs (gn S - n0) (gsl S - s0) Q (F0 m pc2 ls (st2.map (g_rv E))) → W p (eL E) e R s m args below meth c H locs (gn S - n0) (gsl S - s0) Q (F0 m pc ls (st.map (g_rv E))))
    (h : gJ em E M n0 s0 pc2 lv st2 S o) : gJ em E M n0 s0 pc lv st S o := by
  intro z hz
  obtain ⟨m1, m2, hG⟩ := h z hz
  refine ⟨m1, m2, fun p e s m args below meth c R Q hX H locs ls hl hP hS h1 h2 => hW p e s m args below meth c R Q H locs ls _ _ hX hl hP hS ?_ ?_ (hG p e s m args below meth c R Q hX H locs ls hl hP hS h1 h2)⟩
  · have := hX.2.2.2.2.2.2.2.2.2.2.1; omega
  · have := hX.2.2.2.2.2.2.2.2.2.2.2.1; omega
/-- fewer locals, in any order -/
theorem X_sub {lv2 : List (Nat × Value)} (ks : List Nat) (hl : lv_pick lv ks = lv2) (h : gJ em E M n0 s0 pc lv2 st S o) : gJ em E M n0 s0 pc lv st S o := by
  intro z hz
  obtain ⟨m1, m2, hG⟩ := h z hz
  refine ⟨m1, m2, fun p e s m args below meth c R Q hX H locs ls hl2 hP hS h1 h2 => hG p e s m args below meth c R Q hX H locs ls (lv_sub hl2 ks ?_) hP hS h1 h2⟩
  subst hl
  unfold lv_pick g_lv
  rw [List.map_filterMap]
  congr 1
  funext k
  simp
theorem X_eq {o2 : Option ρ} (he : o = o2) (h : gJ em E M n0 s0 pc lv st S o2) : gJ em E M n0 s0 pc lv st S o := he ▸ h
theorem X_let {α : Type} {v : α} {F : α → Option ρ} (h : ∀ x, gJ em E M n0 s0 pc lv st S (F x)) : gJ em E M n0 s0 pc lv st S (F v) := h v
-- constants
theorem X_iconst {n : Int} {v : Int32} (hd : decode (mc M) pc = .ok (.iconst n, 1)) (hv : Int32.ofInt n = v) (h : gJ em E M n0 s0 (pc + 1) lv (.int v :: st) S o) : gJ em E M n0 s0 pc lv st S o := gJ.step (fun p e s m args below meth c R Q H locs ls cells slots hx hb k => lv_iconst hx hb hd hv k) h
theorem X_bipush {n : Int} {v : Int32} (hd : decode (mc M) pc = .ok (.bipush n, 2)) (hv : (Int8.ofInt n).toInt32 = v) (h : gJ em E M n0 s0 (pc + 2) lv (.int v :: st) S o) : gJ em E M n0 s0 pc lv st S o := gJ.step (fun p e s m args below meth c R Q H locs ls cells slots hx hb k => lv_bipush hx hb hd hv k) h
theorem X_sipush {n : Int} {v : Int32} (hd : decode (mc M) pc = .ok (.sipush n, 3)) (hv : (Int16.ofInt n).toInt32 = v) (h : gJ em E M n0 s0 (pc + 3) lv (.int v :: st) S o) : gJ em E M n0 s0 pc lv st S o := gJ.step (fun p e s m args below meth c R Q H locs ls cells slots hx hb k => lv_sipush hx hb hd hv k) h
theorem X_lconst {n : Fin 2} {v : Int64} (hd : decode (mc M) pc = .ok (.lconst n, 1)) (hv : Int64.ofNat (n : Nat) = v) (h : gJ em E M n0 s0 (pc + 1) lv (.long v :: st) S o) : gJ em E M n0 s0 pc lv st S o := gJ.step (fun p e s m args below meth c R Q H locs ls cells slots hx hb k => lv_lconst hx hb hd hv k) h
theorem X_ldc2 {idx : Nat} {v : Int64} (hw : Cond.constantLong (my M).cls idx v ∈ lw_good) (hd : decode (mc M) pc = .ok (.ldc2_w idx, 3)) (h : gJ em E M n0 s0 (pc + 3) lv (.long v :: st) S o) : gJ em E M n0 s0 pc lv st S o :=
  gJ.stepX (fun p e s m args below meth c R Q H locs ls r S' hX hl hP hS _ _ k => lv_ldc2 hX.1 hX.2.1 hX.2.2.2.1 (hX.2.2.2.2.1 _ hw) hd k) h
-- loads
theorem g_look {ls : Array Slot} {nL : Nat} {lv : List (Nat × Value)} (h : lv_has ls nL (g_lv E lv)) {k i : Nat} {v : Value} (hk : lv[k]? = some (i, v)) : ls[i]? = some (.val (g_rv E v)) := lv_at h k (by simp [g_lv, hk])
theorem X_iload_n {i : Fin 4} {j : Nat} {x : Int32} (k : Nat) (hd : decode (mc M) pc = .ok (.iload_n i, 1)) (hi : (i : Nat) = j) (hk : lv[k]? = some (j, .int x)) (h : gJ em E M n0 s0 (pc + 1) lv (.int x :: st) S o) : gJ em E M n0 s0 pc lv st S o :=
  gJ.stepX (fun p e s m args below meth c R Q H locs ls r S' hX hl hP hS _ _ k => lv_iload_n hX.1 hX.2.1 hd hi (g_look hl hk) k) h
theorem X_iload {j : Nat} {x : Int32} (k : Nat) (hd : decode (mc M) pc = .ok (.iload j, 2)) (hk : lv[k]? = some (j, .int x)) (h : gJ em E M n0 s0 (pc + 2) lv (.int x :: st) S o) : gJ em E M n0 s0 pc lv st S o :=
  gJ.stepX (fun p e s m args below meth c R Q H locs ls r S' hX hl hP hS _ _ k => lv_iload hX.1 hX.2.1 hd (g_look hl hk) k) h
theorem X_lload_n {i : Fin 4} {j : Nat} {x : Int64} (k : Nat) (hd : decode (mc M) pc = .ok (.lload_n i, 1)) (hi : (i : Nat) = j) (hk : lv[k]? = some (j, .long x)) (h : gJ em E M n0 s0 (pc + 1) lv (.long x :: st) S o) : gJ em E M n0 s0 pc lv st S o :=
  gJ.stepX (fun p e s m args below meth c R Q H locs ls r S' hX hl hP hS _ _ k => lv_lload_n hX.1 hX.2.1 hd hi (g_look hl hk) k) h
theorem X_lload {j : Nat} {x : Int64} (k : Nat) (hd : decode (mc M) pc = .ok (.lload j, 2)) (hk : lv[k]? = some (j, .long x)) (h : gJ em E M n0 s0 (pc + 2) lv (.long x :: st) S o) : gJ em E M n0 s0 pc lv st S o :=
  gJ.stepX (fun p e s m args below meth c R Q H locs ls r S' hX hl hP hS _ _ k => lv_lload hX.1 hX.2.1 hd (g_look hl hk) k) h
theorem X_aload_n {i : Fin 4} {j : Nat} {x : Nat} (k : Nat) (hd : decode (mc M) pc = .ok (.aload_n i, 1)) (hi : (i : Nat) = j) (hk : lv[k]? = some (j, .ref x)) (h : gJ em E M n0 s0 (pc + 1) lv (.ref x :: st) S o) : gJ em E M n0 s0 pc lv st S o :=
  gJ.stepX (fun p e s m args below meth c R Q H locs ls r S' hX hl hP hS _ _ k => lv_aload_n hX.1 hX.2.1 hd hi (g_look hl hk) k) h
theorem X_aload_nT {i : Fin 4} {j : Nat} {x : Nat} (k : Nat) (hd : decode (mc M) pc = .ok (.aload_n i, 1)) (hi : (i : Nat) = j) (hk : lv[k]? = some (j, .retAddr x)) (h : gJ em E M n0 s0 (pc + 1) lv (.retAddr x :: st) S o) : gJ em E M n0 s0 pc lv st S o :=
  gJ.stepX (fun p e s m args below meth c R Q H locs ls r S' hX hl hP hS _ _ k => lv_aload_n hX.1 hX.2.1 hd hi (g_look hl hk) k) h
theorem X_aload {j : Nat} {x : Nat} (k : Nat) (hd : decode (mc M) pc = .ok (.aload j, 2)) (hk : lv[k]? = some (j, .ref x)) (h : gJ em E M n0 s0 (pc + 2) lv (.ref x :: st) S o) : gJ em E M n0 s0 pc lv st S o :=
  gJ.stepX (fun p e s m args below meth c R Q H locs ls r S' hX hl hP hS _ _ k => lv_aload hX.1 hX.2.1 hd (g_look hl hk) k) h
-- stores into locals
theorem g_lv_filter (E : gE) (lv : List (Nat × Value)) (f : Nat → Nat → Bool) : (g_lv E lv).filter (fun q => f q.1 q.2.category) = g_lv E (lv.filter (fun q => f q.1 q.2.category)) := by
  unfold g_lv
  rw [List.filter_map]
  congr 1
  apply List.filter_congr
  intro q _
  simp [Function.comp, g_rv_cat]
/-- an instruction that changes the locals -/
theorem gJ.stepL {pc2 : Nat} {st2 : List Value} {lv2 : List (Nat × Value)}
    (hW : ∀ (p : Program) (e : Env) (s : State) (m : MethodId) (args : Array Value) (below : List Frame) (meth : Method) (c : Code) (R : Room) (Q : State → Prop) (H : Heap) (locs : List Loc) (ls : Array Slot) (cells slots : Nat), p.tables.exec = Jvm.exec → c.code = mc M → lv_has ls (ml M) (g_lv E lv) →
      (∀ ls' : Array Slot, lv_has ls' (ml M) (g_lv E lv2) → W p (eL E) e R s m args below meth c H locs cells slots Q (F0 m pc2 ls' (st2.map (g_rv E)))) → W p (eL E) e R s m args below meth c H locs cells slots Q (F0 m pc ls (st.map (g_rv E))))
    (h : gJ em E M n0 s0 pc2 lv2 st2 S o) : gJ em E M n0 s0 pc lv st S o := by
  intro z hz
  obtain ⟨m1, m2, hG⟩ := h z hz
  exact ⟨m1, m2, fun p e s m args below meth c R Q hX H locs ls hl hP hS h1 h2 => hW p e s m args below meth c R Q H locs ls _ _ hX.1 hX.2.1 hl (fun ls' hl' => hG p e s m args below meth c R Q hX H locs ls' hl' hP hS h1 h2)⟩
def g_put1 (lv : List (Nat × Value)) (i : Nat) (v : Value) : List (Nat × Value) := (i, v) :: lv.filter (fun q => !(q.1 == i) && !(q.1 + 1 == i && q.2.category == 2))
def g_put2 (lv : List (Nat × Value)) (i : Nat) (v : Value) : List (Nat × Value) := (i, v) :: lv.filter (fun q => !(q.1 == i) && (!(q.1 == i + 1) && !(q.1 + 1 == i && q.2.category == 2)))
theorem g_put1_eq (E : gE) (lv : List (Nat × Value)) (i : Nat) (v : Value) : (i, g_rv E v) :: (g_lv E lv).filter (fun q => !(q.1 == i) && !(q.1 + 1 == i && q.2.category == 2)) = g_lv E (g_put1 lv i v) := by
  show _ = (i, g_rv E v) :: g_lv E _
  rw [← g_lv_filter E lv (fun a c => !(a == i) && !(a + 1 == i && c == 2))]
theorem g_put2_eq (E : gE) (lv : List (Nat × Value)) (i : Nat) (v : Value) : (i, g_rv E v) :: (g_lv E lv).filter (fun q => !(q.1 == i) && (!(q.1 == i + 1) && !(q.1 + 1 == i && q.2.category == 2))) = g_lv E (g_put2 lv i v) := by
  show _ = (i, g_rv E v) :: g_lv E _
  rw [← g_lv_filter E lv (fun a c => !(a == i) && (!(a == i + 1) && !(a + 1 == i && c == 2)))]
theorem X_istore_n {i : Fin 4} {j : Nat} {x : Int32} {lv2 : List (Nat × Value)} (hd : decode (mc M) pc = .ok (.istore_n i, 1)) (hi : (i : Nat) = j) (hn : j < ml M) (hl : g_put1 lv j (.int x) = lv2) (h : gJ em E M n0 s0 (pc + 1) lv2 st S o) : gJ em E M n0 s0 pc lv (.int x :: st) S o :=
  gJ.stepL (fun p e s m args below meth c R Q H locs ls cells slots hx hb hl2 k => lv_istore_n hx hb hd hi hl2 hn (by rw [← hl]; exact g_put1_eq E lv j (.int x)) k) h
theorem X_istore {j : Nat} {x : Int32} {lv2 : List (Nat × Value)} (hd : decode (mc M) pc = .ok (.istore j, 2)) (hn : j < ml M) (hl : g_put1 lv j (.int x) = lv2) (h : gJ em E M n0 s0 (pc + 2) lv2 st S o) : gJ em E M n0 s0 pc lv (.int x :: st) S o :=
  gJ.stepL (fun p e s m args below meth c R Q H locs ls cells slots hx hb hl2 k => lv_istore hx hb hd hl2 hn (by rw [← hl]; exact g_put1_eq E lv j (.int x)) k) h
theorem X_astore_n {i : Fin 4} {j : Nat} {x : Nat} {lv2 : List (Nat × Value)} (hd : decode (mc M) pc = .ok (.astore_n i, 1)) (hi : (i : Nat) = j) (hn : j < ml M) (hl : g_put1 lv j (.ref x) = lv2) (h : gJ em E M n0 s0 (pc + 1) lv2 st S o) : gJ em E M n0 s0 pc lv (.ref x :: st) S o :=
  gJ.stepL (fun p e s m args below meth c R Q H locs ls cells slots hx hb hl2 k => lv_astore_n hx hb hd hi hl2 hn (by rw [← hl]; exact g_put1_eq E lv j (.ref x)) k) h
theorem X_astore {j : Nat} {x : Nat} {lv2 : List (Nat × Value)} (hd : decode (mc M) pc = .ok (.astore j, 2)) (hn : j < ml M) (hl : g_put1 lv j (.ref x) = lv2) (h : gJ em E M n0 s0 (pc + 2) lv2 st S o) : gJ em E M n0 s0 pc lv (.ref x :: st) S o :=
  gJ.stepL (fun p e s m args below meth c R Q H locs ls cells slots hx hb hl2 k => lv_astore hx hb hd hl2 hn (by rw [← hl]; exact g_put1_eq E lv j (.ref x)) k) h
theorem X_lstore_n {i : Fin 4} {j : Nat} {x : Int64} {lv2 : List (Nat × Value)} (hd : decode (mc M) pc = .ok (.lstore_n i, 1)) (hi : (i : Nat) = j) (hn : j + 1 < ml M) (hl : g_put2 lv j (.long x) = lv2) (h : gJ em E M n0 s0 (pc + 1) lv2 st S o) : gJ em E M n0 s0 pc lv (.long x :: st) S o :=
  gJ.stepL (fun p e s m args below meth c R Q H locs ls cells slots hx hb hl2 k => lv_lstore_n hx hb hd hi hl2 hn (by rw [← hl]; exact g_put2_eq E lv j (.long x)) k) h
theorem X_lstore {j : Nat} {x : Int64} {lv2 : List (Nat × Value)} (hd : decode (mc M) pc = .ok (.lstore j, 2)) (hn : j + 1 < ml M) (hl : g_put2 lv j (.long x) = lv2) (h : gJ em E M n0 s0 (pc + 2) lv2 st S o) : gJ em E M n0 s0 pc lv (.long x :: st) S o :=
  gJ.stepL (fun p e s m args below meth c R Q H locs ls cells slots hx hb hl2 k => lv_lstore hx hb hd hl2 hn (by rw [← hl]; exact g_put2_eq E lv j (.long x)) k) h
theorem X_iinc {j k : Nat} {n : Int} {x v : Int32} {lv2 : List (Nat × Value)} (hd : decode (mc M) pc = .ok (.iinc j n, 3)) (hk : lv[k]? = some (j, .int x)) (hv : Int32.ofInt n = v) (hn : j < ml M) (hl : g_put1 lv j (.int (x + v)) = lv2) (h : gJ em E M n0 s0 (pc + 3) lv2 st S o) : gJ em E M n0 s0 pc lv st S o :=
  gJ.stepL (fun p e s m args below meth c R Q H locs ls cells slots hx hb hl2 k2 => lv_iinc (k := k) (x := x) (v := x + v) hx hb hd hl2 (by simp [g_lv, hk, g_rv]) (by rw [hv]) hn (by rw [← hl]; exact g_put1_eq E lv j (.int (x + v))) k2) h
end XR
