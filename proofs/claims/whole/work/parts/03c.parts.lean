def M_X1_init : gM := (yX1_init, cX1_init, 1, none, 2, 40)
def f_X1_init (S : gS) (a0 : Nat) : Option (gS) :=
g_nwa S 11 (8 : Int32) fun a1 S2 =>
g_putR S2 1 0 a0 a1 fun S3 =>
g_new S3 2 fun a4 S5 =>
g_cN (f_X2_init S5 a4) fun S6 =>
g_putR S6 1 1 a0 a4 fun S7 =>
some S7
set_option maxRecDepth 100000 in
set_option maxHeartbeats 4000000 in
theorem c_X1_init (E : gE) (S : gS) (a0 : Nat) : gC gV E M_X1_init [.ref a0] S (f_X1_init S a0) := by
  refine gC.of (by decide) (Nat.le_of_ble_eq_true rfl) ?_
  unfold f_X1_init
  show gJ gV E M_X1_init _ _ 0 [(0, .ref a0)] [] S _
  refine X_aload_n 0 dX1_init_0 rfl rfl ?_
  refine X_objInit kL_X1_3 kI_obj kC_obj (by decide) (Nat.le_of_ble_eq_true rfl) dX1_init_1 ?_
  refine X_aload_n 0 dX1_init_4 rfl rfl ?_
  refine X_bipush (v := (8 : Int32)) dX1_init_5 (by decide) ?_
  refine X_newarr (ty := .long) rfl (Or.inr (Or.inl ⟨rfl, rfl⟩)) kA_long dX1_init_7 (fun a1 S2 => ?_)
  refine X_putR kF_X1_9 (Or.inr ⟨_, rfl⟩) (Or.inr ⟨rfl, rfl, rfl⟩) dX1_init_9 (fun S3 => ?_)
  refine X_aload_n 0 dX1_init_12 rfl rfl ?_
  refine X_new kN_X1_15 dX1_init_13 (fun a4 S5 => ?_)
  refine X_dup dX1_init_16 rfl ?_
  refine X_callNV (As := []) (st := [.ref a4, .ref a0]) (c_X2_init E S5 a4) kC_X2_init rfl rfl (by decide +kernel) kI_X2_init (by unfold g_okR; decide) rfl (Nat.le_of_ble_eq_true rfl) dX1_init_17 (fun S6 => ?_)
  refine X_putR kF_X1_18 (Or.inl ⟨_, rfl⟩) (Or.inr ⟨rfl, rfl, rfl⟩) dX1_init_20 (fun S7 => ?_)
  exact X_vret rfl dX1_init_23
set_option maxRecDepth 100000 in
theorem kC_X1_init : g_okC M_X1_init 0 := And.intro (g_t (i := 107) rfl (by decide +kernel)) (And.intro (g_nd nd_4_ok (k := 27) rfl) (And.intro (by decide) (And.intro (by decide) (by decide +kernel))))
def M_X6_init : gM := (yX6_init, cX6_init, 1, none, 1, 20)
def f_X6_init (S : gS) (a0 : Nat) : Option (gS) :=
some S
set_option maxRecDepth 100000 in
set_option maxHeartbeats 4000000 in
theorem c_X6_init (E : gE) (S : gS) (a0 : Nat) : gC gV E M_X6_init [.ref a0] S (f_X6_init S a0) := by
  refine gC.of (by decide) (Nat.le_of_ble_eq_true rfl) ?_
  unfold f_X6_init
  show gJ gV E M_X6_init _ _ 0 [(0, .ref a0)] [] S _
  refine X_aload_n 0 dX6_init_0 rfl rfl ?_
  refine X_objInit kL_X6_3 kI_obj kC_obj (by decide) (Nat.le_of_ble_eq_true rfl) dX6_init_1 ?_
  exact X_vret rfl dX6_init_4
set_option maxRecDepth 100000 in
theorem kC_X6_init : g_okC M_X6_init 0 := And.intro (g_t (i := 153) rfl (by decide +kernel)) (And.intro (g_nd nd_2_ok (k := 4) rfl) (And.intro (by decide) (And.intro (by decide) (by decide +kernel))))
def M_X3_init : gM := (yX3_init, cX3_init, 2, none, 2, 40)
def l_X3_init_23 (u0 : Nat) : Nat → gS → Int32 → Option (gS)
  | 0, _, _ => none
  | n + 1, S, u1 =>
    if (6 : Int32) ≤ u1 then (
    some S)
    else (
    g_getR S 3 0 u0 fun a7 =>
    g_new S 6 fun a8 S9 =>
    g_cN (f_X6_init S9 a8) fun S10 =>
    g_stR S10 14 6 a7 u1 a8 fun S11 =>
    l_X3_init_23 u0 n S11 (u1 + (1 : Int32)) )
def f_X3_init (S : gS) (a0 : Nat) : Option (gS) :=
g_nwa S 14 (6 : Int32) fun a1 S2 =>
g_putR S2 3 0 a0 a1 fun S3 =>
g_nwa S3 10 (6 : Int32) fun a4 S5 =>
g_putR S5 3 2 a0 a4 fun S6 =>
l_X3_init_23 a0 100 S6 (0 : Int32) 
set_option maxRecDepth 100000 in
set_option maxHeartbeats 4000000 in
theorem j_X3_init_23 (E : gE) {n0 s0 : Nat} (u0 : Nat) : ∀ (n : Nat) (S : gS) (u1 : Int32), gJ gV E M_X3_init n0 s0 23 [(0, .ref u0), (1, .int u1)] [] S (l_X3_init_23 u0 n S u1 ) := by
  intro n
  induction n with
  | zero =>
    intros
    rw [l_X3_init_23]
    exact gJ.none
  | succ n ih =>
    intro S u1  
    rw [l_X3_init_23]
    refine X_iload_n 1 dX3_init_23 rfl rfl ?_
    refine X_bipush (v := (6 : Int32)) dX3_init_24 (by decide) ?_
    refine X_icmp_ge (tgt := 48) dX3_init_26 (by decide) ?_ ?_
    · skip
      exact X_vret rfl dX3_init_48
    · skip
      refine X_aload_n 0 dX3_init_29 rfl rfl ?_
      refine X_getR kF_X3_11 rfl dX3_init_30 (fun a7 => ?_)
      refine X_iload_n 1 dX3_init_33 rfl rfl ?_
      refine X_new kN_X3_9 dX3_init_34 (fun a8 S9 => ?_)
      refine X_dup dX3_init_37 rfl ?_
      refine X_callNV (As := []) (st := [.ref a8, .int u1, .ref a7]) (c_X6_init E S9 a8) kC_X6_init rfl rfl (by decide +kernel) kI_X6_init (by unfold g_okR; decide) rfl (Nat.le_of_ble_eq_true rfl) dX3_init_38 (fun S10 => ?_)
      refine X_aast (Or.inr ⟨rfl, rfl⟩) dX3_init_41 (fun S11 => ?_)
      refine X_iinc (k := 1) (x := u1) (v := (1 : Int32)) (lv2 := [(1, .int (u1 + (1 : Int32))), (0, .ref u0)]) dX3_init_42 rfl (by decide) (by decide) rfl ?_
      refine X_goto (tgt := 23) dX3_init_45 (by decide) ?_
      exact X_sub [1, 0] rfl (ih _ _)
set_option maxRecDepth 100000 in
set_option maxHeartbeats 4000000 in
theorem c_X3_init (E : gE) (S : gS) (a0 : Nat) : gC gV E M_X3_init [.ref a0] S (f_X3_init S a0) := by
  refine gC.of (by decide) (Nat.le_of_ble_eq_true rfl) ?_
  unfold f_X3_init
  show gJ gV E M_X3_init _ _ 0 [(0, .ref a0)] [] S _
  refine X_aload_n 0 dX3_init_0 rfl rfl ?_
  refine X_objInit kL_X3_3 kI_obj kC_obj (by decide) (Nat.le_of_ble_eq_true rfl) dX3_init_1 ?_
  refine X_aload_n 0 dX3_init_4 rfl rfl ?_
  refine X_bipush (v := (6 : Int32)) dX3_init_5 (by decide) ?_
  refine X_anew (Or.inr ⟨rfl, rfl⟩) kW_X3_9 dX3_init_7 (fun a1 S2 => ?_)
  refine X_putR kF_X3_11 (Or.inr ⟨_, rfl⟩) (Or.inr ⟨rfl, rfl, rfl⟩) dX3_init_10 (fun S3 => ?_)
  refine X_aload_n 0 dX3_init_13 rfl rfl ?_
  refine X_bipush (v := (6 : Int32)) dX3_init_14 (by decide) ?_
  refine X_newarr (ty := .int) rfl (Or.inl ⟨rfl, rfl⟩) kA_int dX3_init_16 (fun a4 S5 => ?_)
  refine X_putR kF_X3_17 (Or.inr ⟨_, rfl⟩) (Or.inr ⟨rfl, rfl, rfl⟩) dX3_init_18 (fun S6 => ?_)
  refine X_iconst (v := (0 : Int32)) dX3_init_21 (by decide) ?_
  refine X_istore_n (lv2 := [(1, .int (0 : Int32)), (0, .ref a0)]) dX3_init_22 rfl (by decide) rfl ?_
  exact X_sub [1, 0] rfl (j_X3_init_23 E a0 100 _ _)
set_option maxRecDepth 100000 in
theorem kC_X3_init : g_okC M_X3_init 0 := And.intro (g_t (i := 146) rfl (by decide +kernel)) (And.intro (g_nd nd_5_ok (k := 1) rfl) (And.intro (by decide) (And.intro (by decide) (by decide +kernel))))
def M_X5_init : gM := (yX5_init, cX5_init, 1, none, 1, 20)
def f_X5_init (S : gS) (a0 : Nat) : Option (gS) :=
g_nwa S 10 (8 : Int32) fun a1 S2 =>
g_putR S2 5 0 a0 a1 fun S3 =>
g_nwa S3 10 (8 : Int32) fun a4 S5 =>
g_putR S5 5 1 a0 a4 fun S6 =>
some S6
set_option maxRecDepth 100000 in
set_option maxHeartbeats 4000000 in
theorem c_X5_init (E : gE) (S : gS) (a0 : Nat) : gC gV E M_X5_init [.ref a0] S (f_X5_init S a0) := by
  refine gC.of (by decide) (Nat.le_of_ble_eq_true rfl) ?_
  unfold f_X5_init
  show gJ gV E M_X5_init _ _ 0 [(0, .ref a0)] [] S _
  refine X_aload_n 0 dX5_init_0 rfl rfl ?_
  refine X_objInit kL_X5_3 kI_obj kC_obj (by decide) (Nat.le_of_ble_eq_true rfl) dX5_init_1 ?_
  refine X_aload_n 0 dX5_init_4 rfl rfl ?_
  refine X_bipush (v := (8 : Int32)) dX5_init_5 (by decide) ?_
  refine X_newarr (ty := .int) rfl (Or.inl ⟨rfl, rfl⟩) kA_int dX5_init_7 (fun a1 S2 => ?_)
  refine X_putR kF_X5_9 (Or.inr ⟨_, rfl⟩) (Or.inr ⟨rfl, rfl, rfl⟩) dX5_init_9 (fun S3 => ?_)
  refine X_aload_n 0 dX5_init_12 rfl rfl ?_
  refine X_bipush (v := (8 : Int32)) dX5_init_13 (by decide) ?_
  refine X_newarr (ty := .int) rfl (Or.inl ⟨rfl, rfl⟩) kA_int dX5_init_15 (fun a4 S5 => ?_)
  refine X_putR kF_X5_15 (Or.inr ⟨_, rfl⟩) (Or.inr ⟨rfl, rfl, rfl⟩) dX5_init_17 (fun S6 => ?_)
  exact X_vret rfl dX5_init_20
set_option maxRecDepth 100000 in
theorem kC_X5_init : g_okC M_X5_init 0 := And.intro (g_t (i := 124) rfl (by decide +kernel)) (And.intro (g_nd nd_4_ok (k := 34) rfl) (And.intro (by decide) (And.intro (by decide) (by decide +kernel))))
def M_X4_init : gM := (yX4_init, cX4_init, 1, none, 2, 40)
def f_X4_init (S : gS) (a0 : Nat) : Option (gS) :=
g_new S 2 fun a1 S2 =>
g_cN (f_X2_init S2 a1) fun S3 =>
g_putR S3 4 3 a0 a1 fun S4 =>
g_new S4 2 fun a5 S6 =>
g_cN (f_X2_init S6 a5) fun S7 =>
g_putR S7 4 4 a0 a5 fun S8 =>
some S8
set_option maxRecDepth 100000 in
set_option maxHeartbeats 4000000 in
theorem c_X4_init (E : gE) (S : gS) (a0 : Nat) : gC gV E M_X4_init [.ref a0] S (f_X4_init S a0) := by
  refine gC.of (by decide) (Nat.le_of_ble_eq_true rfl) ?_
  unfold f_X4_init
  show gJ gV E M_X4_init _ _ 0 [(0, .ref a0)] [] S _
  refine X_aload_n 0 dX4_init_0 rfl rfl ?_
  refine X_objInit kL_X4_3 kI_obj kC_obj (by decide) (Nat.le_of_ble_eq_true rfl) dX4_init_1 ?_
  refine X_aload_n 0 dX4_init_4 rfl rfl ?_
  refine X_new kN_X4_9 dX4_init_5 (fun a1 S2 => ?_)
  refine X_dup dX4_init_8 rfl ?_
  refine X_callNV (As := []) (st := [.ref a1, .ref a0]) (c_X2_init E S2 a1) kC_X2_init rfl rfl (by decide +kernel) kI_X2_init (by unfold g_okR; decide) rfl (Nat.le_of_ble_eq_true rfl) dX4_init_9 (fun S3 => ?_)
  refine X_putR kF_X4_12 (Or.inl ⟨_, rfl⟩) (Or.inl rfl) dX4_init_12 (fun S4 => ?_)
  refine X_aload_n 0 dX4_init_15 rfl rfl ?_
  refine X_new kN_X4_9 dX4_init_16 (fun a5 S6 => ?_)
  refine X_dup dX4_init_19 rfl ?_
  refine X_callNV (As := []) (st := [.ref a5, .ref a0]) (c_X2_init E S6 a5) kC_X2_init rfl rfl (by decide +kernel) kI_X2_init (by unfold g_okR; decide) rfl (Nat.le_of_ble_eq_true rfl) dX4_init_20 (fun S7 => ?_)
  refine X_putR kF_X4_18 (Or.inl ⟨_, rfl⟩) (Or.inl rfl) dX4_init_23 (fun S8 => ?_)
  exact X_vret rfl dX4_init_26
set_option maxRecDepth 100000 in
theorem kC_X4_init : g_okC M_X4_init 0 := And.intro (g_t (i := 59) rfl (by decide +kernel)) (And.intro (g_nd nd_4_ok (k := 2) rfl) (And.intro (by decide) (And.intro (by decide) (by decide +kernel))))
def M_X7_init : gM := (yX7_init, cX7_init, 2, none, 3, 60)
def l_X7_init_15 (u0 : Nat) : Nat → gS → Int32 → Option (gS)
  | 0, _, _ => none
  | n + 1, S, u1 =>
    if (40 : Int32) ≤ u1 then (
    some S)
    else (
    g_getR S 7 0 u0 fun a4 =>
    g_new S 4 fun a5 S6 =>
    g_cN (f_X4_init S6 a5) fun S7 =>
    g_stR S7 13 4 a4 u1 a5 fun S8 =>
    l_X7_init_15 u0 n S8 (u1 + (1 : Int32)) )
def f_X7_init (S : gS) (a0 : Nat) : Option (gS) :=
g_nwa S 13 (40 : Int32) fun a1 S2 =>
g_putR S2 7 0 a0 a1 fun S3 =>
l_X7_init_15 a0 100 S3 (0 : Int32) 
set_option maxRecDepth 100000 in
set_option maxHeartbeats 4000000 in
theorem j_X7_init_15 (E : gE) {n0 s0 : Nat} (u0 : Nat) : ∀ (n : Nat) (S : gS) (u1 : Int32), gJ gV E M_X7_init n0 s0 15 [(0, .ref u0), (1, .int u1)] [] S (l_X7_init_15 u0 n S u1 ) := by
  intro n
  induction n with
  | zero =>
    intros
    rw [l_X7_init_15]
    exact gJ.none
  | succ n ih =>
    intro S u1  
    rw [l_X7_init_15]
    refine X_iload_n 1 dX7_init_15 rfl rfl ?_
    refine X_bipush (v := (40 : Int32)) dX7_init_16 (by decide) ?_
    refine X_icmp_ge (tgt := 40) dX7_init_18 (by decide) ?_ ?_
    · skip
      exact X_vret rfl dX7_init_40
    · skip
      refine X_aload_n 0 dX7_init_21 rfl rfl ?_
      refine X_getR kF_X7_11 rfl dX7_init_22 (fun a4 => ?_)
      refine X_iload_n 1 dX7_init_25 rfl rfl ?_
      refine X_new kN_X7_9 dX7_init_26 (fun a5 S6 => ?_)
      refine X_dup dX7_init_29 rfl ?_
      refine X_callNV (As := []) (st := [.ref a5, .int u1, .ref a4]) (c_X4_init E S6 a5) kC_X4_init rfl rfl (by decide +kernel) kI_X4_init (by unfold g_okR; decide) rfl (Nat.le_of_ble_eq_true rfl) dX7_init_30 (fun S7 => ?_)
      refine X_aast (Or.inl ⟨rfl, rfl⟩) dX7_init_33 (fun S8 => ?_)
      refine X_iinc (k := 1) (x := u1) (v := (1 : Int32)) (lv2 := [(1, .int (u1 + (1 : Int32))), (0, .ref u0)]) dX7_init_34 rfl (by decide) (by decide) rfl ?_
      refine X_goto (tgt := 15) dX7_init_37 (by decide) ?_
      exact X_sub [1, 0] rfl (ih _ _)
set_option maxRecDepth 100000 in
set_option maxHeartbeats 4000000 in
theorem c_X7_init (E : gE) (S : gS) (a0 : Nat) : gC gV E M_X7_init [.ref a0] S (f_X7_init S a0) := by
  refine gC.of (by decide) (Nat.le_of_ble_eq_true rfl) ?_
  unfold f_X7_init
  show gJ gV E M_X7_init _ _ 0 [(0, .ref a0)] [] S _
  refine X_aload_n 0 dX7_init_0 rfl rfl ?_
  refine X_objInit kL_X7_3 kI_obj kC_obj (by decide) (Nat.le_of_ble_eq_true rfl) dX7_init_1 ?_
  refine X_aload_n 0 dX7_init_4 rfl rfl ?_
  refine X_bipush (v := (40 : Int32)) dX7_init_5 (by decide) ?_
  refine X_anew (Or.inl ⟨rfl, rfl⟩) kW_X7_9 dX7_init_7 (fun a1 S2 => ?_)
  refine X_putR kF_X7_11 (Or.inr ⟨_, rfl⟩) (Or.inr ⟨rfl, rfl, rfl⟩) dX7_init_10 (fun S3 => ?_)
  refine X_iconst (v := (0 : Int32)) dX7_init_13 (by decide) ?_
  refine X_istore_n (lv2 := [(1, .int (0 : Int32)), (0, .ref a0)]) dX7_init_14 rfl (by decide) rfl ?_
  exact X_sub [1, 0] rfl (j_X7_init_15 E a0 100 _ _)
set_option maxRecDepth 100000 in
theorem kC_X7_init : g_okC M_X7_init 0 := And.intro (g_t (i := 52) rfl (by decide +kernel)) (And.intro (g_nd nd_4_ok (k := 21) rfl) (And.intro (by decide) (And.intro (by decide) (by decide +kernel))))
def M_X4_diskPlaces : gM := (yX4_diskPlaces, cX4_diskPlaces, 1, some .int, 0, 0)
def f_X4_diskPlaces (S : gS) (a0 : Nat) : Option (Int32 × gS) :=
g_getI S 4 1 a0 fun x1 =>
if x1 = (2 : Int32) then (
some ((2 : Int32), S))
else (
some ((1 : Int32), S))
set_option maxRecDepth 100000 in
set_option maxHeartbeats 4000000 in
theorem c_X4_diskPlaces (E : gE) (S : gS) (a0 : Nat) : gC gI E M_X4_diskPlaces [.ref a0] S (f_X4_diskPlaces S a0) := by
  refine gC.of (by decide) (Nat.le_of_ble_eq_true rfl) ?_
  unfold f_X4_diskPlaces
  show gJ gI E M_X4_diskPlaces _ _ 0 [(0, .ref a0)] [] S _
  refine X_aload_n 0 dX4_diskPlaces_0 rfl rfl ?_
  refine X_getI kF_X4_25 rfl dX4_diskPlaces_1 (fun x1 => ?_)
  refine X_iconst (v := (2 : Int32)) dX4_diskPlaces_4 (by decide) ?_
  refine X_icmp_ne (tgt := 12) dX4_diskPlaces_5 (by decide) ?_ ?_
  · skip
    refine X_iconst (v := (2 : Int32)) dX4_diskPlaces_8 (by decide) ?_
    refine X_goto (tgt := 13) dX4_diskPlaces_9 (by decide) ?_
    exact X_iret rfl dX4_diskPlaces_13
  · skip
    refine X_iconst (v := (1 : Int32)) dX4_diskPlaces_12 (by decide) ?_
    exact X_iret rfl dX4_diskPlaces_13
set_option maxRecDepth 100000 in
theorem kC_X4_diskPlaces : g_okC M_X4_diskPlaces 0 := And.intro (g_t (i := 435) rfl (by decide +kernel)) (And.intro (g_nd nd_4_ok (k := 2) rfl) (And.intro (by decide) (And.intro (by decide) (by decide +kernel))))
def M_X6_changeForm : gM := (yX6_changeForm, cX6_changeForm, 2, none, 3, 77)
def f_X6_changeForm (S : gS) (a0 : Nat) (p1 : Nat) : Option (gS) :=
g_getI S 6 0 a0 fun x1 =>
if x1 = (0 : Int32) then (
g_getI S 6 4 a0 fun x3 =>
g_getI S 6 2 a0 fun x4 =>
g_getL S 6 3 a0 fun x5 =>
g_cVV S 2 p1 (f_X2_setTold S p1 x3 x4 x5) fun S6 =>
some S6)
else (
if x1 = (1 : Int32) then (
g_getI S 6 4 a0 fun x8 =>
g_cVV S 2 p1 (f_X2_takeValueOut S p1 x8) fun S9 =>
some S9)
else (
if x1 = (2 : Int32) then (
some S)
else (
if x1 = (3 : Int32) then (
g_getI S 6 4 a0 fun x12 =>
g_getI S 6 5 a0 fun x13 =>
g_getI S 6 2 a0 fun x14 =>
g_cVV S 2 p1 (f_X2_become S p1 x12 x13 x14) fun S15 =>
some S15)
else (
some S))))
set_option maxRecDepth 100000 in
set_option maxHeartbeats 4000000 in
theorem c_X6_changeForm (E : gE) (S : gS) (a0 : Nat) (p1 : Nat) : gC gV E M_X6_changeForm [.ref a0, .ref p1] S (f_X6_changeForm S a0 p1) := by
  refine gC.of (by decide) (Nat.le_of_ble_eq_true rfl) ?_
  unfold f_X6_changeForm
  show gJ gV E M_X6_changeForm _ _ 0 [(0, .ref a0), (1, .ref p1)] [] S _
  refine X_aload_n 0 dX6_changeForm_0 rfl rfl ?_
  refine X_getI kF_X6_9 rfl dX6_changeForm_1 (fun x1 => ?_)
  by_cases h2 : x1 = (0 : Int32)
  · refine X_eq (if_pos h2) ?_
    refine X_tin (tgt := 36) dX6_changeForm_4 (by rw [h2]; decide) (by rw [h2]; decide) (by rw [h2]; rfl) (by decide) ?_
    refine X_aload_n 1 dX6_changeForm_36 rfl rfl ?_
    refine X_aload_n 0 dX6_changeForm_37 rfl rfl ?_
    refine X_getI kF_X6_15 rfl dX6_changeForm_38 (fun x3 => ?_)
    refine X_aload_n 0 dX6_changeForm_41 rfl rfl ?_
    refine X_getI kF_X6_18 rfl dX6_changeForm_42 (fun x4 => ?_)
    refine X_aload_n 0 dX6_changeForm_45 rfl rfl ?_
    refine X_getL kF_X6_21 rfl dX6_changeForm_46 (fun x5 => ?_)
    refine X_callVV (ci := 2) (As := [.int x3, .int x4, .long x5]) (st := []) (c_X2_setTold E S p1 x3 x4 x5) (by decide) rfl kC_X2_setTold kL_X6_25 kI_X2_setTold kE_X2_setTold (by unfold g_okR; decide) rfl (Nat.le_of_ble_eq_true rfl) dX6_changeForm_49 (fun S6 => ?_)
    refine X_goto (tgt := 85) dX6_changeForm_52 (by decide) ?_
    exact X_vret rfl dX6_changeForm_85
  · refine X_eq (if_neg h2) ?_
    by_cases h7 : x1 = (1 : Int32)
    · refine X_eq (if_pos h7) ?_
      refine X_tin (tgt := 55) dX6_changeForm_4 (by rw [h7]; decide) (by rw [h7]; decide) (by rw [h7]; rfl) (by decide) ?_
      refine X_aload_n 1 dX6_changeForm_55 rfl rfl ?_
      refine X_aload_n 0 dX6_changeForm_56 rfl rfl ?_
      refine X_getI kF_X6_15 rfl dX6_changeForm_57 (fun x8 => ?_)
      refine X_callVV (ci := 2) (As := [.int x8]) (st := []) (c_X2_takeValueOut E S p1 x8) (by decide) rfl kC_X2_takeValueOut kL_X6_31 kI_X2_takeValueOut kE_X2_takeValueOut (by unfold g_okR; decide) rfl (Nat.le_of_ble_eq_true rfl) dX6_changeForm_60 (fun S9 => ?_)
      refine X_goto (tgt := 85) dX6_changeForm_63 (by decide) ?_
      exact X_vret rfl dX6_changeForm_85
    · refine X_eq (if_neg h7) ?_
      by_cases h10 : x1 = (2 : Int32)
      · refine X_eq (if_pos h10) ?_
        refine X_tin (tgt := 85) dX6_changeForm_4 (by rw [h10]; decide) (by rw [h10]; decide) (by rw [h10]; rfl) (by decide) ?_
        exact X_vret rfl dX6_changeForm_85
      · refine X_eq (if_neg h10) ?_
        by_cases h11 : x1 = (3 : Int32)
        · refine X_eq (if_pos h11) ?_
          refine X_tin (tgt := 66) dX6_changeForm_4 (by rw [h11]; decide) (by rw [h11]; decide) (by rw [h11]; rfl) (by decide) ?_
          refine X_aload_n 1 dX6_changeForm_66 rfl rfl ?_
          refine X_aload_n 0 dX6_changeForm_67 rfl rfl ?_
          refine X_getI kF_X6_15 rfl dX6_changeForm_68 (fun x12 => ?_)
          refine X_aload_n 0 dX6_changeForm_71 rfl rfl ?_
          refine X_getI kF_X6_35 rfl dX6_changeForm_72 (fun x13 => ?_)
          refine X_aload_n 0 dX6_changeForm_75 rfl rfl ?_
          refine X_getI kF_X6_18 rfl dX6_changeForm_76 (fun x14 => ?_)
          refine X_callVV (ci := 2) (As := [.int x12, .int x13, .int x14]) (st := []) (c_X2_become E S p1 x12 x13 x14) (by decide) rfl kC_X2_become kL_X6_38 kI_X2_become kE_X2_become (by unfold g_okR; decide) rfl (Nat.le_of_ble_eq_true rfl) dX6_changeForm_79 (fun S15 => ?_)
          refine X_goto (tgt := 85) dX6_changeForm_82 (by decide) ?_
          exact X_vret rfl dX6_changeForm_85
        · refine X_eq (if_neg h11) ?_
          have eh2 : (x1).toInt ≠ 0 := fun q => h2 ((g_i32 q).trans (by decide))
          have eh7 : (x1).toInt ≠ 1 := fun q => h7 ((g_i32 q).trans (by decide))
          have eh10 : (x1).toInt ≠ 2 := fun q => h10 ((g_i32 q).trans (by decide))
          have eh11 : (x1).toInt ≠ 3 := fun q => h11 ((g_i32 q).trans (by decide))
          refine X_tout (tgt := 85) dX6_changeForm_4 (by omega) (by decide) ?_
          exact X_vret rfl dX6_changeForm_85
set_option maxRecDepth 100000 in
theorem kC_X6_changeForm : g_okC M_X6_changeForm 1 := And.intro (g_t (i := 408) rfl (by decide +kernel)) (And.intro (g_nd nd_2_ok (k := 4) rfl) (And.intro (by decide) (And.intro (by decide) (by decide +kernel))))
def M_X3_makeUp : gM := (yX3_makeUp, cX3_makeUp, 4, none, 4, 98)
def l_X3_makeUp_7 (u0 : Nat) (u1 : Nat) (u2 : Nat) : Nat → gS → Int32 → Option (gS)
  | 0, _, _ => none
  | n + 1, S, u3 =>
    g_getI S 3 1 u0 fun x2 =>
    if x2 ≤ u3 then (
    some S)
    else (
    g_getR S 3 0 u0 fun a3 =>
    g_ldR S 14 a3 u3 fun a4 =>
    g_cVV S 6 a4 (f_X6_changeForm S a4 u2) fun S5 =>
    l_X3_makeUp_7 u0 u1 u2 n S5 (u3 + (1 : Int32)) )
def f_X3_makeUp (S : gS) (a0 : Nat) (p1 : Nat) (p2 : Nat) : Option (gS) :=
g_cVV S 2 p2 (f_X2_copyFrom S p2 p1) fun S1 =>
l_X3_makeUp_7 a0 p1 p2 100 S1 (0 : Int32) 
set_option maxRecDepth 100000 in
set_option maxHeartbeats 4000000 in
theorem j_X3_makeUp_7 (E : gE) {n0 s0 : Nat} (u0 : Nat) (u1 : Nat) (u2 : Nat) : ∀ (n : Nat) (S : gS) (u3 : Int32), gJ gV E M_X3_makeUp n0 s0 7 [(0, .ref u0), (1, .ref u1), (2, .ref u2), (3, .int u3)] [] S (l_X3_makeUp_7 u0 u1 u2 n S u3 ) := by
  intro n
  induction n with
  | zero =>
    intros
    rw [l_X3_makeUp_7]
    exact gJ.none
  | succ n ih =>
    intro S u3  
    rw [l_X3_makeUp_7]
    refine X_iload_n 3 dX3_makeUp_7 rfl rfl ?_
    refine X_aload_n 0 dX3_makeUp_8 rfl rfl ?_
    refine X_getI kF_X3_22 rfl dX3_makeUp_9 (fun x2 => ?_)
    refine X_icmp_ge (tgt := 31) dX3_makeUp_12 (by decide) ?_ ?_
    · skip
      exact X_vret rfl dX3_makeUp_31
    · skip
      refine X_aload_n 0 dX3_makeUp_15 rfl rfl ?_
      refine X_getR kF_X3_11 rfl dX3_makeUp_16 (fun a3 => ?_)
      refine X_iload_n 3 dX3_makeUp_19 rfl rfl ?_
      refine X_aald (Or.inr rfl) dX3_makeUp_20 (fun a4 => ?_)
      refine X_aload_n 2 dX3_makeUp_21 rfl rfl ?_
      refine X_callVV (ci := 6) (As := [.ref u2]) (st := []) (c_X6_changeForm E S a4 u2) (by decide) rfl kC_X6_changeForm kL_X3_54 kI_X6_changeForm kE_X6_changeForm (by unfold g_okR; decide) rfl (Nat.le_of_ble_eq_true rfl) dX3_makeUp_22 (fun S5 => ?_)
      refine X_iinc (k := 3) (x := u3) (v := (1 : Int32)) (lv2 := [(3, .int (u3 + (1 : Int32))), (0, .ref u0), (1, .ref u1), (2, .ref u2)]) dX3_makeUp_25 rfl (by decide) (by decide) rfl ?_
      refine X_goto (tgt := 7) dX3_makeUp_28 (by decide) ?_
      exact X_sub [1, 2, 3, 0] rfl (ih _ _)
set_option maxRecDepth 100000 in
set_option maxHeartbeats 4000000 in
theorem c_X3_makeUp (E : gE) (S : gS) (a0 : Nat) (p1 : Nat) (p2 : Nat) : gC gV E M_X3_makeUp [.ref a0, .ref p1, .ref p2] S (f_X3_makeUp S a0 p1 p2) := by
  refine gC.of (by decide) (Nat.le_of_ble_eq_true rfl) ?_
  unfold f_X3_makeUp
  show gJ gV E M_X3_makeUp _ _ 0 [(0, .ref a0), (1, .ref p1), (2, .ref p2)] [] S _
  refine X_aload_n 2 dX3_makeUp_0 rfl rfl ?_
  refine X_aload_n 1 dX3_makeUp_1 rfl rfl ?_
  refine X_callVV (ci := 2) (As := [.ref p1]) (st := []) (c_X2_copyFrom E S p2 p1) (by decide) rfl kC_X2_copyFrom kL_X3_49 kI_X2_copyFrom kE_X2_copyFrom (by unfold g_okR; decide) rfl (Nat.le_of_ble_eq_true rfl) dX3_makeUp_2 (fun S1 => ?_)
  refine X_iconst (v := (0 : Int32)) dX3_makeUp_5 (by decide) ?_
  refine X_istore_n (lv2 := [(3, .int (0 : Int32)), (0, .ref a0), (1, .ref p1), (2, .ref p2)]) dX3_makeUp_6 rfl (by decide) rfl ?_
  exact X_sub [1, 2, 3, 0] rfl (j_X3_makeUp_7 E a0 p1 p2 100 _ _)
set_option maxRecDepth 100000 in
theorem kC_X3_makeUp : g_okC M_X3_makeUp 2 := And.intro (g_t (i := 400) rfl (by decide +kernel)) (And.intro (g_nd nd_5_ok (k := 1) rfl) (And.intro (by decide) (And.intro (by decide) (by decide +kernel))))
def M_X4_markBegun : gM := (yX4_markBegun, cX4_markBegun, 1, none, 0, 0)
def f_X4_markBegun (S : gS) (a0 : Nat) : Option (gS) :=
g_getI S 4 1 a0 fun x1 =>
g_jn (fun (S2 : gS) (w3 : Int32) (w4 : Nat) => (
g_putZ S2 4 2 w4 w3 fun S6 =>
g_putI S6 4 1 a0 (1 : Int32) fun S7 =>
some S7)) fun jb5 => (
if x1 = (1 : Int32) then (
jb5 S (1 : Int32) a0)
else (
jb5 S (0 : Int32) a0))
set_option maxRecDepth 100000 in
set_option maxHeartbeats 4000000 in
theorem c_X4_markBegun (E : gE) (S : gS) (a0 : Nat) : gC gV E M_X4_markBegun [.ref a0] S (f_X4_markBegun S a0) := by
  refine gC.of (by decide) (Nat.le_of_ble_eq_true rfl) ?_
  unfold f_X4_markBegun
  show gJ gV E M_X4_markBegun _ _ 0 [(0, .ref a0)] [] S _
  refine X_aload_n 0 dX4_markBegun_0 rfl rfl ?_
  refine X_aload_n 0 dX4_markBegun_1 rfl rfl ?_
  refine X_getI kF_X4_25 rfl dX4_markBegun_2 (fun x1 => ?_)
  refine X_iconst (v := (1 : Int32)) dX4_markBegun_5 (by decide) ?_
  refine X_jn (fun (j : gS → Int32 → Nat → Option (gS)) => ∀ (S2 : gS) (w3 : Int32) (w4 : Nat), gJ gV E M_X4_markBegun (gn S) (gsl S) 14 [(0, .ref a0)] [.int w3, .ref w4] S2 (j S2 w3 w4)) ?_ (fun jb5 hjb5 => ?_)
  · intro S2 w3 w4
    refine X_putZ kF_X4_31 rfl rfl dX4_markBegun_14 (fun S6 => ?_)
    refine X_aload_n 0 dX4_markBegun_17 rfl rfl ?_
    refine X_iconst (v := (1 : Int32)) dX4_markBegun_18 (by decide) ?_
    refine X_putI kF_X4_25 rfl rfl dX4_markBegun_19 (fun S7 => ?_)
    exact X_vret rfl dX4_markBegun_22
  · skip
    refine X_icmp_ne (tgt := 13) dX4_markBegun_6 (by decide) ?_ ?_
    · skip
      refine X_iconst (v := (1 : Int32)) dX4_markBegun_9 (by decide) ?_
      refine X_goto (tgt := 14) dX4_markBegun_10 (by decide) ?_
      exact (hjb5 _ _ _)
    · skip
      refine X_iconst (v := (0 : Int32)) dX4_markBegun_13 (by decide) ?_
      exact (hjb5 _ _ _)
set_option maxRecDepth 100000 in
theorem kC_X4_markBegun : g_okC M_X4_markBegun 0 := And.intro (g_t (i := 524) rfl (by decide +kernel)) (And.intro (g_nd nd_4_ok (k := 2) rfl) (And.intro (by decide) (And.intro (by decide) (by decide +kernel))))
def M_X5_addColumn : gM := (yX5_addColumn, cX5_addColumn, 2, some .boolean, 0, 0)
def f_X5_addColumn (S : gS) (a0 : Nat) (p1 : Nat) : Option (Int32 × gS) :=
g_getI S 5 2 a0 fun x1 =>
if x1 < (8 : Int32) then (
g_getI S 5 2 a0 fun x2 =>
g_putI S 6 4 p1 x2 fun S3 =>
g_getR S3 5 0 a0 fun a4 =>
g_getI S3 5 2 a0 fun x5 =>
g_getI S3 6 1 p1 fun x6 =>
g_stI S3 a4 x5 x6 fun S7 =>
g_getR S7 5 1 a0 fun a8 =>
g_getI S7 5 2 a0 fun x9 =>
g_getI S7 6 2 p1 fun x10 =>
g_stI S7 a8 x9 x10 fun S11 =>
g_getI S11 5 2 a0 fun x12 =>
g_putI S11 5 2 a0 (x12 + (1 : Int32)) fun S13 =>
some ((1 : Int32), S13))
else (
some ((0 : Int32), S))
set_option maxRecDepth 100000 in
set_option maxHeartbeats 4000000 in
theorem c_X5_addColumn (E : gE) (S : gS) (a0 : Nat) (p1 : Nat) : gC gI E M_X5_addColumn [.ref a0, .ref p1] S (f_X5_addColumn S a0 p1) := by
  refine gC.of (by decide) (Nat.le_of_ble_eq_true rfl) ?_
  unfold f_X5_addColumn
  show gJ gI E M_X5_addColumn _ _ 0 [(0, .ref a0), (1, .ref p1)] [] S _
  refine X_aload_n 0 dX5_addColumn_0 rfl rfl ?_
  refine X_getI kF_X5_24 rfl dX5_addColumn_1 (fun x1 => ?_)
  refine X_bipush (v := (8 : Int32)) dX5_addColumn_4 (by decide) ?_
  refine X_icmp_lt (tgt := 11) dX5_addColumn_6 (by decide) ?_ ?_
  · skip
    refine X_aload_n 1 dX5_addColumn_11 rfl rfl ?_
    refine X_aload_n 0 dX5_addColumn_12 rfl rfl ?_
    refine X_getI kF_X5_24 rfl dX5_addColumn_13 (fun x2 => ?_)
    refine X_putI kF_X5_44 rfl rfl dX5_addColumn_16 (fun S3 => ?_)
    refine X_aload_n 0 dX5_addColumn_19 rfl rfl ?_
    refine X_getR kF_X5_9 rfl dX5_addColumn_20 (fun a4 => ?_)
    refine X_aload_n 0 dX5_addColumn_23 rfl rfl ?_
    refine X_getI kF_X5_24 rfl dX5_addColumn_24 (fun x5 => ?_)
    refine X_aload_n 1 dX5_addColumn_27 rfl rfl ?_
    refine X_getI kF_X5_28 rfl dX5_addColumn_28 (fun x6 => ?_)
    refine X_iast dX5_addColumn_31 (fun S7 => ?_)
    refine X_aload_n 0 dX5_addColumn_32 rfl rfl ?_
    refine X_getR kF_X5_15 rfl dX5_addColumn_33 (fun a8 => ?_)
    refine X_aload_n 0 dX5_addColumn_36 rfl rfl ?_
    refine X_getI kF_X5_24 rfl dX5_addColumn_37 (fun x9 => ?_)
    refine X_aload_n 1 dX5_addColumn_40 rfl rfl ?_
    refine X_getI kF_X5_54 rfl dX5_addColumn_41 (fun x10 => ?_)
    refine X_iast dX5_addColumn_44 (fun S11 => ?_)
    refine X_aload_n 0 dX5_addColumn_45 rfl rfl ?_
    refine X_dup dX5_addColumn_46 rfl ?_
    refine X_getI kF_X5_24 rfl dX5_addColumn_47 (fun x12 => ?_)
    refine X_iconst (v := (1 : Int32)) dX5_addColumn_50 (by decide) ?_
    refine X_iadd dX5_addColumn_51 ?_
    refine X_putI kF_X5_24 rfl rfl dX5_addColumn_52 (fun S13 => ?_)
    refine X_iconst (v := (1 : Int32)) dX5_addColumn_55 (by decide) ?_
    exact X_z1 rfl dX5_addColumn_56
  · skip
    refine X_iconst (v := (0 : Int32)) dX5_addColumn_9 (by decide) ?_
    exact X_z0 rfl dX5_addColumn_10
set_option maxRecDepth 100000 in
theorem kC_X5_addColumn : g_okC M_X5_addColumn 1 := And.intro (g_t (i := 502) rfl (by decide +kernel)) (And.intro (g_nd nd_4_ok (k := 34) rfl) (And.intro (by decide) (And.intro (by decide) (by decide +kernel))))
def M_X5_dropColumn : gM := (yX5_dropColumn, cX5_dropColumn, 3, none, 1, 26)
def f_X5_dropColumn (S : gS) (a0 : Nat) (p1 : Int32) : Option (gS) :=
g_getI S 5 2 a0 fun x1 =>
g_lt ((x1 - p1) - (1 : Int32)) fun x2 =>
g_getR S 5 0 a0 fun a3 =>
g_getR S 5 0 a0 fun a4 =>
g_cpI S a3 (p1 + (1 : Int32)) a4 p1 x2 fun S5 =>
g_getR S5 5 1 a0 fun a6 =>
g_getR S5 5 1 a0 fun a7 =>
g_cpI S5 a6 (p1 + (1 : Int32)) a7 p1 x2 fun S8 =>
g_getI S8 5 2 a0 fun x9 =>
g_putI S8 5 2 a0 (x9 - (1 : Int32)) fun S10 =>
some S10
set_option maxRecDepth 100000 in
set_option maxHeartbeats 4000000 in
theorem c_X5_dropColumn (E : gE) (S : gS) (a0 : Nat) (p1 : Int32) : gC gV E M_X5_dropColumn [.ref a0, .int p1] S (f_X5_dropColumn S a0 p1) := by
  refine gC.of (by decide) (Nat.le_of_ble_eq_true rfl) ?_
  unfold f_X5_dropColumn
  show gJ gV E M_X5_dropColumn _ _ 0 [(0, .ref a0), (1, .int p1)] [] S _
  refine X_aload_n 0 dX5_dropColumn_0 rfl rfl ?_
  refine X_getI kF_X5_24 rfl dX5_dropColumn_1 (fun x1 => ?_)
  refine X_iload_n 1 dX5_dropColumn_4 rfl rfl ?_
  refine X_isub dX5_dropColumn_5 ?_
  refine X_iconst (v := (1 : Int32)) dX5_dropColumn_6 (by decide) ?_
  refine X_isub dX5_dropColumn_7 ?_
  refine X_topI (fun x2 => ?_)
  refine X_istore_n (lv2 := [(2, .int x2), (0, .ref a0), (1, .int p1)]) dX5_dropColumn_8 rfl (by decide) rfl ?_
  refine X_aload_n 1 dX5_dropColumn_9 rfl rfl ?_
  refine X_getR kF_X5_9 rfl dX5_dropColumn_10 (fun a3 => ?_)
  refine X_iload_n 2 dX5_dropColumn_13 rfl rfl ?_
  refine X_iconst (v := (1 : Int32)) dX5_dropColumn_14 (by decide) ?_
  refine X_iadd dX5_dropColumn_15 ?_
  refine X_aload_n 1 dX5_dropColumn_16 rfl rfl ?_
  refine X_getR kF_X5_9 rfl dX5_dropColumn_17 (fun a4 => ?_)
  refine X_iload_n 2 dX5_dropColumn_20 rfl rfl ?_
  refine X_iload_n 0 dX5_dropColumn_21 rfl rfl ?_
  refine X_cpI kL_X5_18 kN_copy kS_copy kJ_System (by decide) (Nat.le_of_ble_eq_true rfl) dX5_dropColumn_22 (fun S5 => ?_)
  refine X_aload_n 1 dX5_dropColumn_25 rfl rfl ?_
  refine X_getR kF_X5_15 rfl dX5_dropColumn_26 (fun a6 => ?_)
  refine X_iload_n 2 dX5_dropColumn_29 rfl rfl ?_
  refine X_iconst (v := (1 : Int32)) dX5_dropColumn_30 (by decide) ?_
  refine X_iadd dX5_dropColumn_31 ?_
  refine X_aload_n 1 dX5_dropColumn_32 rfl rfl ?_
  refine X_getR kF_X5_15 rfl dX5_dropColumn_33 (fun a7 => ?_)
  refine X_iload_n 2 dX5_dropColumn_36 rfl rfl ?_
  refine X_iload_n 0 dX5_dropColumn_37 rfl rfl ?_
  refine X_cpI kL_X5_18 kN_copy kS_copy kJ_System (by decide) (Nat.le_of_ble_eq_true rfl) dX5_dropColumn_38 (fun S8 => ?_)
  refine X_aload_n 1 dX5_dropColumn_41 rfl rfl ?_
  refine X_dup dX5_dropColumn_42 rfl ?_
  refine X_getI kF_X5_24 rfl dX5_dropColumn_43 (fun x9 => ?_)
  refine X_iconst (v := (1 : Int32)) dX5_dropColumn_46 (by decide) ?_
  refine X_isub dX5_dropColumn_47 ?_
  refine X_putI kF_X5_24 rfl rfl dX5_dropColumn_48 (fun S10 => ?_)
  exact X_vret rfl dX5_dropColumn_51
set_option maxRecDepth 100000 in
theorem kC_X5_dropColumn : g_okC M_X5_dropColumn 1 := And.intro (g_t (i := 506) rfl (by decide +kernel)) (And.intro (g_nd nd_4_ok (k := 34) rfl) (And.intro (by decide) (And.intro (by decide) (by decide +kernel))))
def M_X5_placeOf : gM := (yX5_placeOf, cX5_placeOf, 3, some .int, 0, 0)
def l_X5_placeOf_2 (u0 : Nat) (u1 : Int32) : Nat → gS → Int32 → Option (Int32 × gS)
  | 0, _, _ => none
  | n + 1, S, u2 =>
    g_getI S 5 2 u0 fun x1 =>
    if x1 ≤ u2 then (
    some ((-1 : Int32), S))
    else (
    g_getR S 5 0 u0 fun a2 =>
    g_ldI S 10 a2 u2 fun x3 =>
    if x3 = u1 then (
    some (u2, S))
    else (
    l_X5_placeOf_2 u0 u1 n S (u2 + (1 : Int32)) ))
def f_X5_placeOf (S : gS) (a0 : Nat) (p1 : Int32) : Option (Int32 × gS) :=
l_X5_placeOf_2 a0 p1 100 S (0 : Int32) 
set_option maxRecDepth 100000 in
set_option maxHeartbeats 4000000 in
theorem j_X5_placeOf_2 (E : gE) {n0 s0 : Nat} (u0 : Nat) (u1 : Int32) : ∀ (n : Nat) (S : gS) (u2 : Int32), gJ gI E M_X5_placeOf n0 s0 2 [(0, .ref u0), (1, .int u1), (2, .int u2)] [] S (l_X5_placeOf_2 u0 u1 n S u2 ) := by
  intro n
  induction n with
  | zero =>
    intros
    rw [l_X5_placeOf_2]
    exact gJ.none
  | succ n ih =>
    intro S u2  
    rw [l_X5_placeOf_2]
    refine X_iload_n 2 dX5_placeOf_2 rfl rfl ?_
    refine X_aload_n 0 dX5_placeOf_3 rfl rfl ?_
    refine X_getI kF_X5_24 rfl dX5_placeOf_4 (fun x1 => ?_)
    refine X_icmp_ge (tgt := 28) dX5_placeOf_7 (by decide) ?_ ?_
    · skip
      refine X_iconst (v := (-1 : Int32)) dX5_placeOf_28 (by decide) ?_
      exact X_iret rfl dX5_placeOf_29
    · skip
      refine X_aload_n 0 dX5_placeOf_10 rfl rfl ?_
      refine X_getR kF_X5_9 rfl dX5_placeOf_11 (fun a2 => ?_)
      refine X_iload_n 2 dX5_placeOf_14 rfl rfl ?_
      refine X_iald dX5_placeOf_15 (fun x3 => ?_)
      refine X_iload_n 1 dX5_placeOf_16 rfl rfl ?_
      refine X_icmp_ne (tgt := 22) dX5_placeOf_17 (by decide) ?_ ?_
      · skip
        refine X_iload_n 2 dX5_placeOf_20 rfl rfl ?_
        exact X_iret rfl dX5_placeOf_21
      · skip
        refine X_iinc (k := 2) (x := u2) (v := (1 : Int32)) (lv2 := [(2, .int (u2 + (1 : Int32))), (0, .ref u0), (1, .int u1)]) dX5_placeOf_22 rfl (by decide) (by decide) rfl ?_
        refine X_goto (tgt := 2) dX5_placeOf_25 (by decide) ?_
        exact X_sub [1, 2, 0] rfl (ih _ _)
set_option maxRecDepth 100000 in
set_option maxHeartbeats 4000000 in
theorem c_X5_placeOf (E : gE) (S : gS) (a0 : Nat) (p1 : Int32) : gC gI E M_X5_placeOf [.ref a0, .int p1] S (f_X5_placeOf S a0 p1) := by
  refine gC.of (by decide) (Nat.le_of_ble_eq_true rfl) ?_
  unfold f_X5_placeOf
  show gJ gI E M_X5_placeOf _ _ 0 [(0, .ref a0), (1, .int p1)] [] S _
  refine X_iconst (v := (0 : Int32)) dX5_placeOf_0 (by decide) ?_
  refine X_istore_n (lv2 := [(2, .int (0 : Int32)), (0, .ref a0), (1, .int p1)]) dX5_placeOf_1 rfl (by decide) rfl ?_
  exact X_sub [1, 2, 0] rfl (j_X5_placeOf_2 E a0 p1 100 _ _)
set_option maxRecDepth 100000 in
theorem kC_X5_placeOf : g_okC M_X5_placeOf 1 := And.intro (g_t (i := 498) rfl (by decide +kernel)) (And.intro (g_nd nd_4_ok (k := 34) rfl) (And.intro (by decide) (And.intro (by decide) (by decide +kernel))))
def M_X5_renameColumn : gM := (yX5_renameColumn, cX5_renameColumn, 3, some .boolean, 1, 22)
def f_X5_renameColumn (S : gS) (a0 : Nat) (p1 : Int32) (p2 : Int32) : Option (Int32 × gS) :=
g_cVI S 5 a0 (f_X5_placeOf S a0 p2) fun x2 S1 =>
if x2 < 0 then (
g_getR S1 5 0 a0 fun a3 =>
g_stI S1 a3 p1 p2 fun S4 =>
some ((1 : Int32), S4))
else (
some ((0 : Int32), S1))
set_option maxRecDepth 100000 in
set_option maxHeartbeats 4000000 in
theorem c_X5_renameColumn (E : gE) (S : gS) (a0 : Nat) (p1 : Int32) (p2 : Int32) : gC gI E M_X5_renameColumn [.ref a0, .int p1, .int p2] S (f_X5_renameColumn S a0 p1 p2) := by
  refine gC.of (by decide) (Nat.le_of_ble_eq_true rfl) ?_
  unfold f_X5_renameColumn
  show gJ gI E M_X5_renameColumn _ _ 0 [(0, .ref a0), (1, .int p1), (2, .int p2)] [] S _
  refine X_aload_n 0 dX5_renameColumn_0 rfl rfl ?_
  refine X_iload_n 2 dX5_renameColumn_1 rfl rfl ?_
  refine X_callVI (ci := 5) (As := [.int p2]) (st := []) (c_X5_placeOf E S a0 p2) (by decide) rfl kC_X5_placeOf kL_X5_33 kI_X5_placeOf kE_X5_placeOf (by unfold g_okR; decide) rfl (Nat.le_of_ble_eq_true rfl) dX5_renameColumn_2 (fun x2 S1 => ?_)
  refine X_if_lt (tgt := 10) dX5_renameColumn_5 (by decide) ?_ ?_
  · skip
    refine X_aload_n 0 dX5_renameColumn_10 rfl rfl ?_
    refine X_getR kF_X5_9 rfl dX5_renameColumn_11 (fun a3 => ?_)
    refine X_iload_n 1 dX5_renameColumn_14 rfl rfl ?_
    refine X_iload_n 2 dX5_renameColumn_15 rfl rfl ?_
    refine X_iast dX5_renameColumn_16 (fun S4 => ?_)
    refine X_iconst (v := (1 : Int32)) dX5_renameColumn_17 (by decide) ?_
    exact X_z1 rfl dX5_renameColumn_18
  · skip
    refine X_iconst (v := (0 : Int32)) dX5_renameColumn_8 (by decide) ?_
    exact X_z0 rfl dX5_renameColumn_9
set_option maxRecDepth 100000 in
theorem kC_X5_renameColumn : g_okC M_X5_renameColumn 2 := And.intro (g_t (i := 510) rfl (by decide +kernel)) (And.intro (g_nd nd_4_ok (k := 34) rfl) (And.intro (by decide) (And.intro (by decide) (by decide +kernel))))
def M_X5_retypeColumn : gM := (yX5_retypeColumn, cX5_retypeColumn, 3, some .boolean, 0, 0)
def f_X5_retypeColumn (S : gS) (a0 : Nat) (p1 : Int32) (p2 : Int32) : Option (Int32 × gS) :=
g_getR S 5 1 a0 fun a1 =>
g_ldI S 10 a1 p1 fun x2 =>
g_ldX 5 g_cb x2 fun x3 =>
if ((x3 >>> (p2 &&& 31)) &&& (1 : Int32)) = 0 then (
some ((0 : Int32), S))
else (
g_getR S 5 1 a0 fun a4 =>
g_stI S a4 p1 p2 fun S5 =>
some ((1 : Int32), S5))
set_option maxRecDepth 100000 in
set_option maxHeartbeats 4000000 in
theorem c_X5_retypeColumn (E : gE) (S : gS) (a0 : Nat) (p1 : Int32) (p2 : Int32) : gC gI E M_X5_retypeColumn [.ref a0, .int p1, .int p2] S (f_X5_retypeColumn S a0 p1 p2) := by
  refine gC.of (by decide) (Nat.le_of_ble_eq_true rfl) ?_
  unfold f_X5_retypeColumn
  show gJ gI E M_X5_retypeColumn _ _ 0 [(0, .ref a0), (1, .int p1), (2, .int p2)] [] S _
  refine X_gets kG_X5_64 dX5_retypeColumn_0 ?_
  refine X_aload_n 0 dX5_retypeColumn_3 rfl rfl ?_
  refine X_getR kF_X5_15 rfl dX5_retypeColumn_4 (fun a1 => ?_)
  refine X_iload_n 1 dX5_retypeColumn_7 rfl rfl ?_
  refine X_iald dX5_retypeColumn_8 (fun x2 => ?_)
  refine X_tld dX5_retypeColumn_9 (fun x3 => ?_)
  refine X_iload_n 2 dX5_retypeColumn_10 rfl rfl ?_
  refine X_ishr dX5_retypeColumn_11 ?_
  refine X_iconst (v := (1 : Int32)) dX5_retypeColumn_12 (by decide) ?_
  refine X_iand dX5_retypeColumn_13 ?_
  refine X_if_ne (tgt := 19) dX5_retypeColumn_14 (by decide) ?_ ?_
  · skip
    refine X_iconst (v := (0 : Int32)) dX5_retypeColumn_17 (by decide) ?_
    exact X_z0 rfl dX5_retypeColumn_18
  · skip
    refine X_aload_n 0 dX5_retypeColumn_19 rfl rfl ?_
    refine X_getR kF_X5_15 rfl dX5_retypeColumn_20 (fun a4 => ?_)
    refine X_iload_n 1 dX5_retypeColumn_23 rfl rfl ?_
    refine X_iload_n 2 dX5_retypeColumn_24 rfl rfl ?_
    refine X_iast dX5_retypeColumn_25 (fun S5 => ?_)
    refine X_iconst (v := (1 : Int32)) dX5_retypeColumn_26 (by decide) ?_
    exact X_z1 rfl dX5_retypeColumn_27
set_option maxRecDepth 100000 in
theorem kC_X5_retypeColumn : g_okC M_X5_retypeColumn 2 := And.intro (g_t (i := 514) rfl (by decide +kernel)) (And.intro (g_nd nd_4_ok (k := 34) rfl) (And.intro (by decide) (And.intro (by decide) (by decide +kernel))))
def M_X5_change : gM := (yX5_change, cX5_change, 3, some .boolean, 2, 48)
def f_X5_change (S : gS) (a0 : Nat) (p1 : Nat) : Option (Int32 × gS) :=
g_getI S 6 1 p1 fun x1 =>
g_cVI S 5 a0 (f_X5_placeOf S a0 x1) fun x3 S2 =>
g_getI S2 6 0 p1 fun x4 =>
if x4 = 0 then (
g_jn (fun (S5 : gS) => (
some ((0 : Int32), S5))) fun jb6 => (
if 0 ≤ x3 then (
jb6 S2)
else (
g_cVI S2 5 a0 (f_X5_addColumn S2 a0 p1) fun x8 S7 =>
if x8 = 0 then (
jb6 S7)
else (
some ((1 : Int32), S7)))))
else (
if 0 ≤ x3 then (
g_putI S2 6 4 p1 x3 fun S9 =>
g_getR S9 5 1 a0 fun a10 =>
g_ldI S9 10 a10 x3 fun x11 =>
g_putI S9 6 5 p1 x11 fun S12 =>
g_getI S12 6 0 p1 fun x13 =>
if x13 = (1 : Int32) then (
g_cVV S12 5 a0 (f_X5_dropColumn S12 a0 x3) fun S15 =>
some ((1 : Int32), S15))
else (
if x13 = (2 : Int32) then (
g_getI S12 6 2 p1 fun x17 =>
g_cVI S12 5 a0 (f_X5_renameColumn S12 a0 x3 x17) fun x19 S18 =>
g_z x19 (some (x19, S18)))
else (
g_getI S12 6 2 p1 fun x20 =>
g_cVI S12 5 a0 (f_X5_retypeColumn S12 a0 x3 x20) fun x22 S21 =>
g_z x22 (some (x22, S21)))))
else (
some ((0 : Int32), S2)))
set_option maxRecDepth 100000 in
set_option maxHeartbeats 4000000 in
theorem c_X5_change (E : gE) (S : gS) (a0 : Nat) (p1 : Nat) : gC gI E M_X5_change [.ref a0, .ref p1] S (f_X5_change S a0 p1) := by
  refine gC.of (by decide) (Nat.le_of_ble_eq_true rfl) ?_
  unfold f_X5_change
  show gJ gI E M_X5_change _ _ 0 [(0, .ref a0), (1, .ref p1)] [] S _
  refine X_aload_n 0 dX5_change_0 rfl rfl ?_
  refine X_aload_n 1 dX5_change_1 rfl rfl ?_
  refine X_getI kF_X5_28 rfl dX5_change_2 (fun x1 => ?_)
  refine X_callVI (ci := 5) (As := [.int x1]) (st := []) (c_X5_placeOf E S a0 x1) (by decide) rfl kC_X5_placeOf kL_X5_33 kI_X5_placeOf kE_X5_placeOf (by unfold g_okR; decide) rfl (Nat.le_of_ble_eq_true rfl) dX5_change_5 (fun x3 S2 => ?_)
  refine X_istore_n (lv2 := [(2, .int x3), (0, .ref a0), (1, .ref p1)]) dX5_change_8 rfl (by decide) rfl ?_
  refine X_aload_n 2 dX5_change_9 rfl rfl ?_
  refine X_getI kF_X5_37 rfl dX5_change_10 (fun x4 => ?_)
  refine X_if_ne (tgt := 34) dX5_change_13 (by decide) ?_ ?_
  · skip
    refine X_iload_n 0 dX5_change_16 rfl rfl ?_
    refine X_jn (fun (j : gS → Option (Int32 × gS)) => ∀ (S5 : gS), gJ gI E M_X5_change (gn S) (gsl S) 32 [(0, .ref a0), (1, .ref p1), (2, .int x3)] [] S5 (j S5)) ?_ (fun jb6 hjb6 => ?_)
    · intro S5
      refine X_iconst (v := (0 : Int32)) dX5_change_32 (by decide) ?_
      exact X_z0 rfl dX5_change_33
    · skip
      refine X_if_ge (tgt := 32) dX5_change_17 (by decide) ?_ ?_
      · skip
        exact X_sub [1, 2, 0] rfl (hjb6 _)
      · skip
        refine X_aload_n 1 dX5_change_20 rfl rfl ?_
        refine X_aload_n 2 dX5_change_21 rfl rfl ?_
        refine X_callVI (ci := 5) (As := [.ref p1]) (st := []) (c_X5_addColumn E S2 a0 p1) (by decide) rfl kC_X5_addColumn kL_X5_40 kI_X5_addColumn kE_X5_addColumn (by unfold g_okR; decide) rfl (Nat.le_of_ble_eq_true rfl) dX5_change_22 (fun x8 S7 => ?_)
        refine X_if_eq (tgt := 32) dX5_change_25 (by decide) ?_ ?_
        · skip
          exact X_sub [1, 2, 0] rfl (hjb6 _)
        · skip
          refine X_iconst (v := (1 : Int32)) dX5_change_28 (by decide) ?_
          refine X_goto (tgt := 33) dX5_change_29 (by decide) ?_
          exact X_z1 rfl dX5_change_33
  · skip
    refine X_iload_n 0 dX5_change_34 rfl rfl ?_
    refine X_if_ge (tgt := 40) dX5_change_35 (by decide) ?_ ?_
    · skip
      refine X_aload_n 2 dX5_change_40 rfl rfl ?_
      refine X_iload_n 0 dX5_change_41 rfl rfl ?_
      refine X_putI kF_X5_44 rfl rfl dX5_change_42 (fun S9 => ?_)
      refine X_aload_n 2 dX5_change_45 rfl rfl ?_
      refine X_aload_n 1 dX5_change_46 rfl rfl ?_
      refine X_getR kF_X5_15 rfl dX5_change_47 (fun a10 => ?_)
      refine X_iload_n 0 dX5_change_50 rfl rfl ?_
      refine X_iald dX5_change_51 (fun x11 => ?_)
      refine X_putI kF_X5_47 rfl rfl dX5_change_52 (fun S12 => ?_)
      refine X_aload_n 2 dX5_change_55 rfl rfl ?_
      refine X_getI kF_X5_37 rfl dX5_change_56 (fun x13 => ?_)
      by_cases h14 : x13 = (1 : Int32)
      · refine X_eq (if_pos h14) ?_
        refine X_look (off := 25) (tgt := 84) dX5_change_59 rfl (by rw [h14]; first | done | rfl) (by decide) ?_
        refine X_aload_n 1 dX5_change_84 rfl rfl ?_
        refine X_iload_n 0 dX5_change_85 rfl rfl ?_
        refine X_callVV (ci := 5) (As := [.int x3]) (st := []) (c_X5_dropColumn E S12 a0 x3) (by decide) rfl kC_X5_dropColumn kL_X5_50 kI_X5_dropColumn kE_X5_dropColumn (by unfold g_okR; decide) rfl (Nat.le_of_ble_eq_true rfl) dX5_change_86 (fun S15 => ?_)
        refine X_iconst (v := (1 : Int32)) dX5_change_89 (by decide) ?_
        exact X_z1 rfl dX5_change_90
      · refine X_eq (if_neg h14) ?_
        by_cases h16 : x13 = (2 : Int32)
        · refine X_eq (if_pos h16) ?_
          refine X_look (off := 32) (tgt := 91) dX5_change_59 rfl (by rw [h16]; first | done | rfl) (by decide) ?_
          refine X_aload_n 1 dX5_change_91 rfl rfl ?_
          refine X_iload_n 0 dX5_change_92 rfl rfl ?_
          refine X_aload_n 2 dX5_change_93 rfl rfl ?_
          refine X_getI kF_X5_54 rfl dX5_change_94 (fun x17 => ?_)
          refine X_callVI (ci := 5) (As := [.int x3, .int x17]) (st := []) (c_X5_renameColumn E S12 a0 x3 x17) (by decide) rfl kC_X5_renameColumn kL_X5_57 kI_X5_renameColumn kE_X5_renameColumn (by unfold g_okR; decide) rfl (Nat.le_of_ble_eq_true rfl) dX5_change_97 (fun x19 S18 => ?_)
          exact X_zret rfl dX5_change_100
        · refine X_eq (if_neg h16) ?_
          have eh14 : (x13).toInt ≠ 1 := fun q => h14 ((g_i32 q).trans (by decide))
          have eh16 : (x13).toInt ≠ 2 := fun q => h16 ((g_i32 q).trans (by decide))
          refine X_look (off := 42) (tgt := 101) dX5_change_59 rfl (by simp [Op.lookupswitch.offset, eh14.symm, eh16.symm]) (by decide) ?_
          refine X_aload_n 1 dX5_change_101 rfl rfl ?_
          refine X_iload_n 0 dX5_change_102 rfl rfl ?_
          refine X_aload_n 2 dX5_change_103 rfl rfl ?_
          refine X_getI kF_X5_54 rfl dX5_change_104 (fun x20 => ?_)
          refine X_callVI (ci := 5) (As := [.int x3, .int x20]) (st := []) (c_X5_retypeColumn E S12 a0 x3 x20) (by decide) rfl kC_X5_retypeColumn kL_X5_61 kI_X5_retypeColumn kE_X5_retypeColumn (by unfold g_okR; decide) rfl (Nat.le_of_ble_eq_true rfl) dX5_change_107 (fun x22 S21 => ?_)
          exact X_zret rfl dX5_change_110
    · skip
      refine X_iconst (v := (0 : Int32)) dX5_change_38 (by decide) ?_
      exact X_z0 rfl dX5_change_39
set_option maxRecDepth 100000 in
theorem kC_X5_change : g_okC M_X5_change 1 := And.intro (g_t (i := 494) rfl (by decide +kernel)) (And.intro (g_nd nd_4_ok (k := 34) rfl) (And.intro (by decide) (And.intro (by decide) (by decide +kernel))))
def M_X5_copyFrom : gM := (yX5_copyFrom, cX5_copyFrom, 2, none, 1, 26)
def f_X5_copyFrom (S : gS) (a0 : Nat) (p1 : Nat) : Option (gS) :=
g_getR S 5 0 p1 fun a1 =>
g_getR S 5 0 a0 fun a2 =>
g_cpI S a1 (0 : Int32) a2 (0 : Int32) (8 : Int32) fun S3 =>
g_getR S3 5 1 p1 fun a4 =>
g_getR S3 5 1 a0 fun a5 =>
g_cpI S3 a4 (0 : Int32) a5 (0 : Int32) (8 : Int32) fun S6 =>
g_getI S6 5 2 p1 fun x7 =>
g_putI S6 5 2 a0 x7 fun S8 =>
some S8
set_option maxRecDepth 100000 in
set_option maxHeartbeats 4000000 in
theorem c_X5_copyFrom (E : gE) (S : gS) (a0 : Nat) (p1 : Nat) : gC gV E M_X5_copyFrom [.ref a0, .ref p1] S (f_X5_copyFrom S a0 p1) := by
  refine gC.of (by decide) (Nat.le_of_ble_eq_true rfl) ?_
  unfold f_X5_copyFrom
  show gJ gV E M_X5_copyFrom _ _ 0 [(0, .ref a0), (1, .ref p1)] [] S _
  refine X_aload_n 1 dX5_copyFrom_0 rfl rfl ?_
  refine X_getR kF_X5_9 rfl dX5_copyFrom_1 (fun a1 => ?_)
  refine X_iconst (v := (0 : Int32)) dX5_copyFrom_4 (by decide) ?_
  refine X_aload_n 0 dX5_copyFrom_5 rfl rfl ?_
  refine X_getR kF_X5_9 rfl dX5_copyFrom_6 (fun a2 => ?_)
  refine X_iconst (v := (0 : Int32)) dX5_copyFrom_9 (by decide) ?_
  refine X_bipush (v := (8 : Int32)) dX5_copyFrom_10 (by decide) ?_
  refine X_cpI kL_X5_18 kN_copy kS_copy kJ_System (by decide) (Nat.le_of_ble_eq_true rfl) dX5_copyFrom_12 (fun S3 => ?_)
  refine X_aload_n 1 dX5_copyFrom_15 rfl rfl ?_
  refine X_getR kF_X5_15 rfl dX5_copyFrom_16 (fun a4 => ?_)
  refine X_iconst (v := (0 : Int32)) dX5_copyFrom_19 (by decide) ?_
  refine X_aload_n 0 dX5_copyFrom_20 rfl rfl ?_
  refine X_getR kF_X5_15 rfl dX5_copyFrom_21 (fun a5 => ?_)
  refine X_iconst (v := (0 : Int32)) dX5_copyFrom_24 (by decide) ?_
  refine X_bipush (v := (8 : Int32)) dX5_copyFrom_25 (by decide) ?_
  refine X_cpI kL_X5_18 kN_copy kS_copy kJ_System (by decide) (Nat.le_of_ble_eq_true rfl) dX5_copyFrom_27 (fun S6 => ?_)
  refine X_aload_n 0 dX5_copyFrom_30 rfl rfl ?_
  refine X_aload_n 1 dX5_copyFrom_31 rfl rfl ?_
  refine X_getI kF_X5_24 rfl dX5_copyFrom_32 (fun x7 => ?_)
  refine X_putI kF_X5_24 rfl rfl dX5_copyFrom_35 (fun S8 => ?_)
  exact X_vret rfl dX5_copyFrom_38
set_option maxRecDepth 100000 in
theorem kC_X5_copyFrom : g_okC M_X5_copyFrom 1 := And.intro (g_t (i := 449) rfl (by decide +kernel)) (And.intro (g_nd nd_4_ok (k := 34) rfl) (And.intro (by decide) (And.intro (by decide) (by decide +kernel))))
def M_X3_firstWrongStep : gM := (yX3_firstWrongStep, cX3_firstWrongStep, 4, some .int, 3, 70)
def l_X3_firstWrongStep_7 (u0 : Nat) (u1 : Nat) (u2 : Nat) : Nat → gS → Int32 → Option (Int32 × gS)
  | 0, _, _ => none
  | n + 1, S, u3 =>
    g_getI S 3 1 u0 fun x2 =>
    if x2 ≤ u3 then (
    some ((-1 : Int32), S))
    else (
    g_getR S 3 0 u0 fun a3 =>
    g_ldR S 14 a3 u3 fun a4 =>
    g_cVI S 5 u2 (f_X5_change S u2 a4) fun x6 S5 =>
    if x6 = 0 then (
    some (u3, S5))
    else (
    l_X3_firstWrongStep_7 u0 u1 u2 n S5 (u3 + (1 : Int32)) ))
def f_X3_firstWrongStep (S : gS) (a0 : Nat) (p1 : Nat) (p2 : Nat) : Option (Int32 × gS) :=
g_cVV S 5 p2 (f_X5_copyFrom S p2 p1) fun S1 =>
l_X3_firstWrongStep_7 a0 p1 p2 100 S1 (0 : Int32) 
set_option maxRecDepth 100000 in
set_option maxHeartbeats 4000000 in
theorem j_X3_firstWrongStep_7 (E : gE) {n0 s0 : Nat} (u0 : Nat) (u1 : Nat) (u2 : Nat) : ∀ (n : Nat) (S : gS) (u3 : Int32), gJ gI E M_X3_firstWrongStep n0 s0 7 [(0, .ref u0), (1, .ref u1), (2, .ref u2), (3, .int u3)] [] S (l_X3_firstWrongStep_7 u0 u1 u2 n S u3 ) := by
  intro n
  induction n with
  | zero =>
    intros
    rw [l_X3_firstWrongStep_7]
    exact gJ.none
  | succ n ih =>
    intro S u3  
    rw [l_X3_firstWrongStep_7]
    refine X_iload_n 3 dX3_firstWrongStep_7 rfl rfl ?_
    refine X_aload_n 0 dX3_firstWrongStep_8 rfl rfl ?_
    refine X_getI kF_X3_22 rfl dX3_firstWrongStep_9 (fun x2 => ?_)
    refine X_icmp_ge (tgt := 36) dX3_firstWrongStep_12 (by decide) ?_ ?_
    · skip
      refine X_iconst (v := (-1 : Int32)) dX3_firstWrongStep_36 (by decide) ?_
      exact X_iret rfl dX3_firstWrongStep_37
    · skip
      refine X_aload_n 2 dX3_firstWrongStep_15 rfl rfl ?_
      refine X_aload_n 0 dX3_firstWrongStep_16 rfl rfl ?_
      refine X_getR kF_X3_11 rfl dX3_firstWrongStep_17 (fun a3 => ?_)
      refine X_iload_n 3 dX3_firstWrongStep_20 rfl rfl ?_
      refine X_aald (Or.inr rfl) dX3_firstWrongStep_21 (fun a4 => ?_)
      refine X_callVI (ci := 5) (As := [.ref a4]) (st := []) (c_X5_change E S u2 a4) (by decide) rfl kC_X5_change kL_X3_45 kI_X5_change kE_X5_change (by unfold g_okR; decide) rfl (Nat.le_of_ble_eq_true rfl) dX3_firstWrongStep_22 (fun x6 S5 => ?_)
      refine X_if_ne (tgt := 30) dX3_firstWrongStep_25 (by decide) ?_ ?_
      · skip
        refine X_iload_n 3 dX3_firstWrongStep_28 rfl rfl ?_
        exact X_iret rfl dX3_firstWrongStep_29
      · skip
        refine X_iinc (k := 3) (x := u3) (v := (1 : Int32)) (lv2 := [(3, .int (u3 + (1 : Int32))), (0, .ref u0), (1, .ref u1), (2, .ref u2)]) dX3_firstWrongStep_30 rfl (by decide) (by decide) rfl ?_
        refine X_goto (tgt := 7) dX3_firstWrongStep_33 (by decide) ?_
        exact X_sub [1, 2, 3, 0] rfl (ih _ _)
set_option maxRecDepth 100000 in
set_option maxHeartbeats 4000000 in
theorem c_X3_firstWrongStep (E : gE) (S : gS) (a0 : Nat) (p1 : Nat) (p2 : Nat) : gC gI E M_X3_firstWrongStep [.ref a0, .ref p1, .ref p2] S (f_X3_firstWrongStep S a0 p1 p2) := by
  refine gC.of (by decide) (Nat.le_of_ble_eq_true rfl) ?_
  unfold f_X3_firstWrongStep
  show gJ gI E M_X3_firstWrongStep _ _ 0 [(0, .ref a0), (1, .ref p1), (2, .ref p2)] [] S _
  refine X_aload_n 2 dX3_firstWrongStep_0 rfl rfl ?_
  refine X_aload_n 1 dX3_firstWrongStep_1 rfl rfl ?_
  refine X_callVV (ci := 5) (As := [.ref p1]) (st := []) (c_X5_copyFrom E S p2 p1) (by decide) rfl kC_X5_copyFrom kL_X3_39 kI_X5_copyFrom kE_X5_copyFrom (by unfold g_okR; decide) rfl (Nat.le_of_ble_eq_true rfl) dX3_firstWrongStep_2 (fun S1 => ?_)
  refine X_iconst (v := (0 : Int32)) dX3_firstWrongStep_5 (by decide) ?_
  refine X_istore_n (lv2 := [(3, .int (0 : Int32)), (0, .ref a0), (1, .ref p1), (2, .ref p2)]) dX3_firstWrongStep_6 rfl (by decide) rfl ?_
  exact X_sub [1, 2, 3, 0] rfl (j_X3_firstWrongStep_7 E a0 p1 p2 100 _ _)
set_option maxRecDepth 100000 in
theorem kC_X3_firstWrongStep : g_okC M_X3_firstWrongStep 2 := And.intro (g_t (i := 489) rfl (by decide +kernel)) (And.intro (g_nd nd_5_ok (k := 1) rfl) (And.intro (by decide) (And.intro (by decide) (by decide +kernel))))
def M_X7_countShadowed : gM := (yX7_countShadowed, cX7_countShadowed, 3, some .int, 0, 0)
def l_X7_countShadowed_4 (u0 : Nat) : Nat → gS → Int32 → Int32 → Option (Int32 × gS)
  | 0, _, _, _ => none
  | n + 1, S, u1, u2 =>
    g_getI S 7 1 u0 fun x1 =>
    if x1 ≤ u2 then (
    some (u1, S))
    else (
    g_getR S 7 0 u0 fun a2 =>
    g_ldR S 13 a2 u2 fun a3 =>
    g_getI S 4 1 a3 fun x4 =>
    g_jn (fun (S5 : gS) (v6 : Int32) => (
    l_X7_countShadowed_4 u0 n S5 v6 (u2 + (1 : Int32)) )) fun jb7 => (
    if x4 = (2 : Int32) then (
    jb7 S (u1 + (1 : Int32)))
    else (
    jb7 S u1)))
def f_X7_countShadowed (S : gS) (a0 : Nat) : Option (Int32 × gS) :=
l_X7_countShadowed_4 a0 100 S (0 : Int32) (0 : Int32) 
set_option maxRecDepth 100000 in
set_option maxHeartbeats 4000000 in
theorem j_X7_countShadowed_4 (E : gE) {n0 s0 : Nat} (u0 : Nat) : ∀ (n : Nat) (S : gS) (u1 : Int32) (u2 : Int32), gJ gI E M_X7_countShadowed n0 s0 4 [(0, .ref u0), (1, .int u1), (2, .int u2)] [] S (l_X7_countShadowed_4 u0 n S u1 u2 ) := by
  intro n
  induction n with
  | zero =>
    intros
    rw [l_X7_countShadowed_4]
    exact gJ.none
  | succ n ih =>
    intro S u1 u2  
    rw [l_X7_countShadowed_4]
    refine X_iload_n 2 dX7_countShadowed_4 rfl rfl ?_
    refine X_aload_n 0 dX7_countShadowed_5 rfl rfl ?_
    refine X_getI kF_X7_18 rfl dX7_countShadowed_6 (fun x1 => ?_)
    refine X_icmp_ge (tgt := 34) dX7_countShadowed_9 (by decide) ?_ ?_
    · skip
      refine X_iload_n 1 dX7_countShadowed_34 rfl rfl ?_
      exact X_iret rfl dX7_countShadowed_35
    · skip
      refine X_aload_n 0 dX7_countShadowed_12 rfl rfl ?_
      refine X_getR kF_X7_11 rfl dX7_countShadowed_13 (fun a2 => ?_)
      refine X_iload_n 2 dX7_countShadowed_16 rfl rfl ?_
      refine X_aald (Or.inl rfl) dX7_countShadowed_17 (fun a3 => ?_)
      refine X_getI kF_X7_33 rfl dX7_countShadowed_18 (fun x4 => ?_)
      refine X_iconst (v := (2 : Int32)) dX7_countShadowed_21 (by decide) ?_
      refine X_jn (fun (j : gS → Int32 → Option (Int32 × gS)) => ∀ (S5 : gS) (v6 : Int32), gJ gI E M_X7_countShadowed n0 s0 28 [(0, .ref u0), (1, .int v6), (2, .int u2)] [] S5 (j S5 v6)) ?_ (fun jb7 hjb7 => ?_)
      · intro S5 v6
        refine X_iinc (k := 2) (x := u2) (v := (1 : Int32)) (lv2 := [(2, .int (u2 + (1 : Int32))), (0, .ref u0), (1, .int v6)]) dX7_countShadowed_28 rfl (by decide) (by decide) rfl ?_
        refine X_goto (tgt := 4) dX7_countShadowed_31 (by decide) ?_
        exact X_sub [1, 2, 0] rfl (ih _ _ _)
      · skip
        refine X_icmp_ne (tgt := 28) dX7_countShadowed_22 (by decide) ?_ ?_
        · skip
          refine X_iinc (k := 1) (x := u1) (v := (1 : Int32)) (lv2 := [(1, .int (u1 + (1 : Int32))), (0, .ref u0), (2, .int u2)]) dX7_countShadowed_25 rfl (by decide) (by decide) rfl ?_
          exact X_sub [1, 0, 2] rfl (hjb7 _ _)
        · skip
          exact (hjb7 _ _)
set_option maxRecDepth 100000 in
set_option maxHeartbeats 4000000 in
theorem c_X7_countShadowed (E : gE) (S : gS) (a0 : Nat) : gC gI E M_X7_countShadowed [.ref a0] S (f_X7_countShadowed S a0) := by
  refine gC.of (by decide) (Nat.le_of_ble_eq_true rfl) ?_
  unfold f_X7_countShadowed
  show gJ gI E M_X7_countShadowed _ _ 0 [(0, .ref a0)] [] S _
  refine X_iconst (v := (0 : Int32)) dX7_countShadowed_0 (by decide) ?_
  refine X_istore_n (lv2 := [(1, .int (0 : Int32)), (0, .ref a0)]) dX7_countShadowed_1 rfl (by decide) rfl ?_
  refine X_iconst (v := (0 : Int32)) dX7_countShadowed_2 (by decide) ?_
  refine X_istore_n (lv2 := [(2, .int (0 : Int32)), (1, .int (0 : Int32)), (0, .ref a0)]) dX7_countShadowed_3 rfl (by decide) rfl ?_
  exact X_sub [2, 1, 0] rfl (j_X7_countShadowed_4 E a0 100 _ _ _)
set_option maxRecDepth 100000 in
theorem kC_X7_countShadowed : g_okC M_X7_countShadowed 0 := And.intro (g_t (i := 485) rfl (by decide +kernel)) (And.intro (g_nd nd_4_ok (k := 21) rfl) (And.intro (by decide) (And.intro (by decide) (by decide +kernel))))
def M_X7_countLagging : gM := (yX7_countLagging, cX7_countLagging, 3, some .int, 0, 0)
def l_X7_countLagging_4 (u0 : Nat) : Nat → gS → Int32 → Int32 → Option (Int32 × gS)
  | 0, _, _, _ => none
  | n + 1, S, u1, u2 =>
    g_getI S 7 1 u0 fun x1 =>
    if x1 ≤ u2 then (
    some (u1, S))
    else (
    g_getR S 7 0 u0 fun a2 =>
    g_ldR S 13 a2 u2 fun a3 =>
    g_getI S 4 1 a3 fun x4 =>
    g_jn (fun (S5 : gS) (v6 : Int32) => (
    l_X7_countLagging_4 u0 n S5 v6 (u2 + (1 : Int32)) )) fun jb7 => (
    if x4 = 0 then (
    jb7 S u1)
    else (
    jb7 S (u1 + (1 : Int32)))))
def f_X7_countLagging (S : gS) (a0 : Nat) : Option (Int32 × gS) :=
l_X7_countLagging_4 a0 100 S (0 : Int32) (0 : Int32) 
set_option maxRecDepth 100000 in
set_option maxHeartbeats 4000000 in
theorem j_X7_countLagging_4 (E : gE) {n0 s0 : Nat} (u0 : Nat) : ∀ (n : Nat) (S : gS) (u1 : Int32) (u2 : Int32), gJ gI E M_X7_countLagging n0 s0 4 [(0, .ref u0), (1, .int u1), (2, .int u2)] [] S (l_X7_countLagging_4 u0 n S u1 u2 ) := by
  intro n
  induction n with
  | zero =>
    intros
    rw [l_X7_countLagging_4]
    exact gJ.none
  | succ n ih =>
    intro S u1 u2  
    rw [l_X7_countLagging_4]
    refine X_iload_n 2 dX7_countLagging_4 rfl rfl ?_
    refine X_aload_n 0 dX7_countLagging_5 rfl rfl ?_
    refine X_getI kF_X7_18 rfl dX7_countLagging_6 (fun x1 => ?_)
    refine X_icmp_ge (tgt := 33) dX7_countLagging_9 (by decide) ?_ ?_
    · skip
      refine X_iload_n 1 dX7_countLagging_33 rfl rfl ?_
      exact X_iret rfl dX7_countLagging_34
    · skip
      refine X_aload_n 0 dX7_countLagging_12 rfl rfl ?_
      refine X_getR kF_X7_11 rfl dX7_countLagging_13 (fun a2 => ?_)
      refine X_iload_n 2 dX7_countLagging_16 rfl rfl ?_
      refine X_aald (Or.inl rfl) dX7_countLagging_17 (fun a3 => ?_)
      refine X_getI kF_X7_33 rfl dX7_countLagging_18 (fun x4 => ?_)
      refine X_jn (fun (j : gS → Int32 → Option (Int32 × gS)) => ∀ (S5 : gS) (v6 : Int32), gJ gI E M_X7_countLagging n0 s0 27 [(0, .ref u0), (1, .int v6), (2, .int u2)] [] S5 (j S5 v6)) ?_ (fun jb7 hjb7 => ?_)
      · intro S5 v6
        refine X_iinc (k := 2) (x := u2) (v := (1 : Int32)) (lv2 := [(2, .int (u2 + (1 : Int32))), (0, .ref u0), (1, .int v6)]) dX7_countLagging_27 rfl (by decide) (by decide) rfl ?_
        refine X_goto (tgt := 4) dX7_countLagging_30 (by decide) ?_
        exact X_sub [1, 2, 0] rfl (ih _ _ _)
      · skip
        refine X_if_eq (tgt := 27) dX7_countLagging_21 (by decide) ?_ ?_
        · skip
          exact (hjb7 _ _)
        · skip
          refine X_iinc (k := 1) (x := u1) (v := (1 : Int32)) (lv2 := [(1, .int (u1 + (1 : Int32))), (0, .ref u0), (2, .int u2)]) dX7_countLagging_24 rfl (by decide) (by decide) rfl ?_
          exact X_sub [1, 0, 2] rfl (hjb7 _ _)
set_option maxRecDepth 100000 in
set_option maxHeartbeats 4000000 in
theorem c_X7_countLagging (E : gE) (S : gS) (a0 : Nat) : gC gI E M_X7_countLagging [.ref a0] S (f_X7_countLagging S a0) := by
  refine gC.of (by decide) (Nat.le_of_ble_eq_true rfl) ?_
  unfold f_X7_countLagging
  show gJ gI E M_X7_countLagging _ _ 0 [(0, .ref a0)] [] S _
  refine X_iconst (v := (0 : Int32)) dX7_countLagging_0 (by decide) ?_
  refine X_istore_n (lv2 := [(1, .int (0 : Int32)), (0, .ref a0)]) dX7_countLagging_1 rfl (by decide) rfl ?_
  refine X_iconst (v := (0 : Int32)) dX7_countLagging_2 (by decide) ?_
  refine X_istore_n (lv2 := [(2, .int (0 : Int32)), (1, .int (0 : Int32)), (0, .ref a0)]) dX7_countLagging_3 rfl (by decide) rfl ?_
  exact X_sub [2, 1, 0] rfl (j_X7_countLagging_4 E a0 100 _ _ _)
set_option maxRecDepth 100000 in
theorem kC_X7_countLagging : g_okC M_X7_countLagging 0 := And.intro (g_t (i := 572) rfl (by decide +kernel)) (And.intro (g_nd nd_4_ok (k := 21) rfl) (And.intro (by decide) (And.intro (by decide) (by decide +kernel))))
def M_X1_setCell : gM := (yX1_setCell, cX1_setCell, 4, none, 1, 25)
def f_X1_setCell (S : gS) (a0 : Nat) (p1 : Int32) (p2 : Int64) : Option (gS) :=
g_getR S 1 0 a0 fun a1 =>
g_stL S a1 p1 p2 fun S2 =>
g_getR S2 1 1 a0 fun a3 =>
g_cVV S2 2 a3 (f_X2_setNumber S2 a3 p1 (0 : Int64)) fun S4 =>
some S4
set_option maxRecDepth 100000 in
set_option maxHeartbeats 4000000 in
theorem c_X1_setCell (E : gE) (S : gS) (a0 : Nat) (p1 : Int32) (p2 : Int64) : gC gV E M_X1_setCell [.ref a0, .int p1, .long p2] S (f_X1_setCell S a0 p1 p2) := by
  refine gC.of (by decide) (Nat.le_of_ble_eq_true rfl) ?_
  unfold f_X1_setCell
  show gJ gV E M_X1_setCell _ _ 0 [(0, .ref a0), (1, .int p1), (2, .long p2)] [] S _
  refine X_aload_n 0 dX1_setCell_0 rfl rfl ?_
  refine X_getR kF_X1_9 rfl dX1_setCell_1 (fun a1 => ?_)
  refine X_iload_n 1 dX1_setCell_4 rfl rfl ?_
  refine X_lload_n 2 dX1_setCell_5 rfl rfl ?_
  refine X_last dX1_setCell_6 (fun S2 => ?_)
  refine X_aload_n 0 dX1_setCell_7 rfl rfl ?_
  refine X_getR kF_X1_18 rfl dX1_setCell_8 (fun a3 => ?_)
  refine X_iload_n 1 dX1_setCell_11 rfl rfl ?_
  refine X_lconst (v := (0 : Int64)) dX1_setCell_12 (by decide) ?_
  refine X_callVV (ci := 2) (As := [.int p1, .long (0 : Int64)]) (st := []) (c_X2_setNumber E S2 a3 p1 (0 : Int64)) (by decide) rfl kC_X2_setNumber kL_X1_22 kI_X2_setNumber kE_X2_setNumber (by unfold g_okR; decide) rfl (Nat.le_of_ble_eq_true rfl) dX1_setCell_13 (fun S4 => ?_)
  exact X_vret rfl dX1_setCell_16
set_option maxRecDepth 100000 in
theorem kC_X1_setCell : g_okC M_X1_setCell 2 := And.intro (g_t (i := 264) rfl (by decide +kernel)) (And.intro (g_nd nd_4_ok (k := 27) rfl) (And.intro (by decide) (And.intro (by decide) (by decide +kernel))))
def M_X4_keepFresh : gM := (yX4_keepFresh, cX4_keepFresh, 2, none, 0, 0)
def f_X4_keepFresh (S : gS) (a0 : Nat) : Option (gS) :=
g_getR S 4 3 a0 fun a1 =>
g_getR S 4 4 a0 fun a2 =>
g_putR S 4 3 a0 a2 fun S3 =>
g_putR S3 4 4 a0 a1 fun S4 =>
g_getI S4 4 1 a0 fun x5 =>
g_jn (fun (S6 : gS) (w7 : Int32) (w8 : Nat) => (
g_putI S6 4 1 w8 w7 fun S10 =>
some S10)) fun jb9 => (
if x5 = (1 : Int32) then (
jb9 S4 (1 : Int32) a0)
else (
jb9 S4 (2 : Int32) a0))
set_option maxRecDepth 100000 in
set_option maxHeartbeats 4000000 in
theorem c_X4_keepFresh (E : gE) (S : gS) (a0 : Nat) : gC gV E M_X4_keepFresh [.ref a0] S (f_X4_keepFresh S a0) := by
  refine gC.of (by decide) (Nat.le_of_ble_eq_true rfl) ?_
  unfold f_X4_keepFresh
  show gJ gV E M_X4_keepFresh _ _ 0 [(0, .ref a0)] [] S _
  refine X_aload_n 0 dX4_keepFresh_0 rfl rfl ?_
  refine X_getR kF_X4_12 rfl dX4_keepFresh_1 (fun a1 => ?_)
  refine X_astore_n (lv2 := [(1, .ref a1), (0, .ref a0)]) dX4_keepFresh_4 rfl (by decide) rfl ?_
  refine X_aload_n 1 dX4_keepFresh_5 rfl rfl ?_
  refine X_aload_n 1 dX4_keepFresh_6 rfl rfl ?_
  refine X_getR kF_X4_18 rfl dX4_keepFresh_7 (fun a2 => ?_)
  refine X_putR kF_X4_12 (Or.inl ⟨_, rfl⟩) (Or.inl rfl) dX4_keepFresh_10 (fun S3 => ?_)
  refine X_aload_n 1 dX4_keepFresh_13 rfl rfl ?_
  refine X_aload_n 0 dX4_keepFresh_14 rfl rfl ?_
  refine X_putR kF_X4_18 (Or.inl ⟨_, rfl⟩) (Or.inl rfl) dX4_keepFresh_15 (fun S4 => ?_)
  refine X_aload_n 1 dX4_keepFresh_18 rfl rfl ?_
  refine X_aload_n 1 dX4_keepFresh_19 rfl rfl ?_
  refine X_getI kF_X4_25 rfl dX4_keepFresh_20 (fun x5 => ?_)
  refine X_iconst (v := (1 : Int32)) dX4_keepFresh_23 (by decide) ?_
  refine X_jn (fun (j : gS → Int32 → Nat → Option (gS)) => ∀ (S6 : gS) (w7 : Int32) (w8 : Nat), gJ gV E M_X4_keepFresh (gn S) (gsl S) 32 [(0, .ref a0), (1, .ref a1)] [.int w7, .ref w8] S6 (j S6 w7 w8)) ?_ (fun jb9 hjb9 => ?_)
  · intro S6 w7 w8
    refine X_putI kF_X4_25 rfl rfl dX4_keepFresh_32 (fun S10 => ?_)
    exact X_vret rfl dX4_keepFresh_35
  · skip
    refine X_icmp_ne (tgt := 31) dX4_keepFresh_24 (by decide) ?_ ?_
    · skip
      refine X_iconst (v := (1 : Int32)) dX4_keepFresh_27 (by decide) ?_
      refine X_goto (tgt := 32) dX4_keepFresh_28 (by decide) ?_
      exact X_sub [1, 0] rfl (hjb9 _ _ _)
    · skip
      refine X_iconst (v := (2 : Int32)) dX4_keepFresh_31 (by decide) ?_
      exact X_sub [1, 0] rfl (hjb9 _ _ _)
set_option maxRecDepth 100000 in
theorem kC_X4_keepFresh : g_okC M_X4_keepFresh 0 := And.intro (g_t (i := 536) rfl (by decide +kernel)) (And.intro (g_nd nd_4_ok (k := 2) rfl) (And.intro (by decide) (And.intro (by decide) (by decide +kernel))))
def M_X1_letterCount : gM := (yX1_letterCount, cX1_letterCount, 2, some .int, 1, 21)
def f_X1_letterCount (S : gS) (a0 : Nat) (p1 : Int32) : Option (Int32 × gS) :=
g_getR S 1 1 a0 fun a1 =>
g_cVL S 2 a1 (f_X2_numberAt S a1 p1) fun x3 S2 =>
some ((x3).toInt32, S2)
set_option maxRecDepth 100000 in
set_option maxHeartbeats 4000000 in
theorem c_X1_letterCount (E : gE) (S : gS) (a0 : Nat) (p1 : Int32) : gC gI E M_X1_letterCount [.ref a0, .int p1] S (f_X1_letterCount S a0 p1) := by
  refine gC.of (by decide) (Nat.le_of_ble_eq_true rfl) ?_
  unfold f_X1_letterCount
  show gJ gI E M_X1_letterCount _ _ 0 [(0, .ref a0), (1, .int p1)] [] S _
  refine X_aload_n 0 dX1_letterCount_0 rfl rfl ?_
  refine X_getR kF_X1_18 rfl dX1_letterCount_1 (fun a1 => ?_)
  refine X_iload_n 1 dX1_letterCount_4 rfl rfl ?_
  refine X_callVL (ci := 2) (As := [.int p1]) (st := []) (c_X2_numberAt E S a1 p1) (by decide) rfl kC_X2_numberAt kL_X1_35 kI_X2_numberAt kE_X2_numberAt (by unfold g_okR; decide) rfl (Nat.le_of_ble_eq_true rfl) dX1_letterCount_5 (fun x3 S2 => ?_)
  refine X_l2i dX1_letterCount_8 ?_
  exact X_iret rfl dX1_letterCount_9
set_option maxRecDepth 100000 in
theorem kC_X1_letterCount : g_okC M_X1_letterCount 1 := And.intro (g_t (i := 281) rfl (by decide +kernel)) (And.intro (g_nd nd_4_ok (k := 27) rfl) (And.intro (by decide) (And.intro (by decide) (by decide +kernel))))
def M_X1_addLetters : gM := (yX1_addLetters, cX1_addLetters, 6, some .boolean, 2, 49)
def l_X1_addLetters_6 (u0 : Nat) (u1 : Int32) (u2 : Int64) : Nat → gS → Int32 → Int32 → (gS → Int32 → Int32 → Option (Int32 × gS)) → Option (Int32 × gS)
  | 0, _, _, _, _ => none
  | n + 1, S, u4, u5, K1 =>
    if (64 : Int32) ≤ u5 then (
    K1 S u4 u5)
    else (
    g_jn (fun (S1 : gS) (v2 : Int32) => (
    l_X1_addLetters_6 u0 u1 u2 n S1 v2 (u5 + (8 : Int32)) K1)) fun jb3 => (
    if (lg_cmp ((((u2).toUInt64 >>> ((u5).toInt64.toUInt64 &&& Int64.toUInt64 63)).toInt64) &&& (255 : Int64)) (0 : Int64)) = 0 then (
    jb3 S u4)
    else (
    jb3 S (u4 + (1 : Int32)))))
def f_X1_addLetters (S : gS) (a0 : Nat) (p1 : Int32) (p2 : Int64) : Option (Int32 × gS) :=
l_X1_addLetters_6 a0 p1 p2 100 S (0 : Int32) (0 : Int32) (fun S4 v5 v6 => (
g_cVI S4 1 a0 (f_X1_letterCount S4 a0 p1) fun x8 S7 =>
if (x8 + v5) ≤ (24 : Int32) then (
g_getR S7 1 1 a0 fun a9 =>
g_cVV S7 2 a9 (f_X2_appendLetters S7 a9 p1 p2) fun S10 =>
some ((1 : Int32), S10))
else (
some ((0 : Int32), S7))))
set_option maxRecDepth 100000 in
set_option maxHeartbeats 4000000 in
theorem j_X1_addLetters_6 (E : gE) {n0 s0 : Nat} (u0 : Nat) (u1 : Int32) (u2 : Int64) : ∀ (n : Nat) (S : gS) (u4 : Int32) (u5 : Int32) (K1 : (gS → Int32 → Int32 → Option (Int32 × gS))), (∀ (S : gS) (u4 : Int32) (u5 : Int32), gJ gI E M_X1_addLetters n0 s0 35 [(0, .ref u0), (1, .int u1), (2, .long u2), (4, .int u4), (5, .int u5)] [] S (K1 S u4 u5)) → gJ gI E M_X1_addLetters n0 s0 6 [(0, .ref u0), (1, .int u1), (2, .long u2), (4, .int u4), (5, .int u5)] [] S (l_X1_addLetters_6 u0 u1 u2 n S u4 u5 K1) := by
  intro n
  induction n with
  | zero =>
    intros
    rw [l_X1_addLetters_6]
    exact gJ.none
  | succ n ih =>
    intro S u4 u5 K1 hK1
    rw [l_X1_addLetters_6]
    refine X_iload 4 dX1_addLetters_6 rfl ?_
    refine X_bipush (v := (64 : Int32)) dX1_addLetters_8 (by decide) ?_
    refine X_icmp_ge (tgt := 35) dX1_addLetters_10 (by decide) ?_ ?_
    · skip
      exact (hK1 _ _ _)
    · skip
      refine X_lload_n 2 dX1_addLetters_13 rfl rfl ?_
      refine X_iload 4 dX1_addLetters_14 rfl ?_
      refine X_lushr dX1_addLetters_16 ?_
      refine X_ldc2 (v := (255 : Int64)) kK_X1_26 dX1_addLetters_17 ?_
      refine X_land dX1_addLetters_20 ?_
      refine X_lconst (v := (0 : Int64)) dX1_addLetters_21 (by decide) ?_
      refine X_lcmp dX1_addLetters_22 ?_
      refine X_jn (fun (j : gS → Int32 → Option (Int32 × gS)) => ∀ (S1 : gS) (v2 : Int32), gJ gI E M_X1_addLetters n0 s0 29 [(0, .ref u0), (1, .int u1), (2, .long u2), (4, .int v2), (5, .int u5)] [] S1 (j S1 v2)) ?_ (fun jb3 hjb3 => ?_)
      · intro S1 v2
        refine X_iinc (k := 4) (x := u5) (v := (8 : Int32)) (lv2 := [(5, .int (u5 + (8 : Int32))), (0, .ref u0), (1, .int u1), (2, .long u2), (4, .int v2)]) dX1_addLetters_29 rfl (by decide) (by decide) rfl ?_
        refine X_goto (tgt := 6) dX1_addLetters_32 (by decide) ?_
        exact X_sub [1, 2, 3, 4, 0] rfl (ih _ _ _ _ hK1)
      · skip
        refine X_if_eq (tgt := 29) dX1_addLetters_23 (by decide) ?_ ?_
        · skip
          exact (hjb3 _ _)
        · skip
          refine X_iinc (k := 3) (x := u4) (v := (1 : Int32)) (lv2 := [(4, .int (u4 + (1 : Int32))), (0, .ref u0), (1, .int u1), (2, .long u2), (5, .int u5)]) dX1_addLetters_26 rfl (by decide) (by decide) rfl ?_
          exact X_sub [1, 2, 3, 0, 4] rfl (hjb3 _ _)
set_option maxRecDepth 100000 in
set_option maxHeartbeats 4000000 in
theorem c_X1_addLetters (E : gE) (S : gS) (a0 : Nat) (p1 : Int32) (p2 : Int64) : gC gI E M_X1_addLetters [.ref a0, .int p1, .long p2] S (f_X1_addLetters S a0 p1 p2) := by
  refine gC.of (by decide) (Nat.le_of_ble_eq_true rfl) ?_
  unfold f_X1_addLetters
  show gJ gI E M_X1_addLetters _ _ 0 [(0, .ref a0), (1, .int p1), (2, .long p2)] [] S _
  refine X_iconst (v := (0 : Int32)) dX1_addLetters_0 (by decide) ?_
  refine X_istore (lv2 := [(4, .int (0 : Int32)), (0, .ref a0), (1, .int p1), (2, .long p2)]) dX1_addLetters_1 (by decide) rfl ?_
  refine X_iconst (v := (0 : Int32)) dX1_addLetters_3 (by decide) ?_
  refine X_istore (lv2 := [(5, .int (0 : Int32)), (4, .int (0 : Int32)), (0, .ref a0), (1, .int p1), (2, .long p2)]) dX1_addLetters_4 (by decide) rfl ?_
  refine X_sub [2, 3, 4, 1, 0] rfl (j_X1_addLetters_6 E a0 p1 p2 100 _ _ _ _ (fun S4 v5 v6 => ?_))
  refine X_aload_n 0 dX1_addLetters_35 rfl rfl ?_
  refine X_iload_n 1 dX1_addLetters_36 rfl rfl ?_
  refine X_callVI (ci := 1) (As := [.int p1]) (st := []) (c_X1_letterCount E S4 a0 p1) (by decide) rfl kC_X1_letterCount kL_X1_28 kI_X1_letterCount kE_X1_letterCount (by unfold g_okR; decide) rfl (Nat.le_of_ble_eq_true rfl) dX1_addLetters_37 (fun x8 S7 => ?_)
  refine X_iload 3 dX1_addLetters_40 rfl ?_
  refine X_iadd dX1_addLetters_42 ?_
  refine X_bipush (v := (24 : Int32)) dX1_addLetters_43 (by decide) ?_
  refine X_icmp_le (tgt := 50) dX1_addLetters_45 (by decide) ?_ ?_
  · skip
    refine X_aload_n 0 dX1_addLetters_50 rfl rfl ?_
    refine X_getR kF_X1_18 rfl dX1_addLetters_51 (fun a9 => ?_)
    refine X_iload_n 1 dX1_addLetters_54 rfl rfl ?_
    refine X_lload_n 2 dX1_addLetters_55 rfl rfl ?_
    refine X_callVV (ci := 2) (As := [.int p1, .long p2]) (st := []) (c_X2_appendLetters E S7 a9 p1 p2) (by decide) rfl kC_X2_appendLetters kL_X1_32 kI_X2_appendLetters kE_X2_appendLetters (by unfold g_okR; decide) rfl (Nat.le_of_ble_eq_true rfl) dX1_addLetters_56 (fun S10 => ?_)
    refine X_iconst (v := (1 : Int32)) dX1_addLetters_59 (by decide) ?_
    exact X_z1 rfl dX1_addLetters_60
  · skip
    refine X_iconst (v := (0 : Int32)) dX1_addLetters_48 (by decide) ?_
    exact X_z0 rfl dX1_addLetters_49
set_option maxRecDepth 100000 in
theorem kC_X1_addLetters : g_okC M_X1_addLetters 2 := And.intro (g_t (i := 276) rfl (by decide +kernel)) (And.intro (g_nd nd_4_ok (k := 27) rfl) (And.intro (by decide) (And.intro (by decide) (by decide +kernel))))
def M_X7_placeAbove : gM := (yX7_placeAbove, cX7_placeAbove, 4, some .int, 0, 0)
def l_X7_placeAbove_2 (u0 : Nat) (u1 : Int32) (u2 : Int32) : Nat → gS → Int32 → Option (Int32 × gS)
  | 0, _, _ => none
  | n + 1, S, u3 =>
    if u2 = 0 then (
    g_getI S 7 1 u0 fun x1 =>
    if x1 ≤ u3 then (
    some (u3, S))
    else (
    g_getR S 7 0 u0 fun a2 =>
    g_ldR S 13 a2 u3 fun a3 =>
    g_getI S 4 0 a3 fun x4 =>
    if u1 < x4 then (
    some (u3, S))
    else (
    l_X7_placeAbove_2 u0 u1 u2 n S (u3 + (1 : Int32)) )))
    else (
    some (u3, S))
def f_X7_placeAbove (S : gS) (a0 : Nat) (p1 : Int32) (p2 : Int32) : Option (Int32 × gS) :=
l_X7_placeAbove_2 a0 p1 p2 100 S (0 : Int32) 
set_option maxRecDepth 100000 in
set_option maxHeartbeats 4000000 in
theorem j_X7_placeAbove_2 (E : gE) {n0 s0 : Nat} (u0 : Nat) (u1 : Int32) (u2 : Int32) : ∀ (n : Nat) (S : gS) (u3 : Int32), gJ gI E M_X7_placeAbove n0 s0 2 [(0, .ref u0), (1, .int u1), (2, .int u2), (3, .int u3)] [] S (l_X7_placeAbove_2 u0 u1 u2 n S u3 ) := by
  intro n
  induction n with
  | zero =>
    intros
    rw [l_X7_placeAbove_2]
    exact gJ.none
  | succ n ih =>
    intro S u3  
    rw [l_X7_placeAbove_2]
    refine X_iload_n 2 dX7_placeAbove_2 rfl rfl ?_
    refine X_if_ne (tgt := 33) dX7_placeAbove_3 (by decide) ?_ ?_
    · skip
      refine X_iload_n 3 dX7_placeAbove_6 rfl rfl ?_
      refine X_aload_n 0 dX7_placeAbove_7 rfl rfl ?_
      refine X_getI kF_X7_18 rfl dX7_placeAbove_8 (fun x1 => ?_)
      refine X_icmp_ge (tgt := 33) dX7_placeAbove_11 (by decide) ?_ ?_
      · skip
        refine X_iload_n 3 dX7_placeAbove_33 rfl rfl ?_
        exact X_iret rfl dX7_placeAbove_34
      · skip
        refine X_aload_n 0 dX7_placeAbove_14 rfl rfl ?_
        refine X_getR kF_X7_11 rfl dX7_placeAbove_15 (fun a2 => ?_)
        refine X_iload_n 3 dX7_placeAbove_18 rfl rfl ?_
        refine X_aald (Or.inl rfl) dX7_placeAbove_19 (fun a3 => ?_)
        refine X_getI kF_X7_22 rfl dX7_placeAbove_20 (fun x4 => ?_)
        refine X_iload_n 1 dX7_placeAbove_23 rfl rfl ?_
        refine X_icmp_gt (tgt := 33) dX7_placeAbove_24 (by decide) ?_ ?_
        · skip
          refine X_iload_n 3 dX7_placeAbove_33 rfl rfl ?_
          exact X_iret rfl dX7_placeAbove_34
        · skip
          refine X_iinc (k := 3) (x := u3) (v := (1 : Int32)) (lv2 := [(3, .int (u3 + (1 : Int32))), (0, .ref u0), (1, .int u1), (2, .int u2)]) dX7_placeAbove_27 rfl (by decide) (by decide) rfl ?_
          refine X_goto (tgt := 2) dX7_placeAbove_30 (by decide) ?_
          exact X_sub [1, 2, 3, 0] rfl (ih _ _)
    · skip
      refine X_iload_n 3 dX7_placeAbove_33 rfl rfl ?_
      exact X_iret rfl dX7_placeAbove_34
set_option maxRecDepth 100000 in
set_option maxHeartbeats 4000000 in
theorem c_X7_placeAbove (E : gE) (S : gS) (a0 : Nat) (p1 : Int32) (p2 : Int32) : gC gI E M_X7_placeAbove [.ref a0, .int p1, .int p2] S (f_X7_placeAbove S a0 p1 p2) := by
  refine gC.of (by decide) (Nat.le_of_ble_eq_true rfl) ?_
  unfold f_X7_placeAbove
  show gJ gI E M_X7_placeAbove _ _ 0 [(0, .ref a0), (1, .int p1), (2, .int p2)] [] S _
  refine X_iconst (v := (0 : Int32)) dX7_placeAbove_0 (by decide) ?_
  refine X_istore_n (lv2 := [(3, .int (0 : Int32)), (0, .ref a0), (1, .int p1), (2, .int p2)]) dX7_placeAbove_1 rfl (by decide) rfl ?_
  exact X_sub [1, 2, 3, 0] rfl (j_X7_placeAbove_2 E a0 p1 p2 100 _ _)
set_option maxRecDepth 100000 in
theorem kC_X7_placeAbove : g_okC M_X7_placeAbove 2 := And.intro (g_t (i := 310) rfl (by decide +kernel)) (And.intro (g_nd nd_4_ok (k := 21) rfl) (And.intro (by decide) (And.intro (by decide) (by decide +kernel))))
def M_X3_append : gM := (yX3_append, cX3_append, 7, none, 0, 0)
def f_X3_append (S : gS) (a0 : Nat) (p1 : Int32) (p2 : Int32) (p3 : Int32) (p4 : Int64) : Option (gS) :=
g_getR S 3 0 a0 fun a1 =>
g_getI S 3 1 a0 fun x2 =>
g_ldR S 14 a1 x2 fun a3 =>
g_putI S 6 0 a3 p1 fun S4 =>
g_putI S4 6 1 a3 p2 fun S5 =>
g_putI S5 6 2 a3 p3 fun S6 =>
g_putL S6 6 3 a3 p4 fun S7 =>
g_getI S7 3 1 a0 fun x8 =>
g_putI S7 3 1 a0 (x8 + (1 : Int32)) fun S9 =>
some S9
set_option maxRecDepth 100000 in
set_option maxHeartbeats 4000000 in
theorem c_X3_append (E : gE) (S : gS) (a0 : Nat) (p1 : Int32) (p2 : Int32) (p3 : Int32) (p4 : Int64) : gC gV E M_X3_append [.ref a0, .int p1, .int p2, .int p3, .long p4] S (f_X3_append S a0 p1 p2 p3 p4) := by
  refine gC.of (by decide) (Nat.le_of_ble_eq_true rfl) ?_
  unfold f_X3_append
  show gJ gV E M_X3_append _ _ 0 [(0, .ref a0), (1, .int p1), (2, .int p2), (3, .int p3), (4, .long p4)] [] S _
  refine X_aload_n 0 dX3_append_0 rfl rfl ?_
  refine X_getR kF_X3_11 rfl dX3_append_1 (fun a1 => ?_)
  refine X_aload_n 0 dX3_append_4 rfl rfl ?_
  refine X_getI kF_X3_22 rfl dX3_append_5 (fun x2 => ?_)
  refine X_aald (Or.inr rfl) dX3_append_8 (fun a3 => ?_)
  refine X_astore (lv2 := [(6, .ref a3), (0, .ref a0), (1, .int p1), (2, .int p2), (3, .int p3), (4, .long p4)]) dX3_append_9 (by decide) rfl ?_
  refine X_aload 0 dX3_append_11 rfl ?_
  refine X_iload_n 2 dX3_append_13 rfl rfl ?_
  refine X_putI kF_X3_26 rfl rfl dX3_append_14 (fun S4 => ?_)
  refine X_aload 0 dX3_append_17 rfl ?_
  refine X_iload_n 3 dX3_append_19 rfl rfl ?_
  refine X_putI kF_X3_29 rfl rfl dX3_append_20 (fun S5 => ?_)
  refine X_aload 0 dX3_append_23 rfl ?_
  refine X_iload_n 4 dX3_append_25 rfl rfl ?_
  refine X_putI kF_X3_32 rfl rfl dX3_append_26 (fun S6 => ?_)
  refine X_aload 0 dX3_append_29 rfl ?_
  refine X_lload 5 dX3_append_31 rfl ?_
  refine X_putL kF_X3_35 rfl rfl dX3_append_33 (fun S7 => ?_)
  refine X_aload_n 1 dX3_append_36 rfl rfl ?_
  refine X_dup dX3_append_37 rfl ?_
  refine X_getI kF_X3_22 rfl dX3_append_38 (fun x8 => ?_)
  refine X_iconst (v := (1 : Int32)) dX3_append_41 (by decide) ?_
  refine X_iadd dX3_append_42 ?_
  refine X_putI kF_X3_22 rfl rfl dX3_append_43 (fun S9 => ?_)
  exact X_vret rfl dX3_append_46
set_option maxRecDepth 100000 in
theorem kC_X3_append : g_okC M_X3_append 4 := And.intro (g_t (i := 249) rfl (by decide +kernel)) (And.intro (g_nd nd_5_ok (k := 1) rfl) (And.intro (by decide) (And.intro (by decide) (by decide +kernel))))
def M_X7_placeUnder : gM := (yX7_placeUnder, cX7_placeUnder, 3, some .int, 1, 23)
def f_X7_placeUnder (S : gS) (a0 : Nat) (p1 : Int32) : Option (Int32 × gS) :=
g_cVI S 7 a0 (f_X7_placeAbove S a0 p1 (0 : Int32)) fun x2 S1 =>
g_lt (x2 - (1 : Int32)) fun x3 =>
g_jn (fun (S4 : gS) => (
some ((-1 : Int32), S4))) fun jb5 => (
if x3 < 0 then (
jb5 S1)
else (
g_getR S1 7 0 a0 fun a6 =>
g_ldR S1 13 a6 x3 fun a7 =>
g_getI S1 4 0 a7 fun x8 =>
if x8 = p1 then (
some (x3, S1))
else (
jb5 S1)))
set_option maxRecDepth 100000 in
set_option maxHeartbeats 4000000 in
theorem c_X7_placeUnder (E : gE) (S : gS) (a0 : Nat) (p1 : Int32) : gC gI E M_X7_placeUnder [.ref a0, .int p1] S (f_X7_placeUnder S a0 p1) := by
  refine gC.of (by decide) (Nat.le_of_ble_eq_true rfl) ?_
  unfold f_X7_placeUnder
  show gJ gI E M_X7_placeUnder _ _ 0 [(0, .ref a0), (1, .int p1)] [] S _
  refine X_aload_n 0 dX7_placeUnder_0 rfl rfl ?_
  refine X_iload_n 1 dX7_placeUnder_1 rfl rfl ?_
  refine X_iconst (v := (0 : Int32)) dX7_placeUnder_2 (by decide) ?_
  refine X_callVI (ci := 7) (As := [.int p1, .int (0 : Int32)]) (st := []) (c_X7_placeAbove E S a0 p1 (0 : Int32)) (by decide) rfl kC_X7_placeAbove kL_X7_25 kI_X7_placeAbove kE_X7_placeAbove (by unfold g_okR; decide) rfl (Nat.le_of_ble_eq_true rfl) dX7_placeUnder_3 (fun x2 S1 => ?_)
  refine X_iconst (v := (1 : Int32)) dX7_placeUnder_6 (by decide) ?_
  refine X_isub dX7_placeUnder_7 ?_
  refine X_topI (fun x3 => ?_)
  refine X_istore_n (lv2 := [(2, .int x3), (0, .ref a0), (1, .int p1)]) dX7_placeUnder_8 rfl (by decide) rfl ?_
  refine X_iload_n 0 dX7_placeUnder_9 rfl rfl ?_
  refine X_jn (fun (j : gS → Option (Int32 × gS)) => ∀ (S4 : gS), gJ gI E M_X7_placeUnder (gn S) (gsl S) 30 [(0, .ref a0), (1, .int p1), (2, .int x3)] [] S4 (j S4)) ?_ (fun jb5 hjb5 => ?_)
  · intro S4
    refine X_iconst (v := (-1 : Int32)) dX7_placeUnder_30 (by decide) ?_
    exact X_iret rfl dX7_placeUnder_31
  · skip
    refine X_if_lt (tgt := 30) dX7_placeUnder_10 (by decide) ?_ ?_
    · skip
      exact X_sub [1, 2, 0] rfl (hjb5 _)
    · skip
      refine X_aload_n 1 dX7_placeUnder_13 rfl rfl ?_
      refine X_getR kF_X7_11 rfl dX7_placeUnder_14 (fun a6 => ?_)
      refine X_iload_n 0 dX7_placeUnder_17 rfl rfl ?_
      refine X_aald (Or.inl rfl) dX7_placeUnder_18 (fun a7 => ?_)
      refine X_getI kF_X7_22 rfl dX7_placeUnder_19 (fun x8 => ?_)
      refine X_iload_n 2 dX7_placeUnder_22 rfl rfl ?_
      refine X_icmp_ne (tgt := 30) dX7_placeUnder_23 (by decide) ?_ ?_
      · skip
        refine X_iload_n 0 dX7_placeUnder_26 rfl rfl ?_
        refine X_goto (tgt := 31) dX7_placeUnder_27 (by decide) ?_
        exact X_iret rfl dX7_placeUnder_31
      · skip
        exact X_sub [1, 2, 0] rfl (hjb5 _)
set_option maxRecDepth 100000 in
theorem kC_X7_placeUnder : g_okC M_X7_placeUnder 1 := And.intro (g_t (i := 306) rfl (by decide +kernel)) (And.intro (g_nd nd_4_ok (k := 21) rfl) (And.intro (by decide) (And.intro (by decide) (by decide +kernel))))
def M_X7_takeOut : gM := (yX7_takeOut, cX7_takeOut, 4, none, 0, 0)
def l_X7_takeOut_9 (u0 : Nat) (u1 : Int32) (u2 : Nat) : Nat → gS → Int32 → (gS → Int32 → Option (gS)) → Option (gS)
  | 0, _, _, _ => none
  | n + 1, S, u3, K1 =>
    g_getI S 7 1 u0 fun x3 =>
    if (x3 - (1 : Int32)) ≤ u3 then (
    K1 S u3)
    else (
    g_getR S 7 0 u0 fun a4 =>
    g_getR S 7 0 u0 fun a5 =>
    g_ldR S 13 a5 (u3 + (1 : Int32)) fun a6 =>
    g_stR S 13 4 a4 u3 a6 fun S7 =>
    l_X7_takeOut_9 u0 u1 u2 n S7 (u3 + (1 : Int32)) K1)
def f_X7_takeOut (S : gS) (a0 : Nat) (p1 : Int32) : Option (gS) :=
g_getR S 7 0 a0 fun a1 =>
g_ldR S 13 a1 p1 fun a2 =>
l_X7_takeOut_9 a0 p1 a2 100 S p1 (fun S8 v9 => (
g_getI S8 7 1 a0 fun x10 =>
g_putI S8 7 1 a0 (x10 - (1 : Int32)) fun S11 =>
g_getR S11 7 0 a0 fun a12 =>
g_getI S11 7 1 a0 fun x13 =>
g_stR S11 13 4 a12 x13 a2 fun S14 =>
some S14))
set_option maxRecDepth 100000 in
set_option maxHeartbeats 4000000 in
theorem j_X7_takeOut_9 (E : gE) {n0 s0 : Nat} (u0 : Nat) (u1 : Int32) (u2 : Nat) : ∀ (n : Nat) (S : gS) (u3 : Int32) (K1 : (gS → Int32 → Option (gS))), (∀ (S : gS) (u3 : Int32), gJ gV E M_X7_takeOut n0 s0 39 [(0, .ref u0), (1, .int u1), (2, .ref u2), (3, .int u3)] [] S (K1 S u3)) → gJ gV E M_X7_takeOut n0 s0 9 [(0, .ref u0), (1, .int u1), (2, .ref u2), (3, .int u3)] [] S (l_X7_takeOut_9 u0 u1 u2 n S u3 K1) := by
  intro n
  induction n with
  | zero =>
    intros
    rw [l_X7_takeOut_9]
    exact gJ.none
  | succ n ih =>
    intro S u3 K1 hK1
    rw [l_X7_takeOut_9]
    refine X_iload_n 3 dX7_takeOut_9 rfl rfl ?_
    refine X_aload_n 0 dX7_takeOut_10 rfl rfl ?_
    refine X_getI kF_X7_18 rfl dX7_takeOut_11 (fun x3 => ?_)
    refine X_iconst (v := (1 : Int32)) dX7_takeOut_14 (by decide) ?_
    refine X_isub dX7_takeOut_15 ?_
    refine X_icmp_ge (tgt := 39) dX7_takeOut_16 (by decide) ?_ ?_
    · skip
      exact (hK1 _ _)
    · skip
      refine X_aload_n 0 dX7_takeOut_19 rfl rfl ?_
      refine X_getR kF_X7_11 rfl dX7_takeOut_20 (fun a4 => ?_)
      refine X_iload_n 3 dX7_takeOut_23 rfl rfl ?_
      refine X_aload_n 0 dX7_takeOut_24 rfl rfl ?_
      refine X_getR kF_X7_11 rfl dX7_takeOut_25 (fun a5 => ?_)
      refine X_iload_n 3 dX7_takeOut_28 rfl rfl ?_
      refine X_iconst (v := (1 : Int32)) dX7_takeOut_29 (by decide) ?_
      refine X_iadd dX7_takeOut_30 ?_
      refine X_aald (Or.inl rfl) dX7_takeOut_31 (fun a6 => ?_)
      refine X_aast (Or.inl ⟨rfl, rfl⟩) dX7_takeOut_32 (fun S7 => ?_)
      refine X_iinc (k := 3) (x := u3) (v := (1 : Int32)) (lv2 := [(3, .int (u3 + (1 : Int32))), (0, .ref u0), (1, .int u1), (2, .ref u2)]) dX7_takeOut_33 rfl (by decide) (by decide) rfl ?_
      refine X_goto (tgt := 9) dX7_takeOut_36 (by decide) ?_
      exact X_sub [1, 2, 3, 0] rfl (ih _ _ _ hK1)
set_option maxRecDepth 100000 in
set_option maxHeartbeats 4000000 in
theorem c_X7_takeOut (E : gE) (S : gS) (a0 : Nat) (p1 : Int32) : gC gV E M_X7_takeOut [.ref a0, .int p1] S (f_X7_takeOut S a0 p1) := by
  refine gC.of (by decide) (Nat.le_of_ble_eq_true rfl) ?_
  unfold f_X7_takeOut
  show gJ gV E M_X7_takeOut _ _ 0 [(0, .ref a0), (1, .int p1)] [] S _
  refine X_aload_n 0 dX7_takeOut_0 rfl rfl ?_
  refine X_getR kF_X7_11 rfl dX7_takeOut_1 (fun a1 => ?_)
  refine X_iload_n 1 dX7_takeOut_4 rfl rfl ?_
  refine X_aald (Or.inl rfl) dX7_takeOut_5 (fun a2 => ?_)
  refine X_astore_n (lv2 := [(2, .ref a2), (0, .ref a0), (1, .int p1)]) dX7_takeOut_6 rfl (by decide) rfl ?_
  refine X_iload_n 2 dX7_takeOut_7 rfl rfl ?_
  refine X_istore_n (lv2 := [(3, .int p1), (2, .ref a2), (0, .ref a0), (1, .int p1)]) dX7_takeOut_8 rfl (by decide) rfl ?_
  refine X_sub [2, 3, 1, 0] rfl (j_X7_takeOut_9 E a0 p1 a2 100 _ _ _ (fun S8 v9 => ?_))
  refine X_aload_n 0 dX7_takeOut_39 rfl rfl ?_
  refine X_dup dX7_takeOut_40 rfl ?_
  refine X_getI kF_X7_18 rfl dX7_takeOut_41 (fun x10 => ?_)
  refine X_iconst (v := (1 : Int32)) dX7_takeOut_44 (by decide) ?_
  refine X_isub dX7_takeOut_45 ?_
  refine X_putI kF_X7_18 rfl rfl dX7_takeOut_46 (fun S11 => ?_)
  refine X_aload_n 0 dX7_takeOut_49 rfl rfl ?_
  refine X_getR kF_X7_11 rfl dX7_takeOut_50 (fun a12 => ?_)
  refine X_aload_n 0 dX7_takeOut_53 rfl rfl ?_
  refine X_getI kF_X7_18 rfl dX7_takeOut_54 (fun x13 => ?_)
  refine X_aload_n 2 dX7_takeOut_57 rfl rfl ?_
  refine X_aast (Or.inl ⟨rfl, rfl⟩) dX7_takeOut_58 (fun S14 => ?_)
  exact X_vret rfl dX7_takeOut_59
set_option maxRecDepth 100000 in
theorem kC_X7_takeOut : g_okC M_X7_takeOut 1 := And.intro (g_t (i := 440) rfl (by decide +kernel)) (And.intro (g_nd nd_4_ok (k := 21) rfl) (And.intro (by decide) (And.intro (by decide) (by decide +kernel))))
def M_X4_keepPrior : gM := (yX4_keepPrior, cX4_keepPrior, 1, none, 0, 0)
def f_X4_keepPrior (S : gS) (a0 : Nat) : Option (gS) :=
g_getI S 4 2 a0 fun x1 =>
g_jn (fun (S2 : gS) (w3 : Int32) (w4 : Nat) => (
g_putI S2 4 1 w4 w3 fun S6 =>
some S6)) fun jb5 => (
if x1 = 0 then (
jb5 S (0 : Int32) a0)
else (
jb5 S (1 : Int32) a0))
set_option maxRecDepth 100000 in
set_option maxHeartbeats 4000000 in
theorem c_X4_keepPrior (E : gE) (S : gS) (a0 : Nat) : gC gV E M_X4_keepPrior [.ref a0] S (f_X4_keepPrior S a0) := by
  refine gC.of (by decide) (Nat.le_of_ble_eq_true rfl) ?_
  unfold f_X4_keepPrior
  show gJ gV E M_X4_keepPrior _ _ 0 [(0, .ref a0)] [] S _
  refine X_aload_n 0 dX4_keepPrior_0 rfl rfl ?_
  refine X_aload_n 0 dX4_keepPrior_1 rfl rfl ?_
  refine X_getI kF_X4_31 rfl dX4_keepPrior_2 (fun x1 => ?_)
  refine X_jn (fun (j : gS → Int32 → Nat → Option (gS)) => ∀ (S2 : gS) (w3 : Int32) (w4 : Nat), gJ gV E M_X4_keepPrior (gn S) (gsl S) 13 [(0, .ref a0)] [.int w3, .ref w4] S2 (j S2 w3 w4)) ?_ (fun jb5 hjb5 => ?_)
  · intro S2 w3 w4
    refine X_putI kF_X4_25 rfl rfl dX4_keepPrior_13 (fun S6 => ?_)
    exact X_vret rfl dX4_keepPrior_16
  · skip
    refine X_if_eq (tgt := 12) dX4_keepPrior_5 (by decide) ?_ ?_
    · skip
      refine X_iconst (v := (0 : Int32)) dX4_keepPrior_12 (by decide) ?_
      exact (hjb5 _ _ _)
    · skip
      refine X_iconst (v := (1 : Int32)) dX4_keepPrior_8 (by decide) ?_
      refine X_goto (tgt := 13) dX4_keepPrior_9 (by decide) ?_
      exact (hjb5 _ _ _)
set_option maxRecDepth 100000 in
theorem kC_X4_keepPrior : g_okC M_X4_keepPrior 0 := And.intro (g_t (i := 544) rfl (by decide +kernel)) (And.intro (g_nd nd_4_ok (k := 2) rfl) (And.intro (by decide) (And.intro (by decide) (by decide +kernel))))
def M_X1_putInto : gM := (yX1_putInto, cX1_putInto, 4, none, 3, 73)
def l_X1_putInto_2 (u0 : Nat) (u1 : Nat) (u2 : Nat) : Nat → gS → Int32 → Option (gS)
  | 0, _, _ => none
  | n + 1, S, u3 =>
    g_getI S 5 2 u2 fun x1 =>
    if x1 ≤ u3 then (
    some S)
    else (
    g_getR S 5 1 u2 fun a2 =>
    g_ldI S 10 a2 u3 fun x3 =>
    g_jn (fun (S4 : gS) => (
    l_X1_putInto_2 u0 u1 u2 n S4 (u3 + (1 : Int32)) )) fun jb5 => (
    g_jn (fun (S6 : gS) => (
    g_getR S6 5 1 u2 fun a8 =>
    g_ldI S6 10 a8 u3 fun x9 =>
    g_getR S6 1 0 u0 fun a10 =>
    g_ldL S6 a10 u3 fun x11 =>
    g_cVV S6 2 u1 (f_X2_setTold S6 u1 u3 x9 x11) fun S12 =>
    jb5 S12)) fun jb7 => (
    if x3 = (4 : Int32) then (
    g_cVI S 1 u0 (f_X1_letterCount S u0 u3) fun x14 S13 =>
    if x14 ≤ 0 then (
    jb7 S13)
    else (
    g_getR S13 1 1 u0 fun a15 =>
    g_cVV S13 2 u1 (f_X2_copyValue S13 u1 u3 a15 u3) fun S16 =>
    jb5 S16))
    else (
    jb7 S))))
def f_X1_putInto (S : gS) (a0 : Nat) (p1 : Nat) (p2 : Nat) : Option (gS) :=
l_X1_putInto_2 a0 p1 p2 100 S (0 : Int32) 
set_option maxRecDepth 100000 in
set_option maxHeartbeats 4000000 in
theorem j_X1_putInto_2 (E : gE) {n0 s0 : Nat} (u0 : Nat) (u1 : Nat) (u2 : Nat) : ∀ (n : Nat) (S : gS) (u3 : Int32), gJ gV E M_X1_putInto n0 s0 2 [(0, .ref u0), (1, .ref u1), (2, .ref u2), (3, .int u3)] [] S (l_X1_putInto_2 u0 u1 u2 n S u3 ) := by
  intro n
  induction n with
  | zero =>
    intros
    rw [l_X1_putInto_2]
    exact gJ.none
  | succ n ih =>
    intro S u3  
    rw [l_X1_putInto_2]
    refine X_iload_n 3 dX1_putInto_2 rfl rfl ?_
    refine X_aload_n 2 dX1_putInto_3 rfl rfl ?_
    refine X_getI kF_X1_39 rfl dX1_putInto_4 (fun x1 => ?_)
    refine X_icmp_ge (tgt := 64) dX1_putInto_7 (by decide) ?_ ?_
    · skip
      exact X_vret rfl dX1_putInto_64
    · skip
      refine X_aload_n 2 dX1_putInto_10 rfl rfl ?_
      refine X_getR kF_X1_45 rfl dX1_putInto_11 (fun a2 => ?_)
      refine X_iload_n 3 dX1_putInto_14 rfl rfl ?_
      refine X_iald dX1_putInto_15 (fun x3 => ?_)
      refine X_iconst (v := (4 : Int32)) dX1_putInto_16 (by decide) ?_
      refine X_jn (fun (j : gS → Option (gS)) => ∀ (S4 : gS), gJ gV E M_X1_putInto n0 s0 58 [(0, .ref u0), (1, .ref u1), (2, .ref u2), (3, .int u3)] [] S4 (j S4)) ?_ (fun jb5 hjb5 => ?_)
      · intro S4
        refine X_iinc (k := 3) (x := u3) (v := (1 : Int32)) (lv2 := [(3, .int (u3 + (1 : Int32))), (0, .ref u0), (1, .ref u1), (2, .ref u2)]) dX1_putInto_58 rfl (by decide) (by decide) rfl ?_
        refine X_goto (tgt := 2) dX1_putInto_61 (by decide) ?_
        exact X_sub [1, 2, 3, 0] rfl (ih _ _)
      · skip
        refine X_jn (fun (j : gS → Option (gS)) => ∀ (S6 : gS), gJ gV E M_X1_putInto n0 s0 41 [(0, .ref u0), (1, .ref u1), (2, .ref u2), (3, .int u3)] [] S6 (j S6)) ?_ (fun jb7 hjb7 => ?_)
        · intro S6
          refine X_aload_n 1 dX1_putInto_41 rfl rfl ?_
          refine X_iload_n 3 dX1_putInto_42 rfl rfl ?_
          refine X_aload_n 2 dX1_putInto_43 rfl rfl ?_
          refine X_getR kF_X1_45 rfl dX1_putInto_44 (fun a8 => ?_)
          refine X_iload_n 3 dX1_putInto_47 rfl rfl ?_
          refine X_iald dX1_putInto_48 (fun x9 => ?_)
          refine X_aload_n 0 dX1_putInto_49 rfl rfl ?_
          refine X_getR kF_X1_9 rfl dX1_putInto_50 (fun a10 => ?_)
          refine X_iload_n 3 dX1_putInto_53 rfl rfl ?_
          refine X_lald dX1_putInto_54 (fun x11 => ?_)
          refine X_callVV (ci := 2) (As := [.int u3, .int x9, .long x11]) (st := []) (c_X2_setTold E S6 u1 u3 x9 x11) (by decide) rfl kC_X2_setTold kL_X1_53 kI_X2_setTold kE_X2_setTold (by unfold g_okR; decide) rfl (Nat.le_of_ble_eq_true rfl) dX1_putInto_55 (fun S12 => ?_)
          exact (hjb5 _)
        · skip
          refine X_icmp_ne (tgt := 41) dX1_putInto_17 (by decide) ?_ ?_
          · skip
            refine X_aload_n 0 dX1_putInto_20 rfl rfl ?_
            refine X_iload_n 3 dX1_putInto_21 rfl rfl ?_
            refine X_callVI (ci := 1) (As := [.int u3]) (st := []) (c_X1_letterCount E S u0 u3) (by decide) rfl kC_X1_letterCount kL_X1_28 kI_X1_letterCount kE_X1_letterCount (by unfold g_okR; decide) rfl (Nat.le_of_ble_eq_true rfl) dX1_putInto_22 (fun x14 S13 => ?_)
            refine X_if_le (tgt := 41) dX1_putInto_25 (by decide) ?_ ?_
            · skip
              exact (hjb7 _)
            · skip
              refine X_aload_n 1 dX1_putInto_28 rfl rfl ?_
              refine X_iload_n 3 dX1_putInto_29 rfl rfl ?_
              refine X_aload_n 0 dX1_putInto_30 rfl rfl ?_
              refine X_getR kF_X1_18 rfl dX1_putInto_31 (fun a15 => ?_)
              refine X_iload_n 3 dX1_putInto_34 rfl rfl ?_
              refine X_callVV (ci := 2) (As := [.int u3, .ref a15, .int u3]) (st := []) (c_X2_copyValue E S13 u1 u3 a15 u3) (by decide) rfl kC_X2_copyValue kL_X1_49 kI_X2_copyValue kE_X2_copyValue (by unfold g_okR; decide) rfl (Nat.le_of_ble_eq_true rfl) dX1_putInto_35 (fun S16 => ?_)
              refine X_goto (tgt := 58) dX1_putInto_38 (by decide) ?_
              exact (hjb5 _)
          · skip
            exact (hjb7 _)
set_option maxRecDepth 100000 in
set_option maxHeartbeats 4000000 in
theorem c_X1_putInto (E : gE) (S : gS) (a0 : Nat) (p1 : Nat) (p2 : Nat) : gC gV E M_X1_putInto [.ref a0, .ref p1, .ref p2] S (f_X1_putInto S a0 p1 p2) := by
  refine gC.of (by decide) (Nat.le_of_ble_eq_true rfl) ?_
  unfold f_X1_putInto
  show gJ gV E M_X1_putInto _ _ 0 [(0, .ref a0), (1, .ref p1), (2, .ref p2)] [] S _
  refine X_iconst (v := (0 : Int32)) dX1_putInto_0 (by decide) ?_
  refine X_istore_n (lv2 := [(3, .int (0 : Int32)), (0, .ref a0), (1, .ref p1), (2, .ref p2)]) dX1_putInto_1 rfl (by decide) rfl ?_
  exact X_sub [1, 2, 3, 0] rfl (j_X1_putInto_2 E a0 p1 p2 100 _ _)
set_option maxRecDepth 100000 in
theorem kC_X1_putInto : g_okC M_X1_putInto 2 := And.intro (g_t (i := 335) rfl (by decide +kernel)) (And.intro (g_nd nd_4_ok (k := 27) rfl) (And.intro (by decide) (And.intro (by decide) (by decide +kernel))))
def M_X6_placeBehind : gM := (yX6_placeBehind, cX6_placeBehind, 2, some .int, 0, 0)
def f_X6_placeBehind (S : gS) (a0 : Nat) (p1 : Int32) : Option (Int32 × gS) :=
g_getI S 6 0 a0 fun x1 =>
if x1 = (1 : Int32) then (
g_getI S 6 4 a0 fun x2 =>
if x2 ≤ p1 then (
g_getI S 6 4 a0 fun x3 =>
if p1 = x3 then (
some ((-1 : Int32), S))
else (
some ((p1 - (1 : Int32)), S)))
else (
some (p1, S)))
else (
some (p1, S))
set_option maxRecDepth 100000 in
set_option maxHeartbeats 4000000 in
theorem c_X6_placeBehind (E : gE) (S : gS) (a0 : Nat) (p1 : Int32) : gC gI E M_X6_placeBehind [.ref a0, .int p1] S (f_X6_placeBehind S a0 p1) := by
  refine gC.of (by decide) (Nat.le_of_ble_eq_true rfl) ?_
  unfold f_X6_placeBehind
  show gJ gI E M_X6_placeBehind _ _ 0 [(0, .ref a0), (1, .int p1)] [] S _
  refine X_aload_n 0 dX6_placeBehind_0 rfl rfl ?_
  refine X_getI kF_X6_9 rfl dX6_placeBehind_1 (fun x1 => ?_)
  refine X_iconst (v := (1 : Int32)) dX6_placeBehind_4 (by decide) ?_
  refine X_icmp_ne (tgt := 16) dX6_placeBehind_5 (by decide) ?_ ?_
  · skip
    refine X_iload_n 1 dX6_placeBehind_8 rfl rfl ?_
    refine X_aload_n 0 dX6_placeBehind_9 rfl rfl ?_
    refine X_getI kF_X6_15 rfl dX6_placeBehind_10 (fun x2 => ?_)
    refine X_icmp_ge (tgt := 18) dX6_placeBehind_13 (by decide) ?_ ?_
    · skip
      refine X_iload_n 1 dX6_placeBehind_18 rfl rfl ?_
      refine X_aload_n 0 dX6_placeBehind_19 rfl rfl ?_
      refine X_getI kF_X6_15 rfl dX6_placeBehind_20 (fun x3 => ?_)
      refine X_icmp_ne (tgt := 30) dX6_placeBehind_23 (by decide) ?_ ?_
      · skip
        refine X_iconst (v := (-1 : Int32)) dX6_placeBehind_26 (by decide) ?_
        refine X_goto (tgt := 33) dX6_placeBehind_27 (by decide) ?_
        exact X_iret rfl dX6_placeBehind_33
      · skip
        refine X_iload_n 1 dX6_placeBehind_30 rfl rfl ?_
        refine X_iconst (v := (1 : Int32)) dX6_placeBehind_31 (by decide) ?_
        refine X_isub dX6_placeBehind_32 ?_
        exact X_iret rfl dX6_placeBehind_33
    · skip
      refine X_iload_n 1 dX6_placeBehind_16 rfl rfl ?_
      exact X_iret rfl dX6_placeBehind_17
  · skip
    refine X_iload_n 1 dX6_placeBehind_16 rfl rfl ?_
    exact X_iret rfl dX6_placeBehind_17
set_option maxRecDepth 100000 in
theorem kC_X6_placeBehind : g_okC M_X6_placeBehind 1 := And.intro (g_t (i := 359) rfl (by decide +kernel)) (And.intro (g_nd nd_2_ok (k := 4) rfl) (And.intro (by decide) (And.intro (by decide) (by decide +kernel))))
def M_X3_lastPlace : gM := (yX3_lastPlace, cX3_lastPlace, 4, some .int, 1, 21)
def l_X3_lastPlace_4 (u0 : Nat) (u1 : Int32) : Nat → gS → Int32 → Int32 → Option (Int32 × gS)
  | 0, _, _, _ => none
  | n + 1, S, u2, u3 =>
    g_getI S 3 1 u0 fun x1 =>
    if x1 ≤ u3 then (
    some (u2, S))
    else (
    if u2 = (-1 : Int32) then (
    some (u2, S))
    else (
    g_getR S 3 2 u0 fun a2 =>
    g_stI S a2 u3 u2 fun S3 =>
    g_getR S3 3 0 u0 fun a4 =>
    g_ldR S3 14 a4 u3 fun a5 =>
    g_cVI S3 6 a5 (f_X6_placeBehind S3 a5 u2) fun x7 S6 =>
    l_X3_lastPlace_4 u0 u1 n S6 x7 (u3 + (1 : Int32)) ))
def f_X3_lastPlace (S : gS) (a0 : Nat) (p1 : Int32) : Option (Int32 × gS) :=
l_X3_lastPlace_4 a0 p1 100 S p1 (0 : Int32) 
set_option maxRecDepth 100000 in
set_option maxHeartbeats 4000000 in
theorem j_X3_lastPlace_4 (E : gE) {n0 s0 : Nat} (u0 : Nat) (u1 : Int32) : ∀ (n : Nat) (S : gS) (u2 : Int32) (u3 : Int32), gJ gI E M_X3_lastPlace n0 s0 4 [(0, .ref u0), (1, .int u1), (2, .int u2), (3, .int u3)] [] S (l_X3_lastPlace_4 u0 u1 n S u2 u3 ) := by
  intro n
  induction n with
  | zero =>
    intros
    rw [l_X3_lastPlace_4]
    exact gJ.none
  | succ n ih =>
    intro S u2 u3  
    rw [l_X3_lastPlace_4]
    refine X_iload_n 3 dX3_lastPlace_4 rfl rfl ?_
    refine X_aload_n 0 dX3_lastPlace_5 rfl rfl ?_
    refine X_getI kF_X3_22 rfl dX3_lastPlace_6 (fun x1 => ?_)
    refine X_icmp_ge (tgt := 41) dX3_lastPlace_9 (by decide) ?_ ?_
    · skip
      refine X_iload_n 2 dX3_lastPlace_41 rfl rfl ?_
      exact X_iret rfl dX3_lastPlace_42
    · skip
      refine X_iload_n 2 dX3_lastPlace_12 rfl rfl ?_
      refine X_iconst (v := (-1 : Int32)) dX3_lastPlace_13 (by decide) ?_
      refine X_icmp_eq (tgt := 41) dX3_lastPlace_14 (by decide) ?_ ?_
      · skip
        refine X_iload_n 2 dX3_lastPlace_41 rfl rfl ?_
        exact X_iret rfl dX3_lastPlace_42
      · skip
        refine X_aload_n 0 dX3_lastPlace_17 rfl rfl ?_
        refine X_getR kF_X3_17 rfl dX3_lastPlace_18 (fun a2 => ?_)
        refine X_iload_n 3 dX3_lastPlace_21 rfl rfl ?_
        refine X_iload_n 2 dX3_lastPlace_22 rfl rfl ?_
        refine X_iast dX3_lastPlace_23 (fun S3 => ?_)
        refine X_aload_n 0 dX3_lastPlace_24 rfl rfl ?_
        refine X_getR kF_X3_11 rfl dX3_lastPlace_25 (fun a4 => ?_)
        refine X_iload_n 3 dX3_lastPlace_28 rfl rfl ?_
        refine X_aald (Or.inr rfl) dX3_lastPlace_29 (fun a5 => ?_)
        refine X_iload_n 2 dX3_lastPlace_30 rfl rfl ?_
        refine X_callVI (ci := 6) (As := [.int u2]) (st := []) (c_X6_placeBehind E S3 a5 u2) (by decide) rfl kC_X6_placeBehind kL_X3_69 kI_X6_placeBehind kE_X6_placeBehind (by unfold g_okR; decide) rfl (Nat.le_of_ble_eq_true rfl) dX3_lastPlace_31 (fun x7 S6 => ?_)
        refine X_istore_n (lv2 := [(2, .int x7), (0, .ref u0), (1, .int u1), (3, .int u3)]) dX3_lastPlace_34 rfl (by decide) rfl ?_
        refine X_iinc (k := 3) (x := u3) (v := (1 : Int32)) (lv2 := [(3, .int (u3 + (1 : Int32))), (2, .int x7), (0, .ref u0), (1, .int u1)]) dX3_lastPlace_35 rfl (by decide) (by decide) rfl ?_
        refine X_goto (tgt := 4) dX3_lastPlace_38 (by decide) ?_
        exact X_sub [2, 3, 1, 0] rfl (ih _ _ _)
set_option maxRecDepth 100000 in
set_option maxHeartbeats 4000000 in
theorem c_X3_lastPlace (E : gE) (S : gS) (a0 : Nat) (p1 : Int32) : gC gI E M_X3_lastPlace [.ref a0, .int p1] S (f_X3_lastPlace S a0 p1) := by
  refine gC.of (by decide) (Nat.le_of_ble_eq_true rfl) ?_
  unfold f_X3_lastPlace
  show gJ gI E M_X3_lastPlace _ _ 0 [(0, .ref a0), (1, .int p1)] [] S _
  refine X_iload_n 1 dX3_lastPlace_0 rfl rfl ?_
  refine X_istore_n (lv2 := [(2, .int p1), (0, .ref a0), (1, .int p1)]) dX3_lastPlace_1 rfl (by decide) rfl ?_
  refine X_iconst (v := (0 : Int32)) dX3_lastPlace_2 (by decide) ?_
  refine X_istore_n (lv2 := [(3, .int (0 : Int32)), (2, .int p1), (0, .ref a0), (1, .int p1)]) dX3_lastPlace_3 rfl (by decide) rfl ?_
  exact X_sub [2, 3, 1, 0] rfl (j_X3_lastPlace_4 E a0 p1 100 _ _ _)
set_option maxRecDepth 100000 in
theorem kC_X3_lastPlace : g_okC M_X3_lastPlace 1 := And.intro (g_t (i := 355) rfl (by decide +kernel)) (And.intro (g_nd nd_5_ok (k := 1) rfl) (And.intro (by decide) (And.intro (by decide) (by decide +kernel))))
def M_X3_makeBack : gM := (yX3_makeBack, cX3_makeBack, 5, none, 3, 77)
def l_X3_makeBack_7 (u0 : Nat) (u1 : Nat) (u2 : Int32) : Nat → gS → Int32 → Option (gS)
  | 0, _, _ => none
  | n + 1, S, u3 =>
    if u3 < 0 then (
    some S)
    else (
    g_getR S 3 0 u0 fun a3 =>
    g_ldR S 14 a3 u3 fun a4 =>
    g_getI S 6 0 a4 fun x5 =>
    g_jn (fun (S6 : gS) => (
    l_X3_makeBack_7 u0 u1 u2 n S6 (u3 + (-1 : Int32)) )) fun jb7 => (
    if x5 = (3 : Int32) then (
    g_getI S 6 4 a4 fun x8 =>
    g_getR S 3 2 u0 fun a9 =>
    g_ldI S 10 a9 u3 fun x10 =>
    if x8 = x10 then (
    g_getI S 6 2 a4 fun x11 =>
    g_getI S 6 5 a4 fun x12 =>
    g_cVV S 2 u1 (f_X2_become S u1 u2 x11 x12) fun S13 =>
    jb7 S13)
    else (
    jb7 S))
    else (
    jb7 S)))
def f_X3_makeBack (S : gS) (a0 : Nat) (p1 : Nat) (p2 : Int32) : Option (gS) :=
g_getI S 3 1 a0 fun x1 =>
g_lt (x1 - (1 : Int32)) fun x2 =>
l_X3_makeBack_7 a0 p1 p2 100 S x2 
set_option maxRecDepth 100000 in
set_option maxHeartbeats 4000000 in
theorem j_X3_makeBack_7 (E : gE) {n0 s0 : Nat} (u0 : Nat) (u1 : Nat) (u2 : Int32) : ∀ (n : Nat) (S : gS) (u3 : Int32), gJ gV E M_X3_makeBack n0 s0 7 [(0, .ref u0), (1, .ref u1), (2, .int u2), (3, .int u3)] [] S (l_X3_makeBack_7 u0 u1 u2 n S u3 ) := by
  intro n
  induction n with
  | zero =>
    intros
    rw [l_X3_makeBack_7]
    exact gJ.none
  | succ n ih =>
    intro S u3  
    rw [l_X3_makeBack_7]
    refine X_iload_n 3 dX3_makeBack_7 rfl rfl ?_
    refine X_if_lt (tgt := 63) dX3_makeBack_8 (by decide) ?_ ?_
    · skip
      exact X_vret rfl dX3_makeBack_63
    · skip
      refine X_aload_n 0 dX3_makeBack_11 rfl rfl ?_
      refine X_getR kF_X3_11 rfl dX3_makeBack_12 (fun a3 => ?_)
      refine X_iload_n 3 dX3_makeBack_15 rfl rfl ?_
      refine X_aald (Or.inr rfl) dX3_makeBack_16 (fun a4 => ?_)
      refine X_astore (lv2 := [(4, .ref a4), (0, .ref u0), (1, .ref u1), (2, .int u2), (3, .int u3)]) dX3_makeBack_17 (by decide) rfl ?_
      refine X_aload 0 dX3_makeBack_19 rfl ?_
      refine X_getI kF_X3_26 rfl dX3_makeBack_21 (fun x5 => ?_)
      refine X_iconst (v := (3 : Int32)) dX3_makeBack_24 (by decide) ?_
      refine X_jn (fun (j : gS → Option (gS)) => ∀ (S6 : gS), gJ gV E M_X3_makeBack n0 s0 57 [(0, .ref u0), (1, .ref u1), (2, .int u2), (3, .int u3), (4, .ref a4)] [] S6 (j S6)) ?_ (fun jb7 hjb7 => ?_)
      · intro S6
        refine X_iinc (k := 3) (x := u3) (v := (-1 : Int32)) (lv2 := [(3, .int (u3 + (-1 : Int32))), (0, .ref u0), (1, .ref u1), (2, .int u2), (4, .ref a4)]) dX3_makeBack_57 rfl (by decide) (by decide) rfl ?_
        refine X_goto (tgt := 7) dX3_makeBack_60 (by decide) ?_
        exact X_sub [1, 2, 3, 0] rfl (ih _ _)
      · skip
        refine X_icmp_ne (tgt := 57) dX3_makeBack_25 (by decide) ?_ ?_
        · skip
          refine X_aload 0 dX3_makeBack_28 rfl ?_
          refine X_getI kF_X3_72 rfl dX3_makeBack_30 (fun x8 => ?_)
          refine X_aload_n 1 dX3_makeBack_33 rfl rfl ?_
          refine X_getR kF_X3_17 rfl dX3_makeBack_34 (fun a9 => ?_)
          refine X_iload_n 4 dX3_makeBack_37 rfl rfl ?_
          refine X_iald dX3_makeBack_38 (fun x10 => ?_)
          refine X_icmp_ne (tgt := 57) dX3_makeBack_39 (by decide) ?_ ?_
          · skip
            refine X_aload_n 2 dX3_makeBack_42 rfl rfl ?_
            refine X_iload_n 3 dX3_makeBack_43 rfl rfl ?_
            refine X_aload 0 dX3_makeBack_44 rfl ?_
            refine X_getI kF_X3_32 rfl dX3_makeBack_46 (fun x11 => ?_)
            refine X_aload 0 dX3_makeBack_49 rfl ?_
            refine X_getI kF_X3_75 rfl dX3_makeBack_51 (fun x12 => ?_)
            refine X_callVV (ci := 2) (As := [.int u2, .int x11, .int x12]) (st := []) (c_X2_become E S u1 u2 x11 x12) (by decide) rfl kC_X2_become kL_X3_78 kI_X2_become kE_X2_become (by unfold g_okR; decide) rfl (Nat.le_of_ble_eq_true rfl) dX3_makeBack_54 (fun S13 => ?_)
            exact X_sub [1, 2, 3, 4, 0] rfl (hjb7 _)
          · skip
            exact X_sub [1, 2, 3, 4, 0] rfl (hjb7 _)
        · skip
          exact X_sub [1, 2, 3, 4, 0] rfl (hjb7 _)
set_option maxRecDepth 100000 in
set_option maxHeartbeats 4000000 in
theorem c_X3_makeBack (E : gE) (S : gS) (a0 : Nat) (p1 : Nat) (p2 : Int32) : gC gV E M_X3_makeBack [.ref a0, .ref p1, .int p2] S (f_X3_makeBack S a0 p1 p2) := by
  refine gC.of (by decide) (Nat.le_of_ble_eq_true rfl) ?_
  unfold f_X3_makeBack
  show gJ gV E M_X3_makeBack _ _ 0 [(0, .ref a0), (1, .ref p1), (2, .int p2)] [] S _
  refine X_aload_n 0 dX3_makeBack_0 rfl rfl ?_
  refine X_getI kF_X3_22 rfl dX3_makeBack_1 (fun x1 => ?_)
  refine X_iconst (v := (1 : Int32)) dX3_makeBack_4 (by decide) ?_
  refine X_isub dX3_makeBack_5 ?_
  refine X_topI (fun x2 => ?_)
  refine X_istore_n (lv2 := [(3, .int x2), (0, .ref a0), (1, .ref p1), (2, .int p2)]) dX3_makeBack_6 rfl (by decide) rfl ?_
  exact X_sub [1, 2, 3, 0] rfl (j_X3_makeBack_7 E a0 p1 p2 100 _ _)
set_option maxRecDepth 100000 in
theorem kC_X3_makeBack : g_okC M_X3_makeBack 2 := And.intro (g_t (i := 364) rfl (by decide +kernel)) (And.intro (g_nd nd_5_ok (k := 1) rfl) (And.intro (by decide) (And.intro (by decide) (by decide +kernel))))
def M_X3_makeDown : gM := (yX3_makeDown, cX3_makeDown, 6, none, 4, 101)
def l_X3_makeDown_3 (u0 : Nat) (u1 : Nat) (u2 : Nat) (u3 : Int32) : Nat → gS → Int32 → Option (gS)
  | 0, _, _ => none
  | n + 1, S, u4 =>
    if u3 ≤ u4 then (
    some S)
    else (
    g_cVI S 3 u0 (f_X3_lastPlace S u0 u4) fun x2 S1 =>
    g_jn (fun (S3 : gS) => (
    l_X3_makeDown_3 u0 u1 u2 u3 n S3 (u4 + (1 : Int32)) )) fun jb4 => (
    if x2 = (-1 : Int32) then (
    jb4 S1)
    else (
    g_cVV S1 2 u2 (f_X2_copyValue S1 u2 u4 u1 x2) fun S5 =>
    g_cVV S5 3 u0 (f_X3_makeBack S5 u0 u2 u4) fun S6 =>
    jb4 S6)))
def f_X3_makeDown (S : gS) (a0 : Nat) (p1 : Nat) (p2 : Nat) (p3 : Int32) : Option (gS) :=
l_X3_makeDown_3 a0 p1 p2 p3 100 S (0 : Int32) 
set_option maxRecDepth 100000 in
set_option maxHeartbeats 4000000 in
theorem j_X3_makeDown_3 (E : gE) {n0 s0 : Nat} (u0 : Nat) (u1 : Nat) (u2 : Nat) (u3 : Int32) : ∀ (n : Nat) (S : gS) (u4 : Int32), gJ gV E M_X3_makeDown n0 s0 3 [(0, .ref u0), (1, .ref u1), (2, .ref u2), (3, .int u3), (4, .int u4)] [] S (l_X3_makeDown_3 u0 u1 u2 u3 n S u4 ) := by
  intro n
  induction n with
  | zero =>
    intros
    rw [l_X3_makeDown_3]
    exact gJ.none
  | succ n ih =>
    intro S u4  
    rw [l_X3_makeDown_3]
    refine X_iload 4 dX3_makeDown_3 rfl ?_
    refine X_iload_n 3 dX3_makeDown_5 rfl rfl ?_
    refine X_icmp_ge (tgt := 45) dX3_makeDown_6 (by decide) ?_ ?_
    · skip
      exact X_vret rfl dX3_makeDown_45
    · skip
      refine X_aload_n 0 dX3_makeDown_9 rfl rfl ?_
      refine X_iload 4 dX3_makeDown_10 rfl ?_
      refine X_callVI (ci := 3) (As := [.int u4]) (st := []) (c_X3_lastPlace E S u0 u4) (by decide) rfl kC_X3_lastPlace kL_X3_57 kI_X3_lastPlace kE_X3_lastPlace (by unfold g_okR; decide) rfl (Nat.le_of_ble_eq_true rfl) dX3_makeDown_12 (fun x2 S1 => ?_)
      refine X_istore (lv2 := [(5, .int x2), (0, .ref u0), (1, .ref u1), (2, .ref u2), (3, .int u3), (4, .int u4)]) dX3_makeDown_15 (by decide) rfl ?_
      refine X_iload 0 dX3_makeDown_17 rfl ?_
      refine X_iconst (v := (-1 : Int32)) dX3_makeDown_19 (by decide) ?_
      refine X_jn (fun (j : gS → Option (gS)) => ∀ (S3 : gS), gJ gV E M_X3_makeDown n0 s0 39 [(0, .ref u0), (1, .ref u1), (2, .ref u2), (3, .int u3), (4, .int u4), (5, .int x2)] [] S3 (j S3)) ?_ (fun jb4 hjb4 => ?_)
      · intro S3
        refine X_iinc (k := 4) (x := u4) (v := (1 : Int32)) (lv2 := [(4, .int (u4 + (1 : Int32))), (0, .ref u0), (1, .ref u1), (2, .ref u2), (3, .int u3), (5, .int x2)]) dX3_makeDown_39 rfl (by decide) (by decide) rfl ?_
        refine X_goto (tgt := 3) dX3_makeDown_42 (by decide) ?_
        exact X_sub [1, 2, 3, 4, 0] rfl (ih _ _)
      · skip
        refine X_icmp_eq (tgt := 39) dX3_makeDown_20 (by decide) ?_ ?_
        · skip
          exact X_sub [1, 2, 3, 4, 5, 0] rfl (hjb4 _)
        · skip
          refine X_aload_n 3 dX3_makeDown_23 rfl rfl ?_
          refine X_iload 5 dX3_makeDown_24 rfl ?_
          refine X_aload_n 2 dX3_makeDown_26 rfl rfl ?_
          refine X_iload 0 dX3_makeDown_27 rfl ?_
          refine X_callVV (ci := 2) (As := [.int u4, .ref u1, .int x2]) (st := []) (c_X2_copyValue E S1 u2 u4 u1 x2) (by decide) rfl kC_X2_copyValue kL_X3_61 kI_X2_copyValue kE_X2_copyValue (by unfold g_okR; decide) rfl (Nat.le_of_ble_eq_true rfl) dX3_makeDown_29 (fun S5 => ?_)
          refine X_aload_n 1 dX3_makeDown_32 rfl rfl ?_
          refine X_aload_n 3 dX3_makeDown_33 rfl rfl ?_
          refine X_iload 5 dX3_makeDown_34 rfl ?_
          refine X_callVV (ci := 3) (As := [.ref u2, .int u4]) (st := []) (c_X3_makeBack E S5 u0 u2 u4) (by decide) rfl kC_X3_makeBack kL_X3_65 kI_X3_makeBack kE_X3_makeBack (by unfold g_okR; decide) rfl (Nat.le_of_ble_eq_true rfl) dX3_makeDown_36 (fun S6 => ?_)
          exact X_sub [1, 2, 3, 4, 5, 0] rfl (hjb4 _)
set_option maxRecDepth 100000 in
set_option maxHeartbeats 4000000 in
theorem c_X3_makeDown (E : gE) (S : gS) (a0 : Nat) (p1 : Nat) (p2 : Nat) (p3 : Int32) : gC gV E M_X3_makeDown [.ref a0, .ref p1, .ref p2, .int p3] S (f_X3_makeDown S a0 p1 p2 p3) := by
  refine gC.of (by decide) (Nat.le_of_ble_eq_true rfl) ?_
  unfold f_X3_makeDown
  show gJ gV E M_X3_makeDown _ _ 0 [(0, .ref a0), (1, .ref p1), (2, .ref p2), (3, .int p3)] [] S _
  refine X_iconst (v := (0 : Int32)) dX3_makeDown_0 (by decide) ?_
  refine X_istore (lv2 := [(4, .int (0 : Int32)), (0, .ref a0), (1, .ref p1), (2, .ref p2), (3, .int p3)]) dX3_makeDown_1 (by decide) rfl ?_
  exact X_sub [1, 2, 3, 4, 0] rfl (j_X3_makeDown_3 E a0 p1 p2 p3 100 _ _)
set_option maxRecDepth 100000 in
theorem kC_X3_makeDown : g_okC M_X3_makeDown 3 := And.intro (g_t (i := 351) rfl (by decide +kernel)) (And.intro (g_nd nd_5_ok (k := 1) rfl) (And.intro (by decide) (And.intro (by decide) (by decide +kernel))))
def M_X4_markWritten : gM := (yX4_markWritten, cX4_markWritten, 1, none, 0, 0)
def f_X4_markWritten (S : gS) (a0 : Nat) : Option (gS) :=
g_putZ S 4 2 a0 (0 : Int32) fun S1 =>
g_getI S1 4 1 a0 fun x2 =>
if x2 = (1 : Int32) then (
g_putI S1 4 1 a0 (0 : Int32) fun S3 =>
some S3)
else (
some S1)
set_option maxRecDepth 100000 in
set_option maxHeartbeats 4000000 in
theorem c_X4_markWritten (E : gE) (S : gS) (a0 : Nat) : gC gV E M_X4_markWritten [.ref a0] S (f_X4_markWritten S a0) := by
  refine gC.of (by decide) (Nat.le_of_ble_eq_true rfl) ?_
  unfold f_X4_markWritten
  show gJ gV E M_X4_markWritten _ _ 0 [(0, .ref a0)] [] S _
  refine X_aload_n 0 dX4_markWritten_0 rfl rfl ?_
  refine X_iconst (v := (0 : Int32)) dX4_markWritten_1 (by decide) ?_
  refine X_putZ kF_X4_31 rfl rfl dX4_markWritten_2 (fun S1 => ?_)
  refine X_aload_n 0 dX4_markWritten_5 rfl rfl ?_
  refine X_getI kF_X4_25 rfl dX4_markWritten_6 (fun x2 => ?_)
  refine X_iconst (v := (1 : Int32)) dX4_markWritten_9 (by decide) ?_
  refine X_icmp_ne (tgt := 18) dX4_markWritten_10 (by decide) ?_ ?_
  · skip
    refine X_aload_n 0 dX4_markWritten_13 rfl rfl ?_
    refine X_iconst (v := (0 : Int32)) dX4_markWritten_14 (by decide) ?_
    refine X_putI kF_X4_25 rfl rfl dX4_markWritten_15 (fun S3 => ?_)
    exact X_vret rfl dX4_markWritten_18
  · skip
    exact X_vret rfl dX4_markWritten_18
set_option maxRecDepth 100000 in
theorem kC_X4_markWritten : g_okC M_X4_markWritten 0 := And.intro (g_t (i := 418) rfl (by decide +kernel)) (And.intro (g_nd nd_4_ok (k := 2) rfl) (And.intro (by decide) (And.intro (by decide) (by decide +kernel))))
def M_X4_startUnder : gM := (yX4_startUnder, cX4_startUnder, 2, none, 2, 46)
def f_X4_startUnder (S : gS) (a0 : Nat) (p1 : Int32) : Option (gS) :=
g_putI S 4 0 a0 p1 fun S1 =>
g_putI S1 4 1 a0 (0 : Int32) fun S2 =>
g_getR S2 4 3 a0 fun a3 =>
g_cVV S2 2 a3 (f_X2_clearAll S2 a3) fun S4 =>
some S4
set_option maxRecDepth 100000 in
set_option maxHeartbeats 4000000 in
theorem c_X4_startUnder (E : gE) (S : gS) (a0 : Nat) (p1 : Int32) : gC gV E M_X4_startUnder [.ref a0, .int p1] S (f_X4_startUnder S a0 p1) := by
  refine gC.of (by decide) (Nat.le_of_ble_eq_true rfl) ?_
  unfold f_X4_startUnder
  show gJ gV E M_X4_startUnder _ _ 0 [(0, .ref a0), (1, .int p1)] [] S _
  refine X_aload_n 0 dX4_startUnder_0 rfl rfl ?_
  refine X_iload_n 1 dX4_startUnder_1 rfl rfl ?_
  refine X_putI kF_X4_21 rfl rfl dX4_startUnder_2 (fun S1 => ?_)
  refine X_aload_n 0 dX4_startUnder_5 rfl rfl ?_
  refine X_iconst (v := (0 : Int32)) dX4_startUnder_6 (by decide) ?_
  refine X_putI kF_X4_25 rfl rfl dX4_startUnder_7 (fun S2 => ?_)
  refine X_aload_n 0 dX4_startUnder_10 rfl rfl ?_
  refine X_getR kF_X4_12 rfl dX4_startUnder_11 (fun a3 => ?_)
  refine X_callVV (ci := 2) (As := []) (st := []) (c_X2_clearAll E S2 a3) (by decide) rfl kC_X2_clearAll kL_X4_28 kI_X2_clearAll kE_X2_clearAll (by unfold g_okR; decide) rfl (Nat.le_of_ble_eq_true rfl) dX4_startUnder_14 (fun S4 => ?_)
  exact X_vret rfl dX4_startUnder_17
set_option maxRecDepth 100000 in
theorem kC_X4_startUnder : g_okC M_X4_startUnder 1 := And.intro (g_t (i := 326) rfl (by decide +kernel)) (And.intro (g_nd nd_4_ok (k := 2) rfl) (And.intro (by decide) (And.intro (by decide) (by decide +kernel))))
def M_X7_insert : gM := (yX7_insert, cX7_insert, 5, some (.object "ShiftHouse$Row"), 3, 67)
def l_X7_insert_23 (u0 : Nat) (u1 : Int32) (u2 : Int32) (u3 : Nat) : Nat → gS → Int32 → (gS → Int32 → Option (Nat × gS)) → Option (Nat × gS)
  | 0, _, _, _ => none
  | n + 1, S, u4, K1 =>
    if u4 ≤ u2 then (
    K1 S u4)
    else (
    g_getR S 7 0 u0 fun a7 =>
    g_getR S 7 0 u0 fun a8 =>
    g_ldR S 13 a8 (u4 - (1 : Int32)) fun a9 =>
    g_stR S 13 4 a7 u4 a9 fun S10 =>
    l_X7_insert_23 u0 u1 u2 u3 n S10 (u4 + (-1 : Int32)) K1)
def f_X7_insert (S : gS) (a0 : Nat) (p1 : Int32) : Option (Nat × gS) :=
g_cVI S 7 a0 (f_X7_placeAbove S a0 p1 (0 : Int32)) fun x2 S1 =>
g_getR S1 7 0 a0 fun a3 =>
g_getI S1 7 1 a0 fun x4 =>
g_ldR S1 13 a3 x4 fun a5 =>
g_getI S1 7 1 a0 fun x6 =>
l_X7_insert_23 a0 p1 x2 a5 100 S1 x6 (fun S11 v12 => (
g_getR S11 7 0 a0 fun a13 =>
g_stR S11 13 4 a13 x2 a5 fun S14 =>
g_getI S14 7 1 a0 fun x15 =>
g_putI S14 7 1 a0 (x15 + (1 : Int32)) fun S16 =>
g_cVV S16 4 a5 (f_X4_startUnder S16 a5 p1) fun S17 =>
some (a5, S17)))
set_option maxRecDepth 100000 in
set_option maxHeartbeats 4000000 in
theorem j_X7_insert_23 (E : gE) {n0 s0 : Nat} (u0 : Nat) (u1 : Int32) (u2 : Int32) (u3 : Nat) : ∀ (n : Nat) (S : gS) (u4 : Int32) (K1 : (gS → Int32 → Option (Nat × gS))), (∀ (S : gS) (u4 : Int32), gJ gR E M_X7_insert n0 s0 51 [(0, .ref u0), (1, .int u1), (2, .int u2), (3, .ref u3), (4, .int u4)] [] S (K1 S u4)) → gJ gR E M_X7_insert n0 s0 23 [(0, .ref u0), (1, .int u1), (2, .int u2), (3, .ref u3), (4, .int u4)] [] S (l_X7_insert_23 u0 u1 u2 u3 n S u4 K1) := by
  intro n
  induction n with
  | zero =>
    intros
    rw [l_X7_insert_23]
    exact gJ.none
  | succ n ih =>
    intro S u4 K1 hK1
    rw [l_X7_insert_23]
    refine X_iload 4 dX7_insert_23 rfl ?_
    refine X_iload_n 2 dX7_insert_25 rfl rfl ?_
    refine X_icmp_le (tgt := 51) dX7_insert_26 (by decide) ?_ ?_
    · skip
      exact (hK1 _ _)
    · skip
      refine X_aload_n 0 dX7_insert_29 rfl rfl ?_
      refine X_getR kF_X7_11 rfl dX7_insert_30 (fun a7 => ?_)
      refine X_iload 4 dX7_insert_33 rfl ?_
      refine X_aload_n 0 dX7_insert_35 rfl rfl ?_
      refine X_getR kF_X7_11 rfl dX7_insert_36 (fun a8 => ?_)
      refine X_iload 4 dX7_insert_39 rfl ?_
      refine X_iconst (v := (1 : Int32)) dX7_insert_41 (by decide) ?_
      refine X_isub dX7_insert_42 ?_
      refine X_aald (Or.inl rfl) dX7_insert_43 (fun a9 => ?_)
      refine X_aast (Or.inl ⟨rfl, rfl⟩) dX7_insert_44 (fun S10 => ?_)
      refine X_iinc (k := 4) (x := u4) (v := (-1 : Int32)) (lv2 := [(4, .int (u4 + (-1 : Int32))), (0, .ref u0), (1, .int u1), (2, .int u2), (3, .ref u3)]) dX7_insert_45 rfl (by decide) (by decide) rfl ?_
      refine X_goto (tgt := 23) dX7_insert_48 (by decide) ?_
      exact X_sub [1, 2, 3, 4, 0] rfl (ih _ _ _ hK1)
set_option maxRecDepth 100000 in
set_option maxHeartbeats 4000000 in
theorem c_X7_insert (E : gE) (S : gS) (a0 : Nat) (p1 : Int32) : gC gR E M_X7_insert [.ref a0, .int p1] S (f_X7_insert S a0 p1) := by
  refine gC.of (by decide) (Nat.le_of_ble_eq_true rfl) ?_
  unfold f_X7_insert
  show gJ gR E M_X7_insert _ _ 0 [(0, .ref a0), (1, .int p1)] [] S _
  refine X_aload_n 0 dX7_insert_0 rfl rfl ?_
  refine X_iload_n 1 dX7_insert_1 rfl rfl ?_
  refine X_iconst (v := (0 : Int32)) dX7_insert_2 (by decide) ?_
  refine X_callVI (ci := 7) (As := [.int p1, .int (0 : Int32)]) (st := []) (c_X7_placeAbove E S a0 p1 (0 : Int32)) (by decide) rfl kC_X7_placeAbove kL_X7_25 kI_X7_placeAbove kE_X7_placeAbove (by unfold g_okR; decide) rfl (Nat.le_of_ble_eq_true rfl) dX7_insert_3 (fun x2 S1 => ?_)
  refine X_istore_n (lv2 := [(2, .int x2), (0, .ref a0), (1, .int p1)]) dX7_insert_6 rfl (by decide) rfl ?_
  refine X_aload_n 1 dX7_insert_7 rfl rfl ?_
  refine X_getR kF_X7_11 rfl dX7_insert_8 (fun a3 => ?_)
  refine X_aload_n 1 dX7_insert_11 rfl rfl ?_
  refine X_getI kF_X7_18 rfl dX7_insert_12 (fun x4 => ?_)
  refine X_aald (Or.inl rfl) dX7_insert_15 (fun a5 => ?_)
  refine X_astore_n (lv2 := [(3, .ref a5), (2, .int x2), (0, .ref a0), (1, .int p1)]) dX7_insert_16 rfl (by decide) rfl ?_
  refine X_aload_n 2 dX7_insert_17 rfl rfl ?_
  refine X_getI kF_X7_18 rfl dX7_insert_18 (fun x6 => ?_)
  refine X_istore (lv2 := [(4, .int x6), (3, .ref a5), (2, .int x2), (0, .ref a0), (1, .int p1)]) dX7_insert_21 (by decide) rfl ?_
  refine X_sub [3, 4, 2, 1, 0] rfl (j_X7_insert_23 E a0 p1 x2 a5 100 _ _ _ (fun S11 v12 => ?_))
  refine X_aload_n 0 dX7_insert_51 rfl rfl ?_
  refine X_getR kF_X7_11 rfl dX7_insert_52 (fun a13 => ?_)
  refine X_iload_n 2 dX7_insert_55 rfl rfl ?_
  refine X_aload_n 3 dX7_insert_56 rfl rfl ?_
  refine X_aast (Or.inl ⟨rfl, rfl⟩) dX7_insert_57 (fun S14 => ?_)
  refine X_aload_n 0 dX7_insert_58 rfl rfl ?_
  refine X_dup dX7_insert_59 rfl ?_
  refine X_getI kF_X7_18 rfl dX7_insert_60 (fun x15 => ?_)
  refine X_iconst (v := (1 : Int32)) dX7_insert_63 (by decide) ?_
  refine X_iadd dX7_insert_64 ?_
  refine X_putI kF_X7_18 rfl rfl dX7_insert_65 (fun S16 => ?_)
  refine X_aload_n 3 dX7_insert_68 rfl rfl ?_
  refine X_iload_n 1 dX7_insert_69 rfl rfl ?_
  refine X_callVV (ci := 4) (As := [.int p1]) (st := []) (c_X4_startUnder E S16 a5 p1) (by decide) rfl kC_X4_startUnder kL_X7_29 kI_X4_startUnder kE_X4_startUnder (by unfold g_okR; decide) rfl (Nat.le_of_ble_eq_true rfl) dX7_insert_70 (fun S17 => ?_)
  refine X_aload_n 3 dX7_insert_73 rfl rfl ?_
  exact X_aret rfl dX7_insert_74
set_option maxRecDepth 100000 in
theorem kC_X7_insert : g_okC M_X7_insert 1 := And.intro (g_t (i := 322) rfl (by decide +kernel)) (And.intro (g_nd nd_4_ok (k := 21) rfl) (And.intro (by decide) (And.intro (by decide) (by decide +kernel))))
