def M_X0_init : gM := (yX0_init, cX0_init, 1, none, 1, 20)
def f_X0_init (S : gS) (a0 : Nat) : Option (gS) :=
some S
set_option maxRecDepth 100000 in
set_option maxHeartbeats 4000000 in
theorem c_X0_init (E : gE) (S : gS) (a0 : Nat) : gC gV E M_X0_init [.ref a0] S (f_X0_init S a0) := by
  refine gC.of (by decide) (Nat.le_of_ble_eq_true rfl) ?_
  unfold f_X0_init
  show gJ gV E M_X0_init _ _ 0 [(0, .ref a0)] [] S _
  refine X_aload_n 0 dX0_init_0 rfl rfl ?_
  refine X_objInit kL_X0_1 kI_obj kC_obj (by decide) (Nat.le_of_ble_eq_true rfl) dX0_init_1 ?_
  exact X_vret rfl dX0_init_4
set_option maxRecDepth 100000 in
theorem kC_X0_init : g_okC M_X0_init 0 := And.intro (g_t (i := 25) rfl (by decide +kernel)) (And.intro (g_nd nd_4_ok (k := 16) rfl) (And.intro (by decide) (And.intro (by decide) (by decide +kernel))))
def M_X2_init : gM := (yX2_init, cX2_init, 1, none, 1, 20)
def f_X2_init (S : gS) (a0 : Nat) : Option (gS) :=
g_nwa S 11 (32 : Int32) fun a1 S2 =>
g_putR S2 2 0 a0 a1 fun S3 =>
some S3
set_option maxRecDepth 100000 in
set_option maxHeartbeats 4000000 in
theorem c_X2_init (E : gE) (S : gS) (a0 : Nat) : gC gV E M_X2_init [.ref a0] S (f_X2_init S a0) := by
  refine gC.of (by decide) (Nat.le_of_ble_eq_true rfl) ?_
  unfold f_X2_init
  show gJ gV E M_X2_init _ _ 0 [(0, .ref a0)] [] S _
  refine X_aload_n 0 dX2_init_0 rfl rfl ?_
  refine X_objInit kL_X2_3 kI_obj kC_obj (by decide) (Nat.le_of_ble_eq_true rfl) dX2_init_1 ?_
  refine X_aload_n 0 dX2_init_4 rfl rfl ?_
  refine X_bipush (v := (32 : Int32)) dX2_init_5 (by decide) ?_
  refine X_newarr (ty := .long) rfl (Or.inr (Or.inl ⟨rfl, rfl⟩)) kA_long dX2_init_7 (fun a1 S2 => ?_)
  refine X_putR kF_X2_11 (Or.inr ⟨_, rfl⟩) (Or.inr ⟨rfl, rfl, rfl⟩) dX2_init_9 (fun S3 => ?_)
  exact X_vret rfl dX2_init_12
set_option maxRecDepth 100000 in
theorem kC_X2_init : g_okC M_X2_init 0 := And.intro (g_t (i := 65) rfl (by decide +kernel)) (And.intro (g_nd nd_0_ok (k := 19) rfl) (And.intro (by decide) (And.intro (by decide) (by decide +kernel))))
def M_X0_act : gM := (yX0_act, cX0_act, 1, some .boolean, 0, 0)
def f_X0_act (S : gS) (a0 : Nat) : Option (Int32 × gS) :=
g_getI S 0 2 a0 fun x1 =>
if x1 = (1 : Int32) then (
g_putI S 0 2 a0 (0 : Int32) fun S2 =>
g_putZ S2 0 0 a0 (1 : Int32) fun S3 =>
some ((0 : Int32), S3))
else (
g_getI S 0 2 a0 fun x4 =>
g_jn (fun (S5 : gS) => (
g_getI S5 0 3 a0 fun x7 =>
g_putI S5 0 3 a0 (x7 + (1 : Int32)) fun S8 =>
g_getI S8 0 4 a0 fun x9 =>
g_putI S8 0 4 a0 (x9 + (1 : Int32)) fun S10 =>
some ((1 : Int32), S10))) fun jb6 => (
if x4 ≤ 0 then (
jb6 S)
else (
g_getI S 0 2 a0 fun x11 =>
g_putI S 0 2 a0 (x11 - (1 : Int32)) fun S12 =>
jb6 S12)))
set_option maxRecDepth 100000 in
set_option maxHeartbeats 4000000 in
theorem c_X0_act (E : gE) (S : gS) (a0 : Nat) : gC gI E M_X0_act [.ref a0] S (f_X0_act S a0) := by
  refine gC.of (by decide) (Nat.le_of_ble_eq_true rfl) ?_
  unfold f_X0_act
  show gJ gI E M_X0_act _ _ 0 [(0, .ref a0)] [] S _
  refine X_aload_n 0 dX0_act_0 rfl rfl ?_
  refine X_getI kF_X0_13 rfl dX0_act_1 (fun x1 => ?_)
  refine X_iconst (v := (1 : Int32)) dX0_act_4 (by decide) ?_
  refine X_icmp_ne (tgt := 20) dX0_act_5 (by decide) ?_ ?_
  · skip
    refine X_aload_n 0 dX0_act_8 rfl rfl ?_
    refine X_iconst (v := (0 : Int32)) dX0_act_9 (by decide) ?_
    refine X_putI kF_X0_13 rfl rfl dX0_act_10 (fun S2 => ?_)
    refine X_aload_n 0 dX0_act_13 rfl rfl ?_
    refine X_iconst (v := (1 : Int32)) dX0_act_14 (by decide) ?_
    refine X_putZ kF_X0_16 rfl rfl dX0_act_15 (fun S3 => ?_)
    refine X_iconst (v := (0 : Int32)) dX0_act_18 (by decide) ?_
    exact X_z0 rfl dX0_act_19
  · skip
    refine X_aload_n 0 dX0_act_20 rfl rfl ?_
    refine X_getI kF_X0_13 rfl dX0_act_21 (fun x4 => ?_)
    refine X_jn (fun (j : gS → Option (Int32 × gS)) => ∀ (S5 : gS), gJ gI E M_X0_act (gn S) (gsl S) 37 [(0, .ref a0)] [] S5 (j S5)) ?_ (fun jb6 hjb6 => ?_)
    · intro S5
      refine X_aload_n 0 dX0_act_37 rfl rfl ?_
      refine X_dup dX0_act_38 rfl ?_
      refine X_getI kF_X0_20 rfl dX0_act_39 (fun x7 => ?_)
      refine X_iconst (v := (1 : Int32)) dX0_act_42 (by decide) ?_
      refine X_iadd dX0_act_43 ?_
      refine X_putI kF_X0_20 rfl rfl dX0_act_44 (fun S8 => ?_)
      refine X_aload_n 0 dX0_act_47 rfl rfl ?_
      refine X_dup dX0_act_48 rfl ?_
      refine X_getI kF_X0_7 rfl dX0_act_49 (fun x9 => ?_)
      refine X_iconst (v := (1 : Int32)) dX0_act_52 (by decide) ?_
      refine X_iadd dX0_act_53 ?_
      refine X_putI kF_X0_7 rfl rfl dX0_act_54 (fun S10 => ?_)
      refine X_iconst (v := (1 : Int32)) dX0_act_57 (by decide) ?_
      exact X_z1 rfl dX0_act_58
    · skip
      refine X_if_le (tgt := 37) dX0_act_24 (by decide) ?_ ?_
      · skip
        exact (hjb6 _)
      · skip
        refine X_aload_n 0 dX0_act_27 rfl rfl ?_
        refine X_dup dX0_act_28 rfl ?_
        refine X_getI kF_X0_13 rfl dX0_act_29 (fun x11 => ?_)
        refine X_iconst (v := (1 : Int32)) dX0_act_32 (by decide) ?_
        refine X_isub dX0_act_33 ?_
        refine X_putI kF_X0_13 rfl rfl dX0_act_34 (fun S12 => ?_)
        exact (hjb6 _)
set_option maxRecDepth 100000 in
theorem kC_X0_act : g_okC M_X0_act 0 := And.intro (g_t (i := 314) rfl (by decide +kernel)) (And.intro (g_nd nd_4_ok (k := 16) rfl) (And.intro (by decide) (And.intro (by decide) (by decide +kernel))))
def M_X0_actTimes : gM := (yX0_actTimes, cX0_actTimes, 3, some .boolean, 1, 20)
def l_X0_actTimes_2 (u0 : Nat) (u1 : Int32) : Nat → gS → Int32 → Option (Int32 × gS)
  | 0, _, _ => none
  | n + 1, S, u2 =>
    if u1 ≤ u2 then (
    some ((1 : Int32), S))
    else (
    g_cVI S 0 u0 (f_X0_act S u0) fun x2 S1 =>
    if x2 = 0 then (
    some ((0 : Int32), S1))
    else (
    l_X0_actTimes_2 u0 u1 n S1 (u2 + (1 : Int32)) ))
def f_X0_actTimes (S : gS) (a0 : Nat) (p1 : Int32) : Option (Int32 × gS) :=
l_X0_actTimes_2 a0 p1 100 S (0 : Int32) 
set_option maxRecDepth 100000 in
set_option maxHeartbeats 4000000 in
theorem j_X0_actTimes_2 (E : gE) {n0 s0 : Nat} (u0 : Nat) (u1 : Int32) : ∀ (n : Nat) (S : gS) (u2 : Int32), gJ gI E M_X0_actTimes n0 s0 2 [(0, .ref u0), (1, .int u1), (2, .int u2)] [] S (l_X0_actTimes_2 u0 u1 n S u2 ) := by
  intro n
  induction n with
  | zero =>
    intros
    rw [l_X0_actTimes_2]
    exact gJ.none
  | succ n ih =>
    intro S u2  
    rw [l_X0_actTimes_2]
    refine X_iload_n 2 dX0_actTimes_2 rfl rfl ?_
    refine X_iload_n 1 dX0_actTimes_3 rfl rfl ?_
    refine X_icmp_ge (tgt := 22) dX0_actTimes_4 (by decide) ?_ ?_
    · skip
      refine X_iconst (v := (1 : Int32)) dX0_actTimes_22 (by decide) ?_
      exact X_z1 rfl dX0_actTimes_23
    · skip
      refine X_aload_n 0 dX0_actTimes_7 rfl rfl ?_
      refine X_callVI (ci := 0) (As := []) (st := []) (c_X0_act E S u0) (by decide) rfl kC_X0_act kL_X0_23 kI_X0_act kE_X0_act (by unfold g_okR; decide) rfl (Nat.le_of_ble_eq_true rfl) dX0_actTimes_8 (fun x2 S1 => ?_)
      refine X_if_ne (tgt := 16) dX0_actTimes_11 (by decide) ?_ ?_
      · skip
        refine X_iconst (v := (0 : Int32)) dX0_actTimes_14 (by decide) ?_
        exact X_z0 rfl dX0_actTimes_15
      · skip
        refine X_iinc (k := 2) (x := u2) (v := (1 : Int32)) (lv2 := [(2, .int (u2 + (1 : Int32))), (0, .ref u0), (1, .int u1)]) dX0_actTimes_16 rfl (by decide) (by decide) rfl ?_
        refine X_goto (tgt := 2) dX0_actTimes_19 (by decide) ?_
        exact X_sub [1, 2, 0] rfl (ih _ _)
set_option maxRecDepth 100000 in
set_option maxHeartbeats 4000000 in
theorem c_X0_actTimes (E : gE) (S : gS) (a0 : Nat) (p1 : Int32) : gC gI E M_X0_actTimes [.ref a0, .int p1] S (f_X0_actTimes S a0 p1) := by
  refine gC.of (by decide) (Nat.le_of_ble_eq_true rfl) ?_
  unfold f_X0_actTimes
  show gJ gI E M_X0_actTimes _ _ 0 [(0, .ref a0), (1, .int p1)] [] S _
  refine X_iconst (v := (0 : Int32)) dX0_actTimes_0 (by decide) ?_
  refine X_istore_n (lv2 := [(2, .int (0 : Int32)), (0, .ref a0), (1, .int p1)]) dX0_actTimes_1 rfl (by decide) rfl ?_
  exact X_sub [1, 2, 0] rfl (j_X0_actTimes_2 E a0 p1 100 _ _)
set_option maxRecDepth 100000 in
theorem kC_X0_actTimes : g_okC M_X0_actTimes 1 := And.intro (g_t (i := 426) rfl (by decide +kernel)) (And.intro (g_nd nd_4_ok (k := 16) rfl) (And.intro (by decide) (And.intro (by decide) (by decide +kernel))))
def M_X0_startCall : gM := (yX0_startCall, cX0_startCall, 1, none, 0, 0)
def f_X0_startCall (S : gS) (a0 : Nat) : Option (gS) :=
g_putI S 0 4 a0 (0 : Int32) fun S1 =>
some S1
set_option maxRecDepth 100000 in
set_option maxHeartbeats 4000000 in
theorem c_X0_startCall (E : gE) (S : gS) (a0 : Nat) : gC gV E M_X0_startCall [.ref a0] S (f_X0_startCall S a0) := by
  refine gC.of (by decide) (Nat.le_of_ble_eq_true rfl) ?_
  unfold f_X0_startCall
  show gJ gV E M_X0_startCall _ _ 0 [(0, .ref a0)] [] S _
  refine X_aload_n 0 dX0_startCall_0 rfl rfl ?_
  refine X_iconst (v := (0 : Int32)) dX0_startCall_1 (by decide) ?_
  refine X_putI kF_X0_7 rfl rfl dX0_startCall_2 (fun S1 => ?_)
  exact X_vret rfl dX0_startCall_5
set_option maxRecDepth 100000 in
theorem kC_X0_startCall : g_okC M_X0_startCall 0 := And.intro (g_t (i := 302) rfl (by decide +kernel)) (And.intro (g_nd nd_4_ok (k := 16) rfl) (And.intro (by decide) (And.intro (by decide) (by decide +kernel))))
def M_X2_copyFrom : gM := (yX2_copyFrom, cX2_copyFrom, 2, none, 1, 26)
def f_X2_copyFrom (S : gS) (a0 : Nat) (p1 : Nat) : Option (gS) :=
g_getR S 2 0 p1 fun a1 =>
g_getR S 2 0 a0 fun a2 =>
g_getR S 2 0 a0 fun a3 =>
g_alen S 11 a3 fun x4 =>
g_cpL S a1 (0 : Int32) a2 (0 : Int32) x4 fun S5 =>
some S5
set_option maxRecDepth 100000 in
set_option maxHeartbeats 4000000 in
theorem c_X2_copyFrom (E : gE) (S : gS) (a0 : Nat) (p1 : Nat) : gC gV E M_X2_copyFrom [.ref a0, .ref p1] S (f_X2_copyFrom S a0 p1) := by
  refine gC.of (by decide) (Nat.le_of_ble_eq_true rfl) ?_
  unfold f_X2_copyFrom
  show gJ gV E M_X2_copyFrom _ _ 0 [(0, .ref a0), (1, .ref p1)] [] S _
  refine X_aload_n 1 dX2_copyFrom_0 rfl rfl ?_
  refine X_getR kF_X2_11 rfl dX2_copyFrom_1 (fun a1 => ?_)
  refine X_iconst (v := (0 : Int32)) dX2_copyFrom_4 (by decide) ?_
  refine X_aload_n 0 dX2_copyFrom_5 rfl rfl ?_
  refine X_getR kF_X2_11 rfl dX2_copyFrom_6 (fun a2 => ?_)
  refine X_iconst (v := (0 : Int32)) dX2_copyFrom_9 (by decide) ?_
  refine X_aload_n 0 dX2_copyFrom_10 rfl rfl ?_
  refine X_getR kF_X2_11 rfl dX2_copyFrom_11 (fun a3 => ?_)
  refine X_alen (Or.inr (Or.inl rfl)) dX2_copyFrom_14 (fun x4 => ?_)
  refine X_cpL kL_X2_15 kN_copy kS_copy kJ_System (by decide) (Nat.le_of_ble_eq_true rfl) dX2_copyFrom_15 (fun S5 => ?_)
  exact X_vret rfl dX2_copyFrom_18
set_option maxRecDepth 100000 in
theorem kC_X2_copyFrom : g_okC M_X2_copyFrom 1 := And.intro (g_t (i := 404) rfl (by decide +kernel)) (And.intro (g_nd nd_0_ok (k := 19) rfl) (And.intro (by decide) (And.intro (by decide) (by decide +kernel))))
def M_X2_numberAt : gM := (yX2_numberAt, cX2_numberAt, 2, some .long, 0, 0)
def f_X2_numberAt (S : gS) (a0 : Nat) (p1 : Int32) : Option (Int64 × gS) :=
g_getR S 2 0 a0 fun a1 =>
g_ldL S a1 (p1 * (4 : Int32)) fun x2 =>
some (x2, S)
set_option maxRecDepth 100000 in
set_option maxHeartbeats 4000000 in
theorem c_X2_numberAt (E : gE) (S : gS) (a0 : Nat) (p1 : Int32) : gC gL E M_X2_numberAt [.ref a0, .int p1] S (f_X2_numberAt S a0 p1) := by
  refine gC.of (by decide) (Nat.le_of_ble_eq_true rfl) ?_
  unfold f_X2_numberAt
  show gJ gL E M_X2_numberAt _ _ 0 [(0, .ref a0), (1, .int p1)] [] S _
  refine X_aload_n 0 dX2_numberAt_0 rfl rfl ?_
  refine X_getR kF_X2_11 rfl dX2_numberAt_1 (fun a1 => ?_)
  refine X_iload_n 1 dX2_numberAt_4 rfl rfl ?_
  refine X_iconst (v := (4 : Int32)) dX2_numberAt_5 (by decide) ?_
  refine X_imul dX2_numberAt_6 ?_
  refine X_lald dX2_numberAt_7 (fun x2 => ?_)
  exact X_lret rfl dX2_numberAt_8
set_option maxRecDepth 100000 in
theorem kC_X2_numberAt : g_okC M_X2_numberAt 1 := And.intro (g_t (i := 285) rfl (by decide +kernel)) (And.intro (g_nd nd_0_ok (k := 19) rfl) (And.intro (by decide) (And.intro (by decide) (by decide +kernel))))
def M_X2_letterAt : gM := (yX2_letterAt, cX2_letterAt, 5, some .int, 0, 0)
def f_X2_letterAt (S : gS) (a0 : Nat) (p1 : Int32) (p2 : Int32) : Option (Int32 × gS) :=
g_getR S 2 0 a0 fun a1 =>
g_ldL S a1 (((p1 * (4 : Int32)) + (1 : Int32)) + (p2 / (8 : Int32))) fun x2 =>
some ((((((x2).toUInt64 >>> ((((8 : Int32) * (p2 - p2 / (8 : Int32) * (8 : Int32)))).toInt64.toUInt64 &&& Int64.toUInt64 63)).toInt64)).toInt32 &&& (255 : Int32)), S)
set_option maxRecDepth 100000 in
set_option maxHeartbeats 4000000 in
theorem c_X2_letterAt (E : gE) (S : gS) (a0 : Nat) (p1 : Int32) (p2 : Int32) : gC gI E M_X2_letterAt [.ref a0, .int p1, .int p2] S (f_X2_letterAt S a0 p1 p2) := by
  refine gC.of (by decide) (Nat.le_of_ble_eq_true rfl) ?_
  unfold f_X2_letterAt
  show gJ gI E M_X2_letterAt _ _ 0 [(0, .ref a0), (1, .int p1), (2, .int p2)] [] S _
  refine X_aload_n 0 dX2_letterAt_0 rfl rfl ?_
  refine X_getR kF_X2_11 rfl dX2_letterAt_1 (fun a1 => ?_)
  refine X_iload_n 1 dX2_letterAt_4 rfl rfl ?_
  refine X_iconst (v := (4 : Int32)) dX2_letterAt_5 (by decide) ?_
  refine X_imul dX2_letterAt_6 ?_
  refine X_iconst (v := (1 : Int32)) dX2_letterAt_7 (by decide) ?_
  refine X_iadd dX2_letterAt_8 ?_
  refine X_iload_n 2 dX2_letterAt_9 rfl rfl ?_
  refine X_bipush (v := (8 : Int32)) dX2_letterAt_10 (by decide) ?_
  refine X_idiv dX2_letterAt_12 (by decide) ?_
  refine X_iadd dX2_letterAt_13 ?_
  refine X_lald dX2_letterAt_14 (fun x2 => ?_)
  refine X_lstore_n (lv2 := [(3, .long x2), (0, .ref a0), (1, .int p1), (2, .int p2)]) dX2_letterAt_15 rfl (by decide) rfl ?_
  refine X_lload_n 0 dX2_letterAt_16 rfl rfl ?_
  refine X_bipush (v := (8 : Int32)) dX2_letterAt_17 (by decide) ?_
  refine X_iload_n 3 dX2_letterAt_19 rfl rfl ?_
  refine X_bipush (v := (8 : Int32)) dX2_letterAt_20 (by decide) ?_
  refine X_irem dX2_letterAt_22 (by decide) ?_
  refine X_imul dX2_letterAt_23 ?_
  refine X_lushr dX2_letterAt_24 ?_
  refine X_l2i dX2_letterAt_25 ?_
  refine X_sipush (v := (255 : Int32)) dX2_letterAt_26 (by decide) ?_
  refine X_iand dX2_letterAt_29 ?_
  exact X_iret rfl dX2_letterAt_30
set_option maxRecDepth 100000 in
theorem kC_X2_letterAt : g_okC M_X2_letterAt 2 := And.intro (g_t (i := 377) rfl (by decide +kernel)) (And.intro (g_nd nd_0_ok (k := 19) rfl) (And.intro (by decide) (And.intro (by decide) (by decide +kernel))))
def M_X2_numberTold : gM := (yX2_numberTold, cX2_numberTold, 8, some .long, 1, 24)
def l_X2_numberTold_51 (u0 : Nat) (u1 : Int32) (u2 : Int32) (u3 : Int32) : Nat → gS → Int64 → Int32 → (gS → Int64 → Int32 → Option (Int64 × gS)) → Option (Int64 × gS)
  | 0, _, _, _, _ => none
  | n + 1, S, u4, u6, K1 =>
    if u2 ≤ u6 then (
    K1 S u4 u6)
    else (
    g_cVI S 2 u0 (f_X2_letterAt S u0 u1 u6) fun x8 S7 =>
    if x8 < (48 : Int32) then (
    some ((0 : Int64), S7))
    else (
    if x8 ≤ (57 : Int32) then (
    g_lt (((10 : Int64) * u4) + ((x8 - (48 : Int32))).toInt64) fun x9 =>
    l_X2_numberTold_51 u0 u1 u2 u3 n S7 x9 (u6 + (1 : Int32)) K1)
    else (
    some ((0 : Int64), S7))))
def f_X2_numberTold (S : gS) (a0 : Nat) (p1 : Int32) : Option (Int64 × gS) :=
g_cVL S 2 a0 (f_X2_numberAt S a0 p1) fun x2 S1 =>
g_lt (x2).toInt32 fun x3 =>
g_jn (fun (S4 : gS) (w5 : Int32) => (
if (x3 - w5) < (1 : Int32) then (
some ((0 : Int64), S4))
else (
if (x3 - w5) ≤ (18 : Int32) then (
l_X2_numberTold_51 a0 p1 x3 w5 100 S4 (0 : Int64) w5 (fun S10 v11 v12 => (
if w5 = (1 : Int32) then (
some ((-v11), S10))
else (
some (v11, S10)))))
else (
some ((0 : Int64), S4))))) fun jb6 => (
g_jn (fun (S13 : gS) => (
jb6 S13 (0 : Int32))) fun jb14 => (
if x3 ≤ 0 then (
jb14 S1)
else (
g_cVI S1 2 a0 (f_X2_letterAt S1 a0 p1 (0 : Int32)) fun x16 S15 =>
if x16 = (45 : Int32) then (
jb6 S15 (1 : Int32))
else (
jb14 S15))))
set_option maxRecDepth 100000 in
set_option maxHeartbeats 4000000 in
theorem j_X2_numberTold_51 (E : gE) {n0 s0 : Nat} (u0 : Nat) (u1 : Int32) (u2 : Int32) (u3 : Int32) : ∀ (n : Nat) (S : gS) (u4 : Int64) (u6 : Int32) (K1 : (gS → Int64 → Int32 → Option (Int64 × gS))), (∀ (S : gS) (u4 : Int64) (u6 : Int32), gJ gL E M_X2_numberTold n0 s0 103 [(0, .ref u0), (1, .int u1), (2, .int u2), (3, .int u3), (4, .long u4), (6, .int u6)] [] S (K1 S u4 u6)) → gJ gL E M_X2_numberTold n0 s0 51 [(0, .ref u0), (1, .int u1), (2, .int u2), (3, .int u3), (4, .long u4), (6, .int u6)] [] S (l_X2_numberTold_51 u0 u1 u2 u3 n S u4 u6 K1) := by
  intro n
  induction n with
  | zero =>
    intros
    rw [l_X2_numberTold_51]
    exact gJ.none
  | succ n ih =>
    intro S u4 u6 K1 hK1
    rw [l_X2_numberTold_51]
    refine X_iload 5 dX2_numberTold_51 rfl ?_
    refine X_iload_n 2 dX2_numberTold_53 rfl rfl ?_
    refine X_icmp_ge (tgt := 103) dX2_numberTold_54 (by decide) ?_ ?_
    · skip
      exact (hK1 _ _ _)
    · skip
      refine X_aload_n 0 dX2_numberTold_57 rfl rfl ?_
      refine X_iload_n 1 dX2_numberTold_58 rfl rfl ?_
      refine X_iload 5 dX2_numberTold_59 rfl ?_
      refine X_callVI (ci := 2) (As := [.int u1, .int u6]) (st := []) (c_X2_letterAt E S u0 u1 u6) (by decide) rfl kC_X2_letterAt kL_X2_59 kI_X2_letterAt kE_X2_letterAt (by unfold g_okR; decide) rfl (Nat.le_of_ble_eq_true rfl) dX2_numberTold_61 (fun x8 S7 => ?_)
      refine X_istore (lv2 := [(7, .int x8), (0, .ref u0), (1, .int u1), (2, .int u2), (3, .int u3), (4, .long u4), (6, .int u6)]) dX2_numberTold_64 (by decide) rfl ?_
      refine X_iload 0 dX2_numberTold_66 rfl ?_
      refine X_bipush (v := (48 : Int32)) dX2_numberTold_68 (by decide) ?_
      refine X_icmp_lt (tgt := 80) dX2_numberTold_70 (by decide) ?_ ?_
      · skip
        refine X_lconst (v := (0 : Int64)) dX2_numberTold_80 (by decide) ?_
        exact X_lret rfl dX2_numberTold_81
      · skip
        refine X_iload 0 dX2_numberTold_73 rfl ?_
        refine X_bipush (v := (57 : Int32)) dX2_numberTold_75 (by decide) ?_
        refine X_icmp_le (tgt := 82) dX2_numberTold_77 (by decide) ?_ ?_
        · skip
          refine X_ldc2 (v := (10 : Int64)) kK_X2_63 dX2_numberTold_82 ?_
          refine X_lload 5 dX2_numberTold_85 rfl ?_
          refine X_lmul dX2_numberTold_87 ?_
          refine X_iload 0 dX2_numberTold_88 rfl ?_
          refine X_bipush (v := (48 : Int32)) dX2_numberTold_90 (by decide) ?_
          refine X_isub dX2_numberTold_92 ?_
          refine X_i2l dX2_numberTold_93 ?_
          refine X_ladd dX2_numberTold_94 ?_
          refine X_topL (fun x9 => ?_)
          refine X_lstore (lv2 := [(4, .long x9), (7, .int x8), (0, .ref u0), (1, .int u1), (2, .int u2), (3, .int u3), (6, .int u6)]) dX2_numberTold_95 (by decide) rfl ?_
          refine X_iinc (k := 6) (x := u6) (v := (1 : Int32)) (lv2 := [(6, .int (u6 + (1 : Int32))), (4, .long x9), (7, .int x8), (0, .ref u0), (1, .int u1), (2, .int u2), (3, .int u3)]) dX2_numberTold_97 rfl (by decide) (by decide) rfl ?_
          refine X_goto (tgt := 51) dX2_numberTold_100 (by decide) ?_
          exact X_sub [3, 4, 5, 6, 1, 0] rfl (ih _ _ _ _ hK1)
        · skip
          refine X_lconst (v := (0 : Int64)) dX2_numberTold_80 (by decide) ?_
          exact X_lret rfl dX2_numberTold_81
set_option maxRecDepth 100000 in
set_option maxHeartbeats 4000000 in
theorem c_X2_numberTold (E : gE) (S : gS) (a0 : Nat) (p1 : Int32) : gC gL E M_X2_numberTold [.ref a0, .int p1] S (f_X2_numberTold S a0 p1) := by
  refine gC.of (by decide) (Nat.le_of_ble_eq_true rfl) ?_
  unfold f_X2_numberTold
  show gJ gL E M_X2_numberTold _ _ 0 [(0, .ref a0), (1, .int p1)] [] S _
  refine X_aload_n 0 dX2_numberTold_0 rfl rfl ?_
  refine X_iload_n 1 dX2_numberTold_1 rfl rfl ?_
  refine X_callVL (ci := 2) (As := [.int p1]) (st := []) (c_X2_numberAt E S a0 p1) (by decide) rfl kC_X2_numberAt kL_X2_36 kI_X2_numberAt kE_X2_numberAt (by unfold g_okR; decide) rfl (Nat.le_of_ble_eq_true rfl) dX2_numberTold_2 (fun x2 S1 => ?_)
  refine X_l2i dX2_numberTold_5 ?_
  refine X_topI (fun x3 => ?_)
  refine X_istore_n (lv2 := [(2, .int x3), (0, .ref a0), (1, .int p1)]) dX2_numberTold_6 rfl (by decide) rfl ?_
  refine X_iload_n 0 dX2_numberTold_7 rfl rfl ?_
  refine X_jn (fun (j : gS → Int32 → Option (Int64 × gS)) => ∀ (S4 : gS) (w5 : Int32), gJ gL E M_X2_numberTold (gn S) (gsl S) 27 [(0, .ref a0), (1, .int p1), (2, .int x3)] [.int w5] S4 (j S4 w5)) ?_ (fun jb6 hjb6 => ?_)
  · intro S4 w5
    refine X_istore_n (lv2 := [(3, .int w5), (0, .ref a0), (1, .int p1), (2, .int x3)]) dX2_numberTold_27 rfl (by decide) rfl ?_
    refine X_iload_n 3 dX2_numberTold_28 rfl rfl ?_
    refine X_iload_n 0 dX2_numberTold_29 rfl rfl ?_
    refine X_isub dX2_numberTold_30 ?_
    refine X_iconst (v := (1 : Int32)) dX2_numberTold_31 (by decide) ?_
    refine X_icmp_lt (tgt := 43) dX2_numberTold_32 (by decide) ?_ ?_
    · skip
      refine X_lconst (v := (0 : Int64)) dX2_numberTold_43 (by decide) ?_
      exact X_lret rfl dX2_numberTold_44
    · skip
      refine X_iload_n 3 dX2_numberTold_35 rfl rfl ?_
      refine X_iload_n 0 dX2_numberTold_36 rfl rfl ?_
      refine X_isub dX2_numberTold_37 ?_
      refine X_bipush (v := (18 : Int32)) dX2_numberTold_38 (by decide) ?_
      refine X_icmp_le (tgt := 45) dX2_numberTold_40 (by decide) ?_ ?_
      · skip
        refine X_lconst (v := (0 : Int64)) dX2_numberTold_45 (by decide) ?_
        refine X_lstore (lv2 := [(4, .long (0 : Int64)), (3, .int w5), (0, .ref a0), (1, .int p1), (2, .int x3)]) dX2_numberTold_46 (by decide) rfl ?_
        refine X_iload_n 1 dX2_numberTold_48 rfl rfl ?_
        refine X_istore (lv2 := [(6, .int w5), (4, .long (0 : Int64)), (3, .int w5), (0, .ref a0), (1, .int p1), (2, .int x3)]) dX2_numberTold_49 (by decide) rfl ?_
        refine X_sub [3, 4, 5, 2, 1, 0] rfl (j_X2_numberTold_51 E a0 p1 x3 w5 100 _ _ _ _ (fun S10 v11 v12 => ?_))
        refine X_iload_n 3 dX2_numberTold_103 rfl rfl ?_
        refine X_iconst (v := (1 : Int32)) dX2_numberTold_104 (by decide) ?_
        refine X_icmp_ne (tgt := 114) dX2_numberTold_105 (by decide) ?_ ?_
        · skip
          refine X_lload 4 dX2_numberTold_108 rfl ?_
          refine X_lneg dX2_numberTold_110 ?_
          refine X_goto (tgt := 116) dX2_numberTold_111 (by decide) ?_
          exact X_lret rfl dX2_numberTold_116
        · skip
          refine X_lload 4 dX2_numberTold_114 rfl ?_
          exact X_lret rfl dX2_numberTold_116
      · skip
        refine X_lconst (v := (0 : Int64)) dX2_numberTold_43 (by decide) ?_
        exact X_lret rfl dX2_numberTold_44
  · skip
    refine X_jn (fun (j : gS → Option (Int64 × gS)) => ∀ (S13 : gS), gJ gL E M_X2_numberTold (gn S) (gsl S) 26 [(0, .ref a0), (1, .int p1), (2, .int x3)] [] S13 (j S13)) ?_ (fun jb14 hjb14 => ?_)
    · intro S13
      refine X_iconst (v := (0 : Int32)) dX2_numberTold_26 (by decide) ?_
      exact (hjb6 _ _)
    · skip
      refine X_if_le (tgt := 26) dX2_numberTold_8 (by decide) ?_ ?_
      · skip
        exact X_sub [1, 2, 0] rfl (hjb14 _)
      · skip
        refine X_aload_n 1 dX2_numberTold_11 rfl rfl ?_
        refine X_iload_n 2 dX2_numberTold_12 rfl rfl ?_
        refine X_iconst (v := (0 : Int32)) dX2_numberTold_13 (by decide) ?_
        refine X_callVI (ci := 2) (As := [.int p1, .int (0 : Int32)]) (st := []) (c_X2_letterAt E S1 a0 p1 (0 : Int32)) (by decide) rfl kC_X2_letterAt kL_X2_59 kI_X2_letterAt kE_X2_letterAt (by unfold g_okR; decide) rfl (Nat.le_of_ble_eq_true rfl) dX2_numberTold_14 (fun x16 S15 => ?_)
        refine X_bipush (v := (45 : Int32)) dX2_numberTold_17 (by decide) ?_
        refine X_icmp_ne (tgt := 26) dX2_numberTold_19 (by decide) ?_ ?_
        · skip
          refine X_iconst (v := (1 : Int32)) dX2_numberTold_22 (by decide) ?_
          refine X_goto (tgt := 27) dX2_numberTold_23 (by decide) ?_
          exact X_sub [1, 2, 0] rfl (hjb6 _ _)
        · skip
          exact X_sub [1, 2, 0] rfl (hjb14 _)
set_option maxRecDepth 100000 in
theorem kC_X2_numberTold : g_okC M_X2_numberTold 1 := And.intro (g_t (i := 372) rfl (by decide +kernel)) (And.intro (g_nd nd_0_ok (k := 19) rfl) (And.intro (by decide) (And.intro (by decide) (by decide +kernel))))
def M_X2_appendLetter : gM := (yX2_appendLetter, cX2_appendLetter, 5, none, 0, 0)
def f_X2_appendLetter (S : gS) (a0 : Nat) (p1 : Int32) (p2 : Int32) : Option (gS) :=
g_lt (p1 * (4 : Int32)) fun x1 =>
g_getR S 2 0 a0 fun a2 =>
g_ldL S a2 x1 fun x3 =>
g_lt (x3).toInt32 fun x4 =>
if x4 < 0 then (
some S)
else (
if x4 < (24 : Int32) then (
g_getR S 2 0 a0 fun a5 =>
g_ldL S a5 ((x1 + (1 : Int32)) + (x4 / (8 : Int32))) fun x6 =>
g_stL S a5 ((x1 + (1 : Int32)) + (x4 / (8 : Int32))) (x6 ||| ((p2).toInt64 <<< ((((8 : Int32) * (x4 - x4 / (8 : Int32) * (8 : Int32)))).toInt64 &&& 63))) fun S7 =>
g_getR S7 2 0 a0 fun a8 =>
g_stL S7 a8 x1 ((x4 + (1 : Int32))).toInt64 fun S9 =>
some S9)
else (
some S))
set_option maxRecDepth 100000 in
set_option maxHeartbeats 4000000 in
theorem c_X2_appendLetter (E : gE) (S : gS) (a0 : Nat) (p1 : Int32) (p2 : Int32) : gC gV E M_X2_appendLetter [.ref a0, .int p1, .int p2] S (f_X2_appendLetter S a0 p1 p2) := by
  refine gC.of (by decide) (Nat.le_of_ble_eq_true rfl) ?_
  unfold f_X2_appendLetter
  show gJ gV E M_X2_appendLetter _ _ 0 [(0, .ref a0), (1, .int p1), (2, .int p2)] [] S _
  refine X_iload_n 1 dX2_appendLetter_0 rfl rfl ?_
  refine X_iconst (v := (4 : Int32)) dX2_appendLetter_1 (by decide) ?_
  refine X_imul dX2_appendLetter_2 ?_
  refine X_topI (fun x1 => ?_)
  refine X_istore_n (lv2 := [(3, .int x1), (0, .ref a0), (1, .int p1), (2, .int p2)]) dX2_appendLetter_3 rfl (by decide) rfl ?_
  refine X_aload_n 1 dX2_appendLetter_4 rfl rfl ?_
  refine X_getR kF_X2_11 rfl dX2_appendLetter_5 (fun a2 => ?_)
  refine X_iload_n 0 dX2_appendLetter_8 rfl rfl ?_
  refine X_lald dX2_appendLetter_9 (fun x3 => ?_)
  refine X_l2i dX2_appendLetter_10 ?_
  refine X_topI (fun x4 => ?_)
  refine X_istore (lv2 := [(4, .int x4), (3, .int x1), (0, .ref a0), (1, .int p1), (2, .int p2)]) dX2_appendLetter_11 (by decide) rfl ?_
  refine X_iload 0 dX2_appendLetter_13 rfl ?_
  refine X_if_lt (tgt := 25) dX2_appendLetter_15 (by decide) ?_ ?_
  · skip
    exact X_vret rfl dX2_appendLetter_25
  · skip
    refine X_iload 0 dX2_appendLetter_18 rfl ?_
    refine X_bipush (v := (24 : Int32)) dX2_appendLetter_20 (by decide) ?_
    refine X_icmp_lt (tgt := 26) dX2_appendLetter_22 (by decide) ?_ ?_
    · skip
      refine X_aload_n 2 dX2_appendLetter_26 rfl rfl ?_
      refine X_getR kF_X2_11 rfl dX2_appendLetter_27 (fun a5 => ?_)
      refine X_iload_n 1 dX2_appendLetter_30 rfl rfl ?_
      refine X_iconst (v := (1 : Int32)) dX2_appendLetter_31 (by decide) ?_
      refine X_iadd dX2_appendLetter_32 ?_
      refine X_iload 0 dX2_appendLetter_33 rfl ?_
      refine X_bipush (v := (8 : Int32)) dX2_appendLetter_35 (by decide) ?_
      refine X_idiv dX2_appendLetter_37 (by decide) ?_
      refine X_iadd dX2_appendLetter_38 ?_
      refine X_dup2 dX2_appendLetter_39 rfl rfl ?_
      refine X_lald dX2_appendLetter_40 (fun x6 => ?_)
      refine X_iload_n 4 dX2_appendLetter_41 rfl rfl ?_
      refine X_i2l dX2_appendLetter_42 ?_
      refine X_bipush (v := (8 : Int32)) dX2_appendLetter_43 (by decide) ?_
      refine X_iload 0 dX2_appendLetter_45 rfl ?_
      refine X_bipush (v := (8 : Int32)) dX2_appendLetter_47 (by decide) ?_
      refine X_irem dX2_appendLetter_49 (by decide) ?_
      refine X_imul dX2_appendLetter_50 ?_
      refine X_lshl dX2_appendLetter_51 ?_
      refine X_lor dX2_appendLetter_52 ?_
      refine X_last dX2_appendLetter_53 (fun S7 => ?_)
      refine X_aload_n 2 dX2_appendLetter_54 rfl rfl ?_
      refine X_getR kF_X2_11 rfl dX2_appendLetter_55 (fun a8 => ?_)
      refine X_iload_n 1 dX2_appendLetter_58 rfl rfl ?_
      refine X_iload 0 dX2_appendLetter_59 rfl ?_
      refine X_iconst (v := (1 : Int32)) dX2_appendLetter_61 (by decide) ?_
      refine X_iadd dX2_appendLetter_62 ?_
      refine X_i2l dX2_appendLetter_63 ?_
      refine X_last dX2_appendLetter_64 (fun S9 => ?_)
      exact X_vret rfl dX2_appendLetter_65
    · skip
      exact X_vret rfl dX2_appendLetter_25
set_option maxRecDepth 100000 in
theorem kC_X2_appendLetter : g_okC M_X2_appendLetter 2 := And.intro (g_t (i := 293) rfl (by decide +kernel)) (And.intro (g_nd nd_0_ok (k := 19) rfl) (And.intro (by decide) (And.intro (by decide) (by decide +kernel))))
def M_X2_setNumber : gM := (yX2_setNumber, cX2_setNumber, 6, none, 0, 0)
def l_X2_setNumber_16 (u0 : Nat) (u1 : Int32) (u2 : Int64) (u4 : Int32) : Nat → gS → Int32 → Option (gS)
  | 0, _, _ => none
  | n + 1, S, u5 =>
    if (4 : Int32) ≤ u5 then (
    some S)
    else (
    g_getR S 2 0 u0 fun a4 =>
    g_stL S a4 (u4 + u5) (0 : Int64) fun S5 =>
    l_X2_setNumber_16 u0 u1 u2 u4 n S5 (u5 + (1 : Int32)) )
def f_X2_setNumber (S : gS) (a0 : Nat) (p1 : Int32) (p2 : Int64) : Option (gS) :=
g_lt (p1 * (4 : Int32)) fun x1 =>
g_getR S 2 0 a0 fun a2 =>
g_stL S a2 x1 p2 fun S3 =>
l_X2_setNumber_16 a0 p1 p2 x1 100 S3 (1 : Int32) 
set_option maxRecDepth 100000 in
set_option maxHeartbeats 4000000 in
theorem j_X2_setNumber_16 (E : gE) {n0 s0 : Nat} (u0 : Nat) (u1 : Int32) (u2 : Int64) (u4 : Int32) : ∀ (n : Nat) (S : gS) (u5 : Int32), gJ gV E M_X2_setNumber n0 s0 16 [(0, .ref u0), (1, .int u1), (2, .long u2), (4, .int u4), (5, .int u5)] [] S (l_X2_setNumber_16 u0 u1 u2 u4 n S u5 ) := by
  intro n
  induction n with
  | zero =>
    intros
    rw [l_X2_setNumber_16]
    exact gJ.none
  | succ n ih =>
    intro S u5  
    rw [l_X2_setNumber_16]
    refine X_iload 4 dX2_setNumber_16 rfl ?_
    refine X_iconst (v := (4 : Int32)) dX2_setNumber_18 (by decide) ?_
    refine X_icmp_ge (tgt := 39) dX2_setNumber_19 (by decide) ?_ ?_
    · skip
      exact X_vret rfl dX2_setNumber_39
    · skip
      refine X_aload_n 0 dX2_setNumber_22 rfl rfl ?_
      refine X_getR kF_X2_11 rfl dX2_setNumber_23 (fun a4 => ?_)
      refine X_iload 3 dX2_setNumber_26 rfl ?_
      refine X_iload 4 dX2_setNumber_28 rfl ?_
      refine X_iadd dX2_setNumber_30 ?_
      refine X_lconst (v := (0 : Int64)) dX2_setNumber_31 (by decide) ?_
      refine X_last dX2_setNumber_32 (fun S5 => ?_)
      refine X_iinc (k := 4) (x := u5) (v := (1 : Int32)) (lv2 := [(5, .int (u5 + (1 : Int32))), (0, .ref u0), (1, .int u1), (2, .long u2), (4, .int u4)]) dX2_setNumber_33 rfl (by decide) (by decide) rfl ?_
      refine X_goto (tgt := 16) dX2_setNumber_36 (by decide) ?_
      exact X_sub [1, 2, 3, 4, 0] rfl (ih _ _)
set_option maxRecDepth 100000 in
set_option maxHeartbeats 4000000 in
theorem c_X2_setNumber (E : gE) (S : gS) (a0 : Nat) (p1 : Int32) (p2 : Int64) : gC gV E M_X2_setNumber [.ref a0, .int p1, .long p2] S (f_X2_setNumber S a0 p1 p2) := by
  refine gC.of (by decide) (Nat.le_of_ble_eq_true rfl) ?_
  unfold f_X2_setNumber
  show gJ gV E M_X2_setNumber _ _ 0 [(0, .ref a0), (1, .int p1), (2, .long p2)] [] S _
  refine X_iload_n 1 dX2_setNumber_0 rfl rfl ?_
  refine X_iconst (v := (4 : Int32)) dX2_setNumber_1 (by decide) ?_
  refine X_imul dX2_setNumber_2 ?_
  refine X_topI (fun x1 => ?_)
  refine X_istore (lv2 := [(4, .int x1), (0, .ref a0), (1, .int p1), (2, .long p2)]) dX2_setNumber_3 (by decide) rfl ?_
  refine X_aload_n 1 dX2_setNumber_5 rfl rfl ?_
  refine X_getR kF_X2_11 rfl dX2_setNumber_6 (fun a2 => ?_)
  refine X_iload 0 dX2_setNumber_9 rfl ?_
  refine X_lload_n 3 dX2_setNumber_11 rfl rfl ?_
  refine X_last dX2_setNumber_12 (fun S3 => ?_)
  refine X_iconst (v := (1 : Int32)) dX2_setNumber_13 (by decide) ?_
  refine X_istore (lv2 := [(5, .int (1 : Int32)), (4, .int x1), (0, .ref a0), (1, .int p1), (2, .long p2)]) dX2_setNumber_14 (by decide) rfl ?_
  exact X_sub [2, 3, 4, 1, 0] rfl (j_X2_setNumber_16 E a0 p1 p2 x1 100 _ _)
set_option maxRecDepth 100000 in
theorem kC_X2_setNumber : g_okC M_X2_setNumber 2 := And.intro (g_t (i := 268) rfl (by decide +kernel)) (And.intro (g_nd nd_0_ok (k := 19) rfl) (And.intro (by decide) (And.intro (by decide) (by decide +kernel))))
def M_X2_setDigits : gM := (yX2_setDigits, cX2_setDigits, 8, none, 1, 25)
def l_X2_setDigits_27 (u0 : Nat) (u1 : Int32) (u2 : Int64) : Nat → gS → Int32 → Int64 → Option (gS)
  | 0, _, _, _ => none
  | n + 1, S, u4, u5 =>
    if (lg_cmp u5 (0 : Int64)) ≤ 0 then (
    some S)
    else (
    g_nzL u5 (
    g_lt ((if 0 < ((u2 / u5) - (u2 / u5) / (10 : Int64) * (10 : Int64)) then ((u2 / u5) - (u2 / u5) / (10 : Int64) * (10 : Int64)) else -((u2 / u5) - (u2 / u5) / (10 : Int64) * (10 : Int64)))).toInt32 fun x5 =>
    g_jn (fun (S6 : gS) (w7 : Int32) => (
    g_jn (fun (S9 : gS) => (
    g_lt (u5 / (10 : Int64)) fun x11 =>
    l_X2_setDigits_27 u0 u1 u2 n S9 w7 x11 )) fun jb10 => (
    if w7 = 0 then (
    g_cVV S6 2 u0 (f_X2_appendLetter S6 u0 u1 ((48 : Int32) + x5)) fun S12 =>
    jb10 S12)
    else (
    jb10 S6)))) fun jb8 => (
    g_jn (fun (S13 : gS) => (
    jb8 S13 (0 : Int32))) fun jb14 => (
    if u4 = 0 then (
    jb14 S)
    else (
    if x5 = 0 then (
    if (lg_cmp u5 (1 : Int64)) ≤ 0 then (
    jb14 S)
    else (
    jb8 S (1 : Int32)))
    else (
    jb14 S))))))
def f_X2_setDigits (S : gS) (a0 : Nat) (p1 : Int32) (p2 : Int64) : Option (gS) :=
g_cVV S 2 a0 (f_X2_setNumber S a0 p1 (0 : Int64)) fun S1 =>
g_jn (fun (S2 : gS) => (
l_X2_setDigits_27 a0 p1 p2 100 S2 (1 : Int32) (1000000000000000000 : Int64) )) fun jb3 => (
if 0 ≤ (lg_cmp p2 (0 : Int64)) then (
jb3 S1)
else (
g_cVV S1 2 a0 (f_X2_appendLetter S1 a0 p1 (45 : Int32)) fun S15 =>
jb3 S15))
set_option maxRecDepth 100000 in
set_option maxHeartbeats 4000000 in
theorem j_X2_setDigits_27 (E : gE) {n0 s0 : Nat} (u0 : Nat) (u1 : Int32) (u2 : Int64) : ∀ (n : Nat) (S : gS) (u4 : Int32) (u5 : Int64), gJ gV E M_X2_setDigits n0 s0 27 [(0, .ref u0), (1, .int u1), (2, .long u2), (4, .int u4), (5, .long u5)] [] S (l_X2_setDigits_27 u0 u1 u2 n S u4 u5 ) := by
  intro n
  induction n with
  | zero =>
    intros
    rw [l_X2_setDigits_27]
    exact gJ.none
  | succ n ih =>
    intro S u4 u5  
    rw [l_X2_setDigits_27]
    refine X_lload 4 dX2_setDigits_27 rfl ?_
    refine X_lconst (v := (0 : Int64)) dX2_setDigits_29 (by decide) ?_
    refine X_lcmp dX2_setDigits_30 ?_
    refine X_if_le (tgt := 98) dX2_setDigits_31 (by decide) ?_ ?_
    · skip
      exact X_vret rfl dX2_setDigits_98
    · skip
      refine X_lload_n 2 dX2_setDigits_34 rfl rfl ?_
      refine X_lload 4 dX2_setDigits_35 rfl ?_
      refine X_nzL (fun h4 => ?_)
      refine X_ldiv dX2_setDigits_37 h4 ?_
      refine X_ldc2 (v := (10 : Int64)) kK_X2_63 dX2_setDigits_38 ?_
      refine X_lrem dX2_setDigits_41 (by decide) ?_
      refine X_abs kL_X2_67 kS_abs_long kJ_Math kC_abs_long (by decide) (Nat.le_of_ble_eq_true rfl) dX2_setDigits_42 ?_
      refine X_l2i dX2_setDigits_45 ?_
      refine X_topI (fun x5 => ?_)
      refine X_istore (lv2 := [(7, .int x5), (0, .ref u0), (1, .int u1), (2, .long u2), (4, .int u4), (5, .long u5)]) dX2_setDigits_46 (by decide) rfl ?_
      refine X_iload 4 dX2_setDigits_48 rfl ?_
      refine X_jn (fun (j : gS → Int32 → Option (gS)) => ∀ (S6 : gS) (w7 : Int32), gJ gV E M_X2_setDigits n0 s0 70 [(0, .ref u0), (1, .int u1), (2, .long u2), (4, .int u4), (5, .long u5), (7, .int x5)] [.int w7] S6 (j S6 w7)) ?_ (fun jb8 hjb8 => ?_)
      · intro S6 w7
        refine X_istore (lv2 := [(4, .int w7), (0, .ref u0), (1, .int u1), (2, .long u2), (5, .long u5), (7, .int x5)]) dX2_setDigits_70 (by decide) rfl ?_
        refine X_iload 0 dX2_setDigits_72 rfl ?_
        refine X_jn (fun (j : gS → Option (gS)) => ∀ (S9 : gS), gJ gV E M_X2_setDigits n0 s0 87 [(0, .ref u0), (1, .int u1), (2, .long u2), (4, .int w7), (5, .long u5), (7, .int x5)] [] S9 (j S9)) ?_ (fun jb10 hjb10 => ?_)
        · intro S9
          refine X_lload 4 dX2_setDigits_87 rfl ?_
          refine X_ldc2 (v := (10 : Int64)) kK_X2_63 dX2_setDigits_89 ?_
          refine X_ldiv dX2_setDigits_92 (by decide) ?_
          refine X_topL (fun x11 => ?_)
          refine X_lstore (lv2 := [(5, .long x11), (0, .ref u0), (1, .int u1), (2, .long u2), (4, .int w7), (7, .int x5)]) dX2_setDigits_93 (by decide) rfl ?_
          refine X_goto (tgt := 27) dX2_setDigits_95 (by decide) ?_
          exact X_sub [1, 2, 3, 4, 0] rfl (ih _ _ _)
        · skip
          refine X_if_ne (tgt := 87) dX2_setDigits_74 (by decide) ?_ ?_
          · skip
            refine X_aload_n 1 dX2_setDigits_77 rfl rfl ?_
            refine X_iload_n 2 dX2_setDigits_78 rfl rfl ?_
            refine X_bipush (v := (48 : Int32)) dX2_setDigits_79 (by decide) ?_
            refine X_iload 5 dX2_setDigits_81 rfl ?_
            refine X_iadd dX2_setDigits_83 ?_
            refine X_callVV (ci := 2) (As := [.int u1, .int ((48 : Int32) + x5)]) (st := []) (c_X2_appendLetter E S6 u0 u1 ((48 : Int32) + x5)) (by decide) rfl kC_X2_appendLetter kL_X2_25 kI_X2_appendLetter kE_X2_appendLetter (by unfold g_okR; decide) rfl (Nat.le_of_ble_eq_true rfl) dX2_setDigits_84 (fun S12 => ?_)
            exact X_sub [1, 2, 3, 0, 4, 5] rfl (hjb10 _)
          · skip
            exact X_sub [1, 2, 3, 0, 4, 5] rfl (hjb10 _)
      · skip
        refine X_jn (fun (j : gS → Option (gS)) => ∀ (S13 : gS), gJ gV E M_X2_setDigits n0 s0 69 [(0, .ref u0), (1, .int u1), (2, .long u2), (4, .int u4), (5, .long u5), (7, .int x5)] [] S13 (j S13)) ?_ (fun jb14 hjb14 => ?_)
        · intro S13
          refine X_iconst (v := (0 : Int32)) dX2_setDigits_69 (by decide) ?_
          exact (hjb8 _ _)
        · skip
          refine X_if_eq (tgt := 69) dX2_setDigits_50 (by decide) ?_ ?_
          · skip
            exact X_sub [1, 2, 3, 4, 5, 0] rfl (hjb14 _)
          · skip
            refine X_iload 0 dX2_setDigits_53 rfl ?_
            refine X_if_ne (tgt := 69) dX2_setDigits_55 (by decide) ?_ ?_
            · skip
              refine X_lload 5 dX2_setDigits_58 rfl ?_
              refine X_lconst (v := (1 : Int64)) dX2_setDigits_60 (by decide) ?_
              refine X_lcmp dX2_setDigits_61 ?_
              refine X_if_le (tgt := 69) dX2_setDigits_62 (by decide) ?_ ?_
              · skip
                exact X_sub [1, 2, 3, 4, 5, 0] rfl (hjb14 _)
              · skip
                refine X_iconst (v := (1 : Int32)) dX2_setDigits_65 (by decide) ?_
                refine X_goto (tgt := 70) dX2_setDigits_66 (by decide) ?_
                exact X_sub [1, 2, 3, 4, 5, 0] rfl (hjb8 _ _)
            · skip
              exact X_sub [1, 2, 3, 4, 5, 0] rfl (hjb14 _)
set_option maxRecDepth 100000 in
set_option maxHeartbeats 4000000 in
theorem c_X2_setDigits (E : gE) (S : gS) (a0 : Nat) (p1 : Int32) (p2 : Int64) : gC gV E M_X2_setDigits [.ref a0, .int p1, .long p2] S (f_X2_setDigits S a0 p1 p2) := by
  refine gC.of (by decide) (Nat.le_of_ble_eq_true rfl) ?_
  unfold f_X2_setDigits
  show gJ gV E M_X2_setDigits _ _ 0 [(0, .ref a0), (1, .int p1), (2, .long p2)] [] S _
  refine X_aload_n 0 dX2_setDigits_0 rfl rfl ?_
  refine X_iload_n 1 dX2_setDigits_1 rfl rfl ?_
  refine X_lconst (v := (0 : Int64)) dX2_setDigits_2 (by decide) ?_
  refine X_callVV (ci := 2) (As := [.int p1, .long (0 : Int64)]) (st := []) (c_X2_setNumber E S a0 p1 (0 : Int64)) (by decide) rfl kC_X2_setNumber kL_X2_21 kI_X2_setNumber kE_X2_setNumber (by unfold g_okR; decide) rfl (Nat.le_of_ble_eq_true rfl) dX2_setDigits_3 (fun S1 => ?_)
  refine X_lload_n 2 dX2_setDigits_6 rfl rfl ?_
  refine X_lconst (v := (0 : Int64)) dX2_setDigits_7 (by decide) ?_
  refine X_lcmp dX2_setDigits_8 ?_
  refine X_jn (fun (j : gS → Option (gS)) => ∀ (S2 : gS), gJ gV E M_X2_setDigits (gn S) (gsl S) 19 [(0, .ref a0), (1, .int p1), (2, .long p2)] [] S2 (j S2)) ?_ (fun jb3 hjb3 => ?_)
  · intro S2
    refine X_iconst (v := (1 : Int32)) dX2_setDigits_19 (by decide) ?_
    refine X_istore (lv2 := [(4, .int (1 : Int32)), (0, .ref a0), (1, .int p1), (2, .long p2)]) dX2_setDigits_20 (by decide) rfl ?_
    refine X_ldc2 (v := (1000000000000000000 : Int64)) kK_X2_65 dX2_setDigits_22 ?_
    refine X_lstore (lv2 := [(5, .long (1000000000000000000 : Int64)), (4, .int (1 : Int32)), (0, .ref a0), (1, .int p1), (2, .long p2)]) dX2_setDigits_25 (by decide) rfl ?_
    exact X_sub [2, 3, 4, 1, 0] rfl (j_X2_setDigits_27 E a0 p1 p2 100 _ _ _)
  · skip
    refine X_if_ge (tgt := 19) dX2_setDigits_9 (by decide) ?_ ?_
    · skip
      exact (hjb3 _)
    · skip
      refine X_aload_n 0 dX2_setDigits_12 rfl rfl ?_
      refine X_iload_n 1 dX2_setDigits_13 rfl rfl ?_
      refine X_bipush (v := (45 : Int32)) dX2_setDigits_14 (by decide) ?_
      refine X_callVV (ci := 2) (As := [.int p1, .int (45 : Int32)]) (st := []) (c_X2_appendLetter E S1 a0 p1 (45 : Int32)) (by decide) rfl kC_X2_appendLetter kL_X2_25 kI_X2_appendLetter kE_X2_appendLetter (by unfold g_okR; decide) rfl (Nat.le_of_ble_eq_true rfl) dX2_setDigits_16 (fun S15 => ?_)
      exact (hjb3 _)
set_option maxRecDepth 100000 in
theorem kC_X2_setDigits : g_okC M_X2_setDigits 2 := And.intro (g_t (i := 392) rfl (by decide +kernel)) (And.intro (g_nd nd_0_ok (k := 19) rfl) (And.intro (by decide) (And.intro (by decide) (by decide +kernel))))
def M_X2_become : gM := (yX2_become, cX2_become, 6, none, 2, 52)
def f_X2_become (S : gS) (a0 : Nat) (p1 : Int32) (p2 : Int32) (p3 : Int32) : Option (gS) :=
g_jn (fun (S1 : gS) (w2 : Int64) => (
if p3 = (0 : Int32) then (
g_jn (fun (S5 : gS) (w6 : Int64) (w7 : Int32) (w8 : Nat) => (
g_cVV S5 2 w8 (f_X2_setNumber S5 w8 w7 w6) fun S10 =>
some S10)) fun jb9 => (
if (lg_cmp w2 (0 : Int64)) = 0 then (
jb9 S1 (0 : Int64) p1 a0)
else (
jb9 S1 (1 : Int64) p1 a0)))
else (
if p3 = (1 : Int32) then (
g_cVV S1 2 a0 (f_X2_setNumber S1 a0 p1 (if (if w2 < (32767 : Int64) then w2 else (32767 : Int64)) < (-32768 : Int64) then (-32768 : Int64) else (if w2 < (32767 : Int64) then w2 else (32767 : Int64)))) fun S12 =>
some S12)
else (
if p3 = (2 : Int32) then (
g_cVV S1 2 a0 (f_X2_setNumber S1 a0 p1 (if (if w2 < (2147483647 : Int64) then w2 else (2147483647 : Int64)) < (-2147483648 : Int64) then (-2147483648 : Int64) else (if w2 < (2147483647 : Int64) then w2 else (2147483647 : Int64)))) fun S14 =>
some S14)
else (
if p3 = (3 : Int32) then (
g_cVV S1 2 a0 (f_X2_setNumber S1 a0 p1 w2) fun S16 =>
some S16)
else (
g_cVV S1 2 a0 (f_X2_setDigits S1 a0 p1 w2) fun S17 =>
some S17)))))) fun jb3 => (
if p2 = (4 : Int32) then (
g_cVL S 2 a0 (f_X2_numberTold S a0 p1) fun x19 S18 =>
jb3 S18 x19)
else (
g_cVL S 2 a0 (f_X2_numberAt S a0 p1) fun x21 S20 =>
jb3 S20 x21))
set_option maxRecDepth 100000 in
set_option maxHeartbeats 4000000 in
theorem c_X2_become (E : gE) (S : gS) (a0 : Nat) (p1 : Int32) (p2 : Int32) (p3 : Int32) : gC gV E M_X2_become [.ref a0, .int p1, .int p2, .int p3] S (f_X2_become S a0 p1 p2 p3) := by
  refine gC.of (by decide) (Nat.le_of_ble_eq_true rfl) ?_
  unfold f_X2_become
  show gJ gV E M_X2_become _ _ 0 [(0, .ref a0), (1, .int p1), (2, .int p2), (3, .int p3)] [] S _
  refine X_iload_n 2 dX2_become_0 rfl rfl ?_
  refine X_iconst (v := (4 : Int32)) dX2_become_1 (by decide) ?_
  refine X_jn (fun (j : gS → Int64 → Option (gS)) => ∀ (S1 : gS) (w2 : Int64), gJ gV E M_X2_become (gn S) (gsl S) 18 [(0, .ref a0), (1, .int p1), (2, .int p2), (3, .int p3)] [.long w2] S1 (j S1 w2)) ?_ (fun jb3 hjb3 => ?_)
  · intro S1 w2
    refine X_lstore (lv2 := [(4, .long w2), (0, .ref a0), (1, .int p1), (2, .int p2), (3, .int p3)]) dX2_become_18 (by decide) rfl ?_
    refine X_iload_n 4 dX2_become_20 rfl rfl ?_
    by_cases h4 : p3 = (0 : Int32)
    · refine X_eq (if_pos h4) ?_
      refine X_tin (tgt := 52) dX2_become_21 (by rw [h4]; decide) (by rw [h4]; decide) (by rw [h4]; rfl) (by decide) ?_
      refine X_aload_n 1 dX2_become_52 rfl rfl ?_
      refine X_iload_n 2 dX2_become_53 rfl rfl ?_
      refine X_lload 0 dX2_become_54 rfl ?_
      refine X_lconst (v := (0 : Int64)) dX2_become_56 (by decide) ?_
      refine X_lcmp dX2_become_57 ?_
      refine X_jn (fun (j : gS → Int64 → Int32 → Nat → Option (gS)) => ∀ (S5 : gS) (w6 : Int64) (w7 : Int32) (w8 : Nat), gJ gV E M_X2_become (gn S) (gsl S) 66 [(0, .ref a0), (1, .int p1), (2, .int p2), (3, .int p3), (4, .long w2)] [.long w6, .int w7, .ref w8] S5 (j S5 w6 w7 w8)) ?_ (fun jb9 hjb9 => ?_)
      · intro S5 w6 w7 w8
        refine X_callVV (ci := 2) (As := [.int w7, .long w6]) (st := []) (c_X2_setNumber E S5 w8 w7 w6) (by decide) rfl kC_X2_setNumber kL_X2_21 kI_X2_setNumber kE_X2_setNumber (by unfold g_okR; decide) rfl (Nat.le_of_ble_eq_true rfl) dX2_become_66 (fun S10 => ?_)
        refine X_goto (tgt := 133) dX2_become_69 (by decide) ?_
        exact X_vret rfl dX2_become_133
      · skip
        refine X_if_ne (tgt := 65) dX2_become_58 (by decide) ?_ ?_
        · skip
          refine X_lconst (v := (0 : Int64)) dX2_become_61 (by decide) ?_
          refine X_goto (tgt := 66) dX2_become_62 (by decide) ?_
          exact X_sub [1, 2, 3, 4, 0] rfl (hjb9 _ _ _ _)
        · skip
          refine X_lconst (v := (1 : Int64)) dX2_become_65 (by decide) ?_
          exact X_sub [1, 2, 3, 4, 0] rfl (hjb9 _ _ _ _)
    · refine X_eq (if_neg h4) ?_
      by_cases h11 : p3 = (1 : Int32)
      · refine X_eq (if_pos h11) ?_
        refine X_tin (tgt := 72) dX2_become_21 (by rw [h11]; decide) (by rw [h11]; decide) (by rw [h11]; rfl) (by decide) ?_
        refine X_aload_n 1 dX2_become_72 rfl rfl ?_
        refine X_iload_n 2 dX2_become_73 rfl rfl ?_
        refine X_ldc2 (v := (-32768 : Int64)) kK_X2_39 dX2_become_74 ?_
        refine X_ldc2 (v := (32767 : Int64)) kK_X2_41 dX2_become_77 ?_
        refine X_lload 0 dX2_become_80 rfl ?_
        refine X_min kL_X2_43 kS_min_long kJ_Math kC_min_long (by decide) (Nat.le_of_ble_eq_true rfl) dX2_become_82 ?_
        refine X_max kL_X2_49 kS_max_long kJ_Math kC_max_long (by decide) (Nat.le_of_ble_eq_true rfl) dX2_become_85 ?_
        refine X_callVV (ci := 2) (As := [.int p1, .long (if (if w2 < (32767 : Int64) then w2 else (32767 : Int64)) < (-32768 : Int64) then (-32768 : Int64) else (if w2 < (32767 : Int64) then w2 else (32767 : Int64)))]) (st := []) (c_X2_setNumber E S1 a0 p1 (if (if w2 < (32767 : Int64) then w2 else (32767 : Int64)) < (-32768 : Int64) then (-32768 : Int64) else (if w2 < (32767 : Int64) then w2 else (32767 : Int64)))) (by decide) rfl kC_X2_setNumber kL_X2_21 kI_X2_setNumber kE_X2_setNumber (by unfold g_okR; decide) rfl (Nat.le_of_ble_eq_true rfl) dX2_become_88 (fun S12 => ?_)
        refine X_goto (tgt := 133) dX2_become_91 (by decide) ?_
        exact X_vret rfl dX2_become_133
      · refine X_eq (if_neg h11) ?_
        by_cases h13 : p3 = (2 : Int32)
        · refine X_eq (if_pos h13) ?_
          refine X_tin (tgt := 94) dX2_become_21 (by rw [h13]; decide) (by rw [h13]; decide) (by rw [h13]; rfl) (by decide) ?_
          refine X_aload_n 1 dX2_become_94 rfl rfl ?_
          refine X_iload_n 2 dX2_become_95 rfl rfl ?_
          refine X_ldc2 (v := (-2147483648 : Int64)) kK_X2_52 dX2_become_96 ?_
          refine X_ldc2 (v := (2147483647 : Int64)) kK_X2_54 dX2_become_99 ?_
          refine X_lload 0 dX2_become_102 rfl ?_
          refine X_min kL_X2_43 kS_min_long kJ_Math kC_min_long (by decide) (Nat.le_of_ble_eq_true rfl) dX2_become_104 ?_
          refine X_max kL_X2_49 kS_max_long kJ_Math kC_max_long (by decide) (Nat.le_of_ble_eq_true rfl) dX2_become_107 ?_
          refine X_callVV (ci := 2) (As := [.int p1, .long (if (if w2 < (2147483647 : Int64) then w2 else (2147483647 : Int64)) < (-2147483648 : Int64) then (-2147483648 : Int64) else (if w2 < (2147483647 : Int64) then w2 else (2147483647 : Int64)))]) (st := []) (c_X2_setNumber E S1 a0 p1 (if (if w2 < (2147483647 : Int64) then w2 else (2147483647 : Int64)) < (-2147483648 : Int64) then (-2147483648 : Int64) else (if w2 < (2147483647 : Int64) then w2 else (2147483647 : Int64)))) (by decide) rfl kC_X2_setNumber kL_X2_21 kI_X2_setNumber kE_X2_setNumber (by unfold g_okR; decide) rfl (Nat.le_of_ble_eq_true rfl) dX2_become_110 (fun S14 => ?_)
          refine X_goto (tgt := 133) dX2_become_113 (by decide) ?_
          exact X_vret rfl dX2_become_133
        · refine X_eq (if_neg h13) ?_
          by_cases h15 : p3 = (3 : Int32)
          · refine X_eq (if_pos h15) ?_
            refine X_tin (tgt := 116) dX2_become_21 (by rw [h15]; decide) (by rw [h15]; decide) (by rw [h15]; rfl) (by decide) ?_
            refine X_aload_n 1 dX2_become_116 rfl rfl ?_
            refine X_iload_n 2 dX2_become_117 rfl rfl ?_
            refine X_lload 0 dX2_become_118 rfl ?_
            refine X_callVV (ci := 2) (As := [.int p1, .long w2]) (st := []) (c_X2_setNumber E S1 a0 p1 w2) (by decide) rfl kC_X2_setNumber kL_X2_21 kI_X2_setNumber kE_X2_setNumber (by unfold g_okR; decide) rfl (Nat.le_of_ble_eq_true rfl) dX2_become_120 (fun S16 => ?_)
            refine X_goto (tgt := 133) dX2_become_123 (by decide) ?_
            exact X_vret rfl dX2_become_133
          · refine X_eq (if_neg h15) ?_
            have eh4 : (p3).toInt ≠ 0 := fun q => h4 ((g_i32 q).trans (by decide))
            have eh11 : (p3).toInt ≠ 1 := fun q => h11 ((g_i32 q).trans (by decide))
            have eh13 : (p3).toInt ≠ 2 := fun q => h13 ((g_i32 q).trans (by decide))
            have eh15 : (p3).toInt ≠ 3 := fun q => h15 ((g_i32 q).trans (by decide))
            refine X_tout (tgt := 126) dX2_become_21 (by omega) (by decide) ?_
            refine X_aload_n 1 dX2_become_126 rfl rfl ?_
            refine X_iload_n 2 dX2_become_127 rfl rfl ?_
            refine X_lload 0 dX2_become_128 rfl ?_
            refine X_callVV (ci := 2) (As := [.int p1, .long w2]) (st := []) (c_X2_setDigits E S1 a0 p1 w2) (by decide) rfl kC_X2_setDigits kL_X2_56 kI_X2_setDigits kE_X2_setDigits (by unfold g_okR; decide) rfl (Nat.le_of_ble_eq_true rfl) dX2_become_130 (fun S17 => ?_)
            exact X_vret rfl dX2_become_133
  · skip
    refine X_icmp_ne (tgt := 13) dX2_become_2 (by decide) ?_ ?_
    · skip
      refine X_aload_n 0 dX2_become_5 rfl rfl ?_
      refine X_iload_n 1 dX2_become_6 rfl rfl ?_
      refine X_callVL (ci := 2) (As := [.int p1]) (st := []) (c_X2_numberTold E S a0 p1) (by decide) rfl kC_X2_numberTold kL_X2_32 kI_X2_numberTold kE_X2_numberTold (by unfold g_okR; decide) rfl (Nat.le_of_ble_eq_true rfl) dX2_become_7 (fun x19 S18 => ?_)
      refine X_goto (tgt := 18) dX2_become_10 (by decide) ?_
      exact (hjb3 _ _)
    · skip
      refine X_aload_n 0 dX2_become_13 rfl rfl ?_
      refine X_iload_n 1 dX2_become_14 rfl rfl ?_
      refine X_callVL (ci := 2) (As := [.int p1]) (st := []) (c_X2_numberAt E S a0 p1) (by decide) rfl kC_X2_numberAt kL_X2_36 kI_X2_numberAt kE_X2_numberAt (by unfold g_okR; decide) rfl (Nat.le_of_ble_eq_true rfl) dX2_become_15 (fun x21 S20 => ?_)
      exact (hjb3 _ _)
set_option maxRecDepth 100000 in
theorem kC_X2_become : g_okC M_X2_become 3 := And.intro (g_t (i := 368) rfl (by decide +kernel)) (And.intro (g_nd nd_0_ok (k := 19) rfl) (And.intro (by decide) (And.intro (by decide) (by decide +kernel))))
def M_X2_appendLetters : gM := (yX2_appendLetters, cX2_appendLetters, 6, none, 1, 24)
def l_X2_appendLetters_4 (u0 : Nat) (u1 : Int32) (u2 : Int64) : Nat → gS → Int32 → Option (gS)
  | 0, _, _ => none
  | n + 1, S, u4 =>
    if u4 < 0 then (
    some S)
    else (
    g_lt (((((u2).toUInt64 >>> ((u4).toInt64.toUInt64 &&& Int64.toUInt64 63)).toInt64)).toInt32 &&& (255 : Int32)) fun x1 =>
    g_jn (fun (S2 : gS) => (
    l_X2_appendLetters_4 u0 u1 u2 n S2 (u4 + (-8 : Int32)) )) fun jb3 => (
    if x1 = 0 then (
    jb3 S)
    else (
    g_cVV S 2 u0 (f_X2_appendLetter S u0 u1 x1) fun S4 =>
    jb3 S4)))
def f_X2_appendLetters (S : gS) (a0 : Nat) (p1 : Int32) (p2 : Int64) : Option (gS) :=
l_X2_appendLetters_4 a0 p1 p2 100 S (56 : Int32) 
set_option maxRecDepth 100000 in
set_option maxHeartbeats 4000000 in
theorem j_X2_appendLetters_4 (E : gE) {n0 s0 : Nat} (u0 : Nat) (u1 : Int32) (u2 : Int64) : ∀ (n : Nat) (S : gS) (u4 : Int32), gJ gV E M_X2_appendLetters n0 s0 4 [(0, .ref u0), (1, .int u1), (2, .long u2), (4, .int u4)] [] S (l_X2_appendLetters_4 u0 u1 u2 n S u4 ) := by
  intro n
  induction n with
  | zero =>
    intros
    rw [l_X2_appendLetters_4]
    exact gJ.none
  | succ n ih =>
    intro S u4  
    rw [l_X2_appendLetters_4]
    refine X_iload 3 dX2_appendLetters_4 rfl ?_
    refine X_if_lt (tgt := 38) dX2_appendLetters_6 (by decide) ?_ ?_
    · skip
      exact X_vret rfl dX2_appendLetters_38
    · skip
      refine X_lload_n 2 dX2_appendLetters_9 rfl rfl ?_
      refine X_iload 3 dX2_appendLetters_10 rfl ?_
      refine X_lushr dX2_appendLetters_12 ?_
      refine X_l2i dX2_appendLetters_13 ?_
      refine X_sipush (v := (255 : Int32)) dX2_appendLetters_14 (by decide) ?_
      refine X_iand dX2_appendLetters_17 ?_
      refine X_topI (fun x1 => ?_)
      refine X_istore (lv2 := [(5, .int x1), (0, .ref u0), (1, .int u1), (2, .long u2), (4, .int u4)]) dX2_appendLetters_18 (by decide) rfl ?_
      refine X_iload 0 dX2_appendLetters_20 rfl ?_
      refine X_jn (fun (j : gS → Option (gS)) => ∀ (S2 : gS), gJ gV E M_X2_appendLetters n0 s0 32 [(0, .ref u0), (1, .int u1), (2, .long u2), (4, .int u4), (5, .int x1)] [] S2 (j S2)) ?_ (fun jb3 hjb3 => ?_)
      · intro S2
        refine X_iinc (k := 3) (x := u4) (v := (-8 : Int32)) (lv2 := [(4, .int (u4 + (-8 : Int32))), (0, .ref u0), (1, .int u1), (2, .long u2), (5, .int x1)]) dX2_appendLetters_32 rfl (by decide) (by decide) rfl ?_
        refine X_goto (tgt := 4) dX2_appendLetters_35 (by decide) ?_
        exact X_sub [1, 2, 3, 0] rfl (ih _ _)
      · skip
        refine X_if_eq (tgt := 32) dX2_appendLetters_22 (by decide) ?_ ?_
        · skip
          exact X_sub [1, 2, 3, 4, 0] rfl (hjb3 _)
        · skip
          refine X_aload_n 1 dX2_appendLetters_25 rfl rfl ?_
          refine X_iload_n 2 dX2_appendLetters_26 rfl rfl ?_
          refine X_iload 0 dX2_appendLetters_27 rfl ?_
          refine X_callVV (ci := 2) (As := [.int u1, .int x1]) (st := []) (c_X2_appendLetter E S u0 u1 x1) (by decide) rfl kC_X2_appendLetter kL_X2_25 kI_X2_appendLetter kE_X2_appendLetter (by unfold g_okR; decide) rfl (Nat.le_of_ble_eq_true rfl) dX2_appendLetters_29 (fun S4 => ?_)
          exact X_sub [1, 2, 3, 4, 0] rfl (hjb3 _)
set_option maxRecDepth 100000 in
set_option maxHeartbeats 4000000 in
theorem c_X2_appendLetters (E : gE) (S : gS) (a0 : Nat) (p1 : Int32) (p2 : Int64) : gC gV E M_X2_appendLetters [.ref a0, .int p1, .long p2] S (f_X2_appendLetters S a0 p1 p2) := by
  refine gC.of (by decide) (Nat.le_of_ble_eq_true rfl) ?_
  unfold f_X2_appendLetters
  show gJ gV E M_X2_appendLetters _ _ 0 [(0, .ref a0), (1, .int p1), (2, .long p2)] [] S _
  refine X_bipush (v := (56 : Int32)) dX2_appendLetters_0 (by decide) ?_
  refine X_istore (lv2 := [(4, .int (56 : Int32)), (0, .ref a0), (1, .int p1), (2, .long p2)]) dX2_appendLetters_2 (by decide) rfl ?_
  exact X_sub [1, 2, 3, 0] rfl (j_X2_appendLetters_4 E a0 p1 p2 100 _ _)
set_option maxRecDepth 100000 in
theorem kC_X2_appendLetters : g_okC M_X2_appendLetters 2 := And.intro (g_t (i := 289) rfl (by decide +kernel)) (And.intro (g_nd nd_0_ok (k := 19) rfl) (And.intro (by decide) (And.intro (by decide) (by decide +kernel))))
def M_X2_setTold : gM := (yX2_setTold, cX2_setTold, 5, none, 2, 49)
def f_X2_setTold (S : gS) (a0 : Nat) (p1 : Int32) (p2 : Int32) (p3 : Int64) : Option (gS) :=
if p2 = (0 : Int32) then (
g_cVV S 2 a0 (f_X2_setNumber S a0 p1 (p3 &&& (1 : Int64))) fun S2 =>
some S2)
else (
if p2 = (1 : Int32) then (
g_cVV S 2 a0 (f_X2_setNumber S a0 p1 (((p3).toInt32).toInt16.toInt32).toInt64) fun S4 =>
some S4)
else (
if p2 = (2 : Int32) then (
g_cVV S 2 a0 (f_X2_setNumber S a0 p1 ((p3).toInt32).toInt64) fun S6 =>
some S6)
else (
if p2 = (3 : Int32) then (
g_cVV S 2 a0 (f_X2_setNumber S a0 p1 p3) fun S8 =>
some S8)
else (
g_cVV S 2 a0 (f_X2_setNumber S a0 p1 (0 : Int64)) fun S9 =>
g_cVV S9 2 a0 (f_X2_appendLetters S9 a0 p1 p3) fun S10 =>
some S10))))
set_option maxRecDepth 100000 in
set_option maxHeartbeats 4000000 in
theorem c_X2_setTold (E : gE) (S : gS) (a0 : Nat) (p1 : Int32) (p2 : Int32) (p3 : Int64) : gC gV E M_X2_setTold [.ref a0, .int p1, .int p2, .long p3] S (f_X2_setTold S a0 p1 p2 p3) := by
  refine gC.of (by decide) (Nat.le_of_ble_eq_true rfl) ?_
  unfold f_X2_setTold
  show gJ gV E M_X2_setTold _ _ 0 [(0, .ref a0), (1, .int p1), (2, .int p2), (3, .long p3)] [] S _
  refine X_iload_n 2 dX2_setTold_0 rfl rfl ?_
  by_cases h1 : p2 = (0 : Int32)
  · refine X_eq (if_pos h1) ?_
    refine X_tin (tgt := 32) dX2_setTold_1 (by rw [h1]; decide) (by rw [h1]; decide) (by rw [h1]; rfl) (by decide) ?_
    refine X_aload_n 0 dX2_setTold_32 rfl rfl ?_
    refine X_iload_n 1 dX2_setTold_33 rfl rfl ?_
    refine X_lload_n 3 dX2_setTold_34 rfl rfl ?_
    refine X_lconst (v := (1 : Int64)) dX2_setTold_35 (by decide) ?_
    refine X_land dX2_setTold_36 ?_
    refine X_callVV (ci := 2) (As := [.int p1, .long (p3 &&& (1 : Int64))]) (st := []) (c_X2_setNumber E S a0 p1 (p3 &&& (1 : Int64))) (by decide) rfl kC_X2_setNumber kL_X2_21 kI_X2_setNumber kE_X2_setNumber (by unfold g_okR; decide) rfl (Nat.le_of_ble_eq_true rfl) dX2_setTold_37 (fun S2 => ?_)
    refine X_goto (tgt := 87) dX2_setTold_40 (by decide) ?_
    exact X_vret rfl dX2_setTold_87
  · refine X_eq (if_neg h1) ?_
    by_cases h3 : p2 = (1 : Int32)
    · refine X_eq (if_pos h3) ?_
      refine X_tin (tgt := 43) dX2_setTold_1 (by rw [h3]; decide) (by rw [h3]; decide) (by rw [h3]; rfl) (by decide) ?_
      refine X_aload_n 0 dX2_setTold_43 rfl rfl ?_
      refine X_iload_n 1 dX2_setTold_44 rfl rfl ?_
      refine X_lload_n 3 dX2_setTold_45 rfl rfl ?_
      refine X_l2i dX2_setTold_46 ?_
      refine X_i2s dX2_setTold_47 ?_
      refine X_i2l dX2_setTold_48 ?_
      refine X_callVV (ci := 2) (As := [.int p1, .long (((p3).toInt32).toInt16.toInt32).toInt64]) (st := []) (c_X2_setNumber E S a0 p1 (((p3).toInt32).toInt16.toInt32).toInt64) (by decide) rfl kC_X2_setNumber kL_X2_21 kI_X2_setNumber kE_X2_setNumber (by unfold g_okR; decide) rfl (Nat.le_of_ble_eq_true rfl) dX2_setTold_49 (fun S4 => ?_)
      refine X_goto (tgt := 87) dX2_setTold_52 (by decide) ?_
      exact X_vret rfl dX2_setTold_87
    · refine X_eq (if_neg h3) ?_
      by_cases h5 : p2 = (2 : Int32)
      · refine X_eq (if_pos h5) ?_
        refine X_tin (tgt := 55) dX2_setTold_1 (by rw [h5]; decide) (by rw [h5]; decide) (by rw [h5]; rfl) (by decide) ?_
        refine X_aload_n 0 dX2_setTold_55 rfl rfl ?_
        refine X_iload_n 1 dX2_setTold_56 rfl rfl ?_
        refine X_lload_n 3 dX2_setTold_57 rfl rfl ?_
        refine X_l2i dX2_setTold_58 ?_
        refine X_i2l dX2_setTold_59 ?_
        refine X_callVV (ci := 2) (As := [.int p1, .long ((p3).toInt32).toInt64]) (st := []) (c_X2_setNumber E S a0 p1 ((p3).toInt32).toInt64) (by decide) rfl kC_X2_setNumber kL_X2_21 kI_X2_setNumber kE_X2_setNumber (by unfold g_okR; decide) rfl (Nat.le_of_ble_eq_true rfl) dX2_setTold_60 (fun S6 => ?_)
        refine X_goto (tgt := 87) dX2_setTold_63 (by decide) ?_
        exact X_vret rfl dX2_setTold_87
      · refine X_eq (if_neg h5) ?_
        by_cases h7 : p2 = (3 : Int32)
        · refine X_eq (if_pos h7) ?_
          refine X_tin (tgt := 66) dX2_setTold_1 (by rw [h7]; decide) (by rw [h7]; decide) (by rw [h7]; rfl) (by decide) ?_
          refine X_aload_n 0 dX2_setTold_66 rfl rfl ?_
          refine X_iload_n 1 dX2_setTold_67 rfl rfl ?_
          refine X_lload_n 3 dX2_setTold_68 rfl rfl ?_
          refine X_callVV (ci := 2) (As := [.int p1, .long p3]) (st := []) (c_X2_setNumber E S a0 p1 p3) (by decide) rfl kC_X2_setNumber kL_X2_21 kI_X2_setNumber kE_X2_setNumber (by unfold g_okR; decide) rfl (Nat.le_of_ble_eq_true rfl) dX2_setTold_69 (fun S8 => ?_)
          refine X_goto (tgt := 87) dX2_setTold_72 (by decide) ?_
          exact X_vret rfl dX2_setTold_87
        · refine X_eq (if_neg h7) ?_
          have eh1 : (p2).toInt ≠ 0 := fun q => h1 ((g_i32 q).trans (by decide))
          have eh3 : (p2).toInt ≠ 1 := fun q => h3 ((g_i32 q).trans (by decide))
          have eh5 : (p2).toInt ≠ 2 := fun q => h5 ((g_i32 q).trans (by decide))
          have eh7 : (p2).toInt ≠ 3 := fun q => h7 ((g_i32 q).trans (by decide))
          refine X_tout (tgt := 75) dX2_setTold_1 (by omega) (by decide) ?_
          refine X_aload_n 0 dX2_setTold_75 rfl rfl ?_
          refine X_iload_n 1 dX2_setTold_76 rfl rfl ?_
          refine X_lconst (v := (0 : Int64)) dX2_setTold_77 (by decide) ?_
          refine X_callVV (ci := 2) (As := [.int p1, .long (0 : Int64)]) (st := []) (c_X2_setNumber E S a0 p1 (0 : Int64)) (by decide) rfl kC_X2_setNumber kL_X2_21 kI_X2_setNumber kE_X2_setNumber (by unfold g_okR; decide) rfl (Nat.le_of_ble_eq_true rfl) dX2_setTold_78 (fun S9 => ?_)
          refine X_aload_n 0 dX2_setTold_81 rfl rfl ?_
          refine X_iload_n 1 dX2_setTold_82 rfl rfl ?_
          refine X_lload_n 3 dX2_setTold_83 rfl rfl ?_
          refine X_callVV (ci := 2) (As := [.int p1, .long p3]) (st := []) (c_X2_appendLetters E S9 a0 p1 p3) (by decide) rfl kC_X2_appendLetters kL_X2_29 kI_X2_appendLetters kE_X2_appendLetters (by unfold g_okR; decide) rfl (Nat.le_of_ble_eq_true rfl) dX2_setTold_84 (fun S10 => ?_)
          exact X_vret rfl dX2_setTold_87
set_option maxRecDepth 100000 in
theorem kC_X2_setTold : g_okC M_X2_setTold 3 := And.intro (g_t (i := 346) rfl (by decide +kernel)) (And.intro (g_nd nd_0_ok (k := 19) rfl) (And.intro (by decide) (And.intro (by decide) (by decide +kernel))))
def M_X2_takeValueOut : gM := (yX2_takeValueOut, cX2_takeValueOut, 3, none, 1, 26)
def f_X2_takeValueOut (S : gS) (a0 : Nat) (p1 : Int32) : Option (gS) :=
g_lt ((p1 + (1 : Int32)) * (4 : Int32)) fun x1 =>
g_getR S 2 0 a0 fun a2 =>
g_getR S 2 0 a0 fun a3 =>
g_getR S 2 0 a0 fun a4 =>
g_alen S 11 a4 fun x5 =>
g_cpL S a2 x1 a3 (p1 * (4 : Int32)) (x5 - x1) fun S6 =>
some S6
set_option maxRecDepth 100000 in
set_option maxHeartbeats 4000000 in
theorem c_X2_takeValueOut (E : gE) (S : gS) (a0 : Nat) (p1 : Int32) : gC gV E M_X2_takeValueOut [.ref a0, .int p1] S (f_X2_takeValueOut S a0 p1) := by
  refine gC.of (by decide) (Nat.le_of_ble_eq_true rfl) ?_
  unfold f_X2_takeValueOut
  show gJ gV E M_X2_takeValueOut _ _ 0 [(0, .ref a0), (1, .int p1)] [] S _
  refine X_iload_n 1 dX2_takeValueOut_0 rfl rfl ?_
  refine X_iconst (v := (1 : Int32)) dX2_takeValueOut_1 (by decide) ?_
  refine X_iadd dX2_takeValueOut_2 ?_
  refine X_iconst (v := (4 : Int32)) dX2_takeValueOut_3 (by decide) ?_
  refine X_imul dX2_takeValueOut_4 ?_
  refine X_topI (fun x1 => ?_)
  refine X_istore_n (lv2 := [(2, .int x1), (0, .ref a0), (1, .int p1)]) dX2_takeValueOut_5 rfl (by decide) rfl ?_
  refine X_aload_n 1 dX2_takeValueOut_6 rfl rfl ?_
  refine X_getR kF_X2_11 rfl dX2_takeValueOut_7 (fun a2 => ?_)
  refine X_iload_n 0 dX2_takeValueOut_10 rfl rfl ?_
  refine X_aload_n 1 dX2_takeValueOut_11 rfl rfl ?_
  refine X_getR kF_X2_11 rfl dX2_takeValueOut_12 (fun a3 => ?_)
  refine X_iload_n 2 dX2_takeValueOut_15 rfl rfl ?_
  refine X_iconst (v := (4 : Int32)) dX2_takeValueOut_16 (by decide) ?_
  refine X_imul dX2_takeValueOut_17 ?_
  refine X_aload_n 1 dX2_takeValueOut_18 rfl rfl ?_
  refine X_getR kF_X2_11 rfl dX2_takeValueOut_19 (fun a4 => ?_)
  refine X_alen (Or.inr (Or.inl rfl)) dX2_takeValueOut_22 (fun x5 => ?_)
  refine X_iload_n 0 dX2_takeValueOut_23 rfl rfl ?_
  refine X_isub dX2_takeValueOut_24 ?_
  refine X_cpL kL_X2_15 kN_copy kS_copy kJ_System (by decide) (Nat.le_of_ble_eq_true rfl) dX2_takeValueOut_25 (fun S6 => ?_)
  exact X_vret rfl dX2_takeValueOut_28
set_option maxRecDepth 100000 in
theorem kC_X2_takeValueOut : g_okC M_X2_takeValueOut 1 := And.intro (g_t (i := 413) rfl (by decide +kernel)) (And.intro (g_nd nd_0_ok (k := 19) rfl) (And.intro (by decide) (And.intro (by decide) (by decide +kernel))))
def M_X0_carryOutNote : gM := (yX0_carryOutNote, cX0_carryOutNote, 1, some .boolean, 2, 42)
def f_X0_carryOutNote (S : gS) (a0 : Nat) : Option (Int32 × gS) :=
g_putZ S 0 1 a0 (1 : Int32) fun S1 =>
g_cVI S1 0 a0 (f_X0_actTimes S1 a0 (3 : Int32)) fun x3 S2 =>
if x3 = 0 then (
some ((0 : Int32), S2))
else (
g_putZ S2 0 1 a0 (0 : Int32) fun S4 =>
some ((1 : Int32), S4))
set_option maxRecDepth 100000 in
set_option maxHeartbeats 4000000 in
theorem c_X0_carryOutNote (E : gE) (S : gS) (a0 : Nat) : gC gI E M_X0_carryOutNote [.ref a0] S (f_X0_carryOutNote S a0) := by
  refine gC.of (by decide) (Nat.le_of_ble_eq_true rfl) ?_
  unfold f_X0_carryOutNote
  show gJ gI E M_X0_carryOutNote _ _ 0 [(0, .ref a0)] [] S _
  refine X_aload_n 0 dX0_carryOutNote_0 rfl rfl ?_
  refine X_iconst (v := (1 : Int32)) dX0_carryOutNote_1 (by decide) ?_
  refine X_putZ kF_X0_27 rfl rfl dX0_carryOutNote_2 (fun S1 => ?_)
  refine X_aload_n 0 dX0_carryOutNote_5 rfl rfl ?_
  refine X_iconst (v := (3 : Int32)) dX0_carryOutNote_6 (by decide) ?_
  refine X_callVI (ci := 0) (As := [.int (3 : Int32)]) (st := []) (c_X0_actTimes E S1 a0 (3 : Int32)) (by decide) rfl kC_X0_actTimes kL_X0_30 kI_X0_actTimes kE_X0_actTimes (by unfold g_okR; decide) rfl (Nat.le_of_ble_eq_true rfl) dX0_carryOutNote_7 (fun x3 S2 => ?_)
  refine X_if_ne (tgt := 15) dX0_carryOutNote_10 (by decide) ?_ ?_
  · skip
    refine X_iconst (v := (0 : Int32)) dX0_carryOutNote_13 (by decide) ?_
    exact X_z0 rfl dX0_carryOutNote_14
  · skip
    refine X_aload_n 0 dX0_carryOutNote_15 rfl rfl ?_
    refine X_iconst (v := (0 : Int32)) dX0_carryOutNote_16 (by decide) ?_
    refine X_putZ kF_X0_27 rfl rfl dX0_carryOutNote_17 (fun S4 => ?_)
    refine X_iconst (v := (1 : Int32)) dX0_carryOutNote_20 (by decide) ?_
    exact X_z1 rfl dX0_carryOutNote_21
set_option maxRecDepth 100000 in
theorem kC_X0_carryOutNote : g_okC M_X0_carryOutNote 0 := And.intro (g_t (i := 422) rfl (by decide +kernel)) (And.intro (g_nd nd_4_ok (k := 16) rfl) (And.intro (by decide) (And.intro (by decide) (by decide +kernel))))
def M_X2_copyValue : gM := (yX2_copyValue, cX2_copyValue, 4, none, 1, 26)
def f_X2_copyValue (S : gS) (a0 : Nat) (p1 : Int32) (p2 : Nat) (p3 : Int32) : Option (gS) :=
g_getR S 2 0 p2 fun a1 =>
g_getR S 2 0 a0 fun a2 =>
g_cpL S a1 (p3 * (4 : Int32)) a2 (p1 * (4 : Int32)) (4 : Int32) fun S3 =>
some S3
set_option maxRecDepth 100000 in
set_option maxHeartbeats 4000000 in
theorem c_X2_copyValue (E : gE) (S : gS) (a0 : Nat) (p1 : Int32) (p2 : Nat) (p3 : Int32) : gC gV E M_X2_copyValue [.ref a0, .int p1, .ref p2, .int p3] S (f_X2_copyValue S a0 p1 p2 p3) := by
  refine gC.of (by decide) (Nat.le_of_ble_eq_true rfl) ?_
  unfold f_X2_copyValue
  show gJ gV E M_X2_copyValue _ _ 0 [(0, .ref a0), (1, .int p1), (2, .ref p2), (3, .int p3)] [] S _
  refine X_aload_n 2 dX2_copyValue_0 rfl rfl ?_
  refine X_getR kF_X2_11 rfl dX2_copyValue_1 (fun a1 => ?_)
  refine X_iload_n 3 dX2_copyValue_4 rfl rfl ?_
  refine X_iconst (v := (4 : Int32)) dX2_copyValue_5 (by decide) ?_
  refine X_imul dX2_copyValue_6 ?_
  refine X_aload_n 0 dX2_copyValue_7 rfl rfl ?_
  refine X_getR kF_X2_11 rfl dX2_copyValue_8 (fun a2 => ?_)
  refine X_iload_n 1 dX2_copyValue_11 rfl rfl ?_
  refine X_iconst (v := (4 : Int32)) dX2_copyValue_12 (by decide) ?_
  refine X_imul dX2_copyValue_13 ?_
  refine X_iconst (v := (4 : Int32)) dX2_copyValue_14 (by decide) ?_
  refine X_cpL kL_X2_15 kN_copy kS_copy kJ_System (by decide) (Nat.le_of_ble_eq_true rfl) dX2_copyValue_15 (fun S3 => ?_)
  exact X_vret rfl dX2_copyValue_18
set_option maxRecDepth 100000 in
theorem kC_X2_copyValue : g_okC M_X2_copyValue 3 := And.intro (g_t (i := 339) rfl (by decide +kernel)) (And.intro (g_nd nd_0_ok (k := 19) rfl) (And.intro (by decide) (And.intro (by decide) (by decide +kernel))))
def M_X2_clearAll : gM := (yX2_clearAll, cX2_clearAll, 2, none, 1, 25)
def l_X2_clearAll_2 (u0 : Nat) : Nat → gS → Int32 → Option (gS)
  | 0, _, _ => none
  | n + 1, S, u1 =>
    if (8 : Int32) ≤ u1 then (
    some S)
    else (
    g_cVV S 2 u0 (f_X2_setNumber S u0 u1 (0 : Int64)) fun S1 =>
    l_X2_clearAll_2 u0 n S1 (u1 + (1 : Int32)) )
def f_X2_clearAll (S : gS) (a0 : Nat) : Option (gS) :=
l_X2_clearAll_2 a0 100 S (0 : Int32) 
set_option maxRecDepth 100000 in
set_option maxHeartbeats 4000000 in
theorem j_X2_clearAll_2 (E : gE) {n0 s0 : Nat} (u0 : Nat) : ∀ (n : Nat) (S : gS) (u1 : Int32), gJ gV E M_X2_clearAll n0 s0 2 [(0, .ref u0), (1, .int u1)] [] S (l_X2_clearAll_2 u0 n S u1 ) := by
  intro n
  induction n with
  | zero =>
    intros
    rw [l_X2_clearAll_2]
    exact gJ.none
  | succ n ih =>
    intro S u1  
    rw [l_X2_clearAll_2]
    refine X_iload_n 1 dX2_clearAll_2 rfl rfl ?_
    refine X_bipush (v := (8 : Int32)) dX2_clearAll_3 (by decide) ?_
    refine X_icmp_ge (tgt := 20) dX2_clearAll_5 (by decide) ?_ ?_
    · skip
      exact X_vret rfl dX2_clearAll_20
    · skip
      refine X_aload_n 0 dX2_clearAll_8 rfl rfl ?_
      refine X_iload_n 1 dX2_clearAll_9 rfl rfl ?_
      refine X_lconst (v := (0 : Int64)) dX2_clearAll_10 (by decide) ?_
      refine X_callVV (ci := 2) (As := [.int u1, .long (0 : Int64)]) (st := []) (c_X2_setNumber E S u0 u1 (0 : Int64)) (by decide) rfl kC_X2_setNumber kL_X2_21 kI_X2_setNumber kE_X2_setNumber (by unfold g_okR; decide) rfl (Nat.le_of_ble_eq_true rfl) dX2_clearAll_11 (fun S1 => ?_)
      refine X_iinc (k := 1) (x := u1) (v := (1 : Int32)) (lv2 := [(1, .int (u1 + (1 : Int32))), (0, .ref u0)]) dX2_clearAll_14 rfl (by decide) (by decide) rfl ?_
      refine X_goto (tgt := 2) dX2_clearAll_17 (by decide) ?_
      exact X_sub [1, 0] rfl (ih _ _)
set_option maxRecDepth 100000 in
set_option maxHeartbeats 4000000 in
theorem c_X2_clearAll (E : gE) (S : gS) (a0 : Nat) : gC gV E M_X2_clearAll [.ref a0] S (f_X2_clearAll S a0) := by
  refine gC.of (by decide) (Nat.le_of_ble_eq_true rfl) ?_
  unfold f_X2_clearAll
  show gJ gV E M_X2_clearAll _ _ 0 [(0, .ref a0)] [] S _
  refine X_iconst (v := (0 : Int32)) dX2_clearAll_0 (by decide) ?_
  refine X_istore_n (lv2 := [(1, .int (0 : Int32)), (0, .ref a0)]) dX2_clearAll_1 rfl (by decide) rfl ?_
  exact X_sub [1, 0] rfl (j_X2_clearAll_2 E a0 100 _ _)
set_option maxRecDepth 100000 in
theorem kC_X2_clearAll : g_okC M_X2_clearAll 0 := And.intro (g_t (i := 330) rfl (by decide +kernel)) (And.intro (g_nd nd_0_ok (k := 19) rfl) (And.intro (by decide) (And.intro (by decide) (by decide +kernel))))
