def M_X8_init : gM := (yX8_init, cX8_init, 1, none, 4, 81)
def f_X8_init (S : gS) (a0 : Nat) : Option (gS) :=
g_new S 0 fun a1 S2 =>
g_cN (f_X0_init S2 a1) fun S3 =>
g_putR S3 8 0 a0 a1 fun S4 =>
g_new S4 7 fun a5 S6 =>
g_cN (f_X7_init S6 a5) fun S7 =>
g_putR S7 8 1 a0 a5 fun S8 =>
g_new S8 1 fun a9 S10 =>
g_cN (f_X1_init S10 a9) fun S11 =>
g_putR S11 8 2 a0 a9 fun S12 =>
g_new S12 2 fun a13 S14 =>
g_cN (f_X2_init S14 a13) fun S15 =>
g_putR S15 8 3 a0 a13 fun S16 =>
g_new S16 5 fun a17 S18 =>
g_cN (f_X5_init S18 a17) fun S19 =>
g_putR S19 8 4 a0 a17 fun S20 =>
g_new S20 5 fun a21 S22 =>
g_cN (f_X5_init S22 a21) fun S23 =>
g_putR S23 8 6 a0 a21 fun S24 =>
g_new S24 5 fun a25 S26 =>
g_cN (f_X5_init S26 a25) fun S27 =>
g_putR S27 8 7 a0 a25 fun S28 =>
g_new S28 3 fun a29 S30 =>
g_cN (f_X3_init S30 a29) fun S31 =>
g_putR S31 8 8 a0 a29 fun S32 =>
g_new S32 3 fun a33 S34 =>
g_cN (f_X3_init S34 a33) fun S35 =>
g_putR S35 8 9 a0 a33 fun S36 =>
some S36
set_option maxRecDepth 100000 in
set_option maxHeartbeats 4000000 in
theorem c_X8_init (E : gE) (S : gS) (a0 : Nat) : gC gV E M_X8_init [.ref a0] S (f_X8_init S a0) := by
  refine gC.of (by decide) (Nat.le_of_ble_eq_true rfl) ?_
  unfold f_X8_init
  show gJ gV E M_X8_init _ _ 0 [(0, .ref a0)] [] S _
  refine X_aload_n 0 dX8_init_0 rfl rfl ?_
  refine X_objInit kL_X8_1 kI_obj kC_obj (by decide) (Nat.le_of_ble_eq_true rfl) dX8_init_1 ?_
  refine X_aload_n 0 dX8_init_4 rfl rfl ?_
  refine X_new kN_X8_7 dX8_init_5 (fun a1 S2 => ?_)
  refine X_dup dX8_init_8 rfl ?_
  refine X_callNV (As := []) (st := [.ref a1, .ref a0]) (c_X0_init E S2 a1) kC_X0_init rfl rfl (by decide +kernel) kI_X0_init (by unfold g_okR; decide) rfl (Nat.le_of_ble_eq_true rfl) dX8_init_9 (fun S3 => ?_)
  refine X_putR kF_X8_10 (Or.inl ⟨_, rfl⟩) (Or.inr ⟨rfl, rfl, rfl⟩) dX8_init_12 (fun S4 => ?_)
  refine X_aload_n 0 dX8_init_15 rfl rfl ?_
  refine X_new kN_X8_16 dX8_init_16 (fun a5 S6 => ?_)
  refine X_dup dX8_init_19 rfl ?_
  refine X_callIV (As := []) (st := [.ref a5, .ref a0]) (c_X7_init E S6 a5) kC_X7_init rfl rfl kL_X8_18 kI_X7_init (by unfold g_okR; decide) rfl (Nat.le_of_ble_eq_true rfl) dX8_init_20 (fun S7 => ?_)
  refine X_putR kF_X8_19 (Or.inl ⟨_, rfl⟩) (Or.inr ⟨rfl, rfl, rfl⟩) dX8_init_23 (fun S8 => ?_)
  refine X_aload_n 0 dX8_init_26 rfl rfl ?_
  refine X_new kN_X8_23 dX8_init_27 (fun a9 S10 => ?_)
  refine X_dup dX8_init_30 rfl ?_
  refine X_callNV (As := []) (st := [.ref a9, .ref a0]) (c_X1_init E S10 a9) kC_X1_init rfl rfl (by decide +kernel) kI_X1_init (by unfold g_okR; decide) rfl (Nat.le_of_ble_eq_true rfl) dX8_init_31 (fun S11 => ?_)
  refine X_putR kF_X8_26 (Or.inl ⟨_, rfl⟩) (Or.inr ⟨rfl, rfl, rfl⟩) dX8_init_34 (fun S12 => ?_)
  refine X_aload_n 0 dX8_init_37 rfl rfl ?_
  refine X_new kN_X8_30 dX8_init_38 (fun a13 S14 => ?_)
  refine X_dup dX8_init_41 rfl ?_
  refine X_callNV (As := []) (st := [.ref a13, .ref a0]) (c_X2_init E S14 a13) kC_X2_init rfl rfl (by decide +kernel) kI_X2_init (by unfold g_okR; decide) rfl (Nat.le_of_ble_eq_true rfl) dX8_init_42 (fun S15 => ?_)
  refine X_putR kF_X8_33 (Or.inl ⟨_, rfl⟩) (Or.inr ⟨rfl, rfl, rfl⟩) dX8_init_45 (fun S16 => ?_)
  refine X_aload_n 0 dX8_init_48 rfl rfl ?_
  refine X_new kN_X8_37 dX8_init_49 (fun a17 S18 => ?_)
  refine X_dup dX8_init_52 rfl ?_
  refine X_callNV (As := []) (st := [.ref a17, .ref a0]) (c_X5_init E S18 a17) kC_X5_init rfl rfl (by decide +kernel) kI_X5_init (by unfold g_okR; decide) rfl (Nat.le_of_ble_eq_true rfl) dX8_init_53 (fun S19 => ?_)
  refine X_putR kF_X8_40 (Or.inl ⟨_, rfl⟩) (Or.inr ⟨rfl, rfl, rfl⟩) dX8_init_56 (fun S20 => ?_)
  refine X_aload_n 0 dX8_init_59 rfl rfl ?_
  refine X_new kN_X8_37 dX8_init_60 (fun a21 S22 => ?_)
  refine X_dup dX8_init_63 rfl ?_
  refine X_callNV (As := []) (st := [.ref a21, .ref a0]) (c_X5_init E S22 a21) kC_X5_init rfl rfl (by decide +kernel) kI_X5_init (by unfold g_okR; decide) rfl (Nat.le_of_ble_eq_true rfl) dX8_init_64 (fun S23 => ?_)
  refine X_putR kF_X8_44 (Or.inl ⟨_, rfl⟩) (Or.inl rfl) dX8_init_67 (fun S24 => ?_)
  refine X_aload_n 0 dX8_init_70 rfl rfl ?_
  refine X_new kN_X8_37 dX8_init_71 (fun a25 S26 => ?_)
  refine X_dup dX8_init_74 rfl ?_
  refine X_callNV (As := []) (st := [.ref a25, .ref a0]) (c_X5_init E S26 a25) kC_X5_init rfl rfl (by decide +kernel) kI_X5_init (by unfold g_okR; decide) rfl (Nat.le_of_ble_eq_true rfl) dX8_init_75 (fun S27 => ?_)
  refine X_putR kF_X8_47 (Or.inl ⟨_, rfl⟩) (Or.inl rfl) dX8_init_78 (fun S28 => ?_)
  refine X_aload_n 0 dX8_init_81 rfl rfl ?_
  refine X_new kN_X8_50 dX8_init_82 (fun a29 S30 => ?_)
  refine X_dup dX8_init_85 rfl ?_
  refine X_callIV (As := []) (st := [.ref a29, .ref a0]) (c_X3_init E S30 a29) kC_X3_init rfl rfl kL_X8_52 kI_X3_init (by unfold g_okR; decide) rfl (Nat.le_of_ble_eq_true rfl) dX8_init_86 (fun S31 => ?_)
  refine X_putR kF_X8_53 (Or.inl ⟨_, rfl⟩) (Or.inl rfl) dX8_init_89 (fun S32 => ?_)
  refine X_aload_n 0 dX8_init_92 rfl rfl ?_
  refine X_new kN_X8_50 dX8_init_93 (fun a33 S34 => ?_)
  refine X_dup dX8_init_96 rfl ?_
  refine X_callIV (As := []) (st := [.ref a33, .ref a0]) (c_X3_init E S34 a33) kC_X3_init rfl rfl kL_X8_52 kI_X3_init (by unfold g_okR; decide) rfl (Nat.le_of_ble_eq_true rfl) dX8_init_97 (fun S35 => ?_)
  refine X_putR kF_X8_57 (Or.inl ⟨_, rfl⟩) (Or.inl rfl) dX8_init_100 (fun S36 => ?_)
  exact X_vret rfl dX8_init_103
set_option maxRecDepth 100000 in
theorem kC_X8_init : g_okC M_X8_init 0 := And.intro (g_t (i := 17) rfl (by decide +kernel)) (And.intro (g_nd nd_10_ok (k := 14) rfl) (And.intro (by decide) (And.intro (by decide) (by decide +kernel))))
def M_X8_backfill : gM := (yX8_backfill, cX8_backfill, 4, some .int, 2, 42)
def l_X8_backfill_24 (u0 : Nat) : Nat → gS → Int32 → Int32 → (gS → Int32 → Int32 → Option (Int32 × gS)) → Option (Int32 × gS)
  | 0, _, _, _, _ => none
  | n + 1, S, u1, u2, K1 =>
    g_getR S 8 1 u0 fun a5 =>
    g_getI S 7 1 a5 fun x6 =>
    if x6 ≤ u2 then (
    K1 S u1 u2)
    else (
    if (4 : Int32) ≤ u1 then (
    K1 S u1 u2)
    else (
    g_getR S 8 1 u0 fun a7 =>
    g_getR S 7 0 a7 fun a8 =>
    g_ldR S 13 a8 u2 fun a9 =>
    g_getI S 4 1 a9 fun x10 =>
    g_jn (fun (S11 : gS) (v12 : Int32) => (
    l_X8_backfill_24 u0 n S11 v12 (u2 + (1 : Int32)) K1)) fun jb13 => (
    if x10 = 0 then (
    jb13 S u1)
    else (
    g_getR S 8 0 u0 fun a14 =>
    g_cVI S 4 a9 (f_X4_diskPlaces S a9) fun x16 S15 =>
    g_cVI S15 0 a14 (f_X0_actTimes S15 a14 x16) fun x18 S17 =>
    if x18 = 0 then (
    some ((-9 : Int32), S17))
    else (
    g_putI S17 4 1 a9 (0 : Int32) fun S19 =>
    jb13 S19 (u1 + (1 : Int32)))))))
def f_X8_backfill (S : gS) (a0 : Nat) : Option (Int32 × gS) :=
g_getR S 8 0 a0 fun a1 =>
g_cVV S 0 a1 (f_X0_startCall S a1) fun S2 =>
g_getR S2 8 0 a0 fun a3 =>
g_getI S2 0 0 a3 fun x4 =>
if x4 = 0 then (
l_X8_backfill_24 a0 100 S2 (0 : Int32) (0 : Int32) (fun S20 v21 v22 => (
if v21 ≤ 0 then (
some (v21, S20))
else (
g_getR S20 8 0 a0 fun a23 =>
g_cVI S20 0 a23 (f_X0_act S20 a23) fun x25 S24 =>
if x25 = 0 then (
some ((-9 : Int32), S24))
else (
some (v21, S24))))))
else (
some ((-8 : Int32), S2))
set_option maxRecDepth 100000 in
set_option maxHeartbeats 4000000 in
theorem j_X8_backfill_24 (E : gE) {n0 s0 : Nat} (u0 : Nat) : ∀ (n : Nat) (S : gS) (u1 : Int32) (u2 : Int32) (K1 : (gS → Int32 → Int32 → Option (Int32 × gS))), (∀ (S : gS) (u1 : Int32) (u2 : Int32), gJ gI E M_X8_backfill n0 s0 88 [(0, .ref u0), (1, .int u1), (2, .int u2)] [] S (K1 S u1 u2)) → gJ gI E M_X8_backfill n0 s0 24 [(0, .ref u0), (1, .int u1), (2, .int u2)] [] S (l_X8_backfill_24 u0 n S u1 u2 K1) := by
  intro n
  induction n with
  | zero =>
    intros
    rw [l_X8_backfill_24]
    exact gJ.none
  | succ n ih =>
    intro S u1 u2 K1 hK1
    rw [l_X8_backfill_24]
    refine X_iload_n 2 dX8_backfill_24 rfl rfl ?_
    refine X_aload_n 0 dX8_backfill_25 rfl rfl ?_
    refine X_getR kF_X8_19 rfl dX8_backfill_26 (fun a5 => ?_)
    refine X_getI kF_X8_107 rfl dX8_backfill_29 (fun x6 => ?_)
    refine X_icmp_ge (tgt := 88) dX8_backfill_32 (by decide) ?_ ?_
    · skip
      exact (hK1 _ _ _)
    · skip
      refine X_iload_n 1 dX8_backfill_35 rfl rfl ?_
      refine X_iconst (v := (4 : Int32)) dX8_backfill_36 (by decide) ?_
      refine X_icmp_ge (tgt := 88) dX8_backfill_37 (by decide) ?_ ?_
      · skip
        exact (hK1 _ _ _)
      · skip
        refine X_aload_n 0 dX8_backfill_40 rfl rfl ?_
        refine X_getR kF_X8_19 rfl dX8_backfill_41 (fun a7 => ?_)
        refine X_getR kF_X8_119 rfl dX8_backfill_44 (fun a8 => ?_)
        refine X_iload_n 2 dX8_backfill_47 rfl rfl ?_
        refine X_aald (Or.inl rfl) dX8_backfill_48 (fun a9 => ?_)
        refine X_astore_n (lv2 := [(3, .ref a9), (0, .ref u0), (1, .int u1), (2, .int u2)]) dX8_backfill_49 rfl (by decide) rfl ?_
        refine X_aload_n 0 dX8_backfill_50 rfl rfl ?_
        refine X_getI kF_X8_197 rfl dX8_backfill_51 (fun x10 => ?_)
        refine X_jn (fun (j : gS → Int32 → Option (Int32 × gS)) => ∀ (S11 : gS) (v12 : Int32), gJ gI E M_X8_backfill n0 s0 82 [(0, .ref u0), (1, .int v12), (2, .int u2), (3, .ref a9)] [] S11 (j S11 v12)) ?_ (fun jb13 hjb13 => ?_)
        · intro S11 v12
          refine X_iinc (k := 2) (x := u2) (v := (1 : Int32)) (lv2 := [(2, .int (u2 + (1 : Int32))), (0, .ref u0), (1, .int v12), (3, .ref a9)]) dX8_backfill_82 rfl (by decide) (by decide) rfl ?_
          refine X_goto (tgt := 24) dX8_backfill_85 (by decide) ?_
          exact X_sub [1, 2, 0] rfl (ih _ _ _ _ hK1)
        · skip
          refine X_if_eq (tgt := 82) dX8_backfill_54 (by decide) ?_ ?_
          · skip
            exact X_sub [1, 2, 3, 0] rfl (hjb13 _ _)
          · skip
            refine X_aload_n 1 dX8_backfill_57 rfl rfl ?_
            refine X_getR kF_X8_10 rfl dX8_backfill_58 (fun a14 => ?_)
            refine X_aload_n 0 dX8_backfill_61 rfl rfl ?_
            refine X_callVI (ci := 4) (As := []) (st := [.ref a14]) (c_X4_diskPlaces E S a9) (by decide) rfl kC_X4_diskPlaces kL_X8_123 kI_X4_diskPlaces kE_X4_diskPlaces (by unfold g_okR; decide) rfl (Nat.le_of_ble_eq_true rfl) dX8_backfill_62 (fun x16 S15 => ?_)
            refine X_callVI (ci := 0) (As := [.int x16]) (st := []) (c_X0_actTimes E S15 a14 x16) (by decide) rfl kC_X0_actTimes kL_X8_129 kI_X0_actTimes kE_X0_actTimes (by unfold g_okR; decide) rfl (Nat.le_of_ble_eq_true rfl) dX8_backfill_65 (fun x18 S17 => ?_)
            refine X_if_ne (tgt := 74) dX8_backfill_68 (by decide) ?_ ?_
            · skip
              refine X_bipush (v := (-9 : Int32)) dX8_backfill_71 (by decide) ?_
              exact X_iret rfl dX8_backfill_73
            · skip
              refine X_aload_n 0 dX8_backfill_74 rfl rfl ?_
              refine X_iconst (v := (0 : Int32)) dX8_backfill_75 (by decide) ?_
              refine X_putI kF_X8_197 rfl rfl dX8_backfill_76 (fun S19 => ?_)
              refine X_iinc (k := 2) (x := u1) (v := (1 : Int32)) (lv2 := [(1, .int (u1 + (1 : Int32))), (3, .ref a9), (0, .ref u0), (2, .int u2)]) dX8_backfill_79 rfl (by decide) (by decide) rfl ?_
              exact X_sub [2, 0, 3, 1] rfl (hjb13 _ _)
set_option maxRecDepth 100000 in
set_option maxHeartbeats 4000000 in
theorem c_X8_backfill (E : gE) (S : gS) (a0 : Nat) : gC gI E M_X8_backfill [.ref a0] S (f_X8_backfill S a0) := by
  refine gC.of (by decide) (Nat.le_of_ble_eq_true rfl) ?_
  unfold f_X8_backfill
  show gJ gI E M_X8_backfill _ _ 0 [(0, .ref a0)] [] S _
  refine X_aload_n 0 dX8_backfill_0 rfl rfl ?_
  refine X_getR kF_X8_10 rfl dX8_backfill_1 (fun a1 => ?_)
  refine X_callVV (ci := 0) (As := []) (st := []) (c_X0_startCall E S a1) (by decide) rfl kC_X0_startCall kL_X8_94 kI_X0_startCall kE_X0_startCall (by unfold g_okR; decide) rfl (Nat.le_of_ble_eq_true rfl) dX8_backfill_4 (fun S2 => ?_)
  refine X_aload_n 0 dX8_backfill_7 rfl rfl ?_
  refine X_getR kF_X8_10 rfl dX8_backfill_8 (fun a3 => ?_)
  refine X_getI kF_X8_97 rfl dX8_backfill_11 (fun x4 => ?_)
  refine X_if_eq (tgt := 20) dX8_backfill_14 (by decide) ?_ ?_
  · skip
    refine X_iconst (v := (0 : Int32)) dX8_backfill_20 (by decide) ?_
    refine X_istore_n (lv2 := [(1, .int (0 : Int32)), (0, .ref a0)]) dX8_backfill_21 rfl (by decide) rfl ?_
    refine X_iconst (v := (0 : Int32)) dX8_backfill_22 (by decide) ?_
    refine X_istore_n (lv2 := [(2, .int (0 : Int32)), (1, .int (0 : Int32)), (0, .ref a0)]) dX8_backfill_23 rfl (by decide) rfl ?_
    refine X_sub [2, 1, 0] rfl (j_X8_backfill_24 E a0 100 _ _ _ _ (fun S20 v21 v22 => ?_))
    refine X_iload_n 1 dX8_backfill_88 rfl rfl ?_
    refine X_if_le (tgt := 105) dX8_backfill_89 (by decide) ?_ ?_
    · skip
      refine X_iload_n 1 dX8_backfill_105 rfl rfl ?_
      exact X_iret rfl dX8_backfill_106
    · skip
      refine X_aload_n 0 dX8_backfill_92 rfl rfl ?_
      refine X_getR kF_X8_10 rfl dX8_backfill_93 (fun a23 => ?_)
      refine X_callVI (ci := 0) (As := []) (st := []) (c_X0_act E S20 a23) (by decide) rfl kC_X0_act kL_X8_108 kI_X0_act kE_X0_act (by unfold g_okR; decide) rfl (Nat.le_of_ble_eq_true rfl) dX8_backfill_96 (fun x25 S24 => ?_)
      refine X_if_ne (tgt := 105) dX8_backfill_99 (by decide) ?_ ?_
      · skip
        refine X_bipush (v := (-9 : Int32)) dX8_backfill_102 (by decide) ?_
        exact X_iret rfl dX8_backfill_104
      · skip
        refine X_iload_n 1 dX8_backfill_105 rfl rfl ?_
        exact X_iret rfl dX8_backfill_106
  · skip
    refine X_bipush (v := (-8 : Int32)) dX8_backfill_17 (by decide) ?_
    exact X_iret rfl dX8_backfill_19
set_option maxRecDepth 100000 in
theorem kC_X8_backfill : g_okC M_X8_backfill 0 := And.intro (g_t (i := 548) rfl (by decide +kernel)) (And.intro (g_nd nd_10_ok (k := 14) rfl) (And.intro (by decide) (And.intro (by decide) (by decide +kernel))))
def M_X8_runPlan : gM := (yX8_runPlan, cX8_runPlan, 4, none, 5, 121)
def l_X8_runPlan_33 (u0 : Nat) (u1 : Nat) : Nat → gS → Int32 → Option (gS)
  | 0, _, _ => none
  | n + 1, S, u2 =>
    g_getR S 8 1 u0 fun a8 =>
    g_getI S 7 1 a8 fun x9 =>
    if x9 ≤ u2 then (
    some S)
    else (
    g_getR S 8 1 u0 fun a10 =>
    g_getR S 7 0 a10 fun a11 =>
    g_ldR S 13 a11 u2 fun a12 =>
    g_getR S 8 9 u0 fun a13 =>
    g_getR S 4 3 a12 fun a14 =>
    g_getR S 4 4 a12 fun a15 =>
    g_cVV S 3 a13 (f_X3_makeUp S a13 a14 a15) fun S16 =>
    g_cVV S16 4 a12 (f_X4_markBegun S16 a12) fun S17 =>
    l_X8_runPlan_33 u0 u1 n S17 (u2 + (1 : Int32)) )
def f_X8_runPlan (S : gS) (a0 : Nat) : Option (gS) :=
g_getR S 8 9 a0 fun a1 =>
g_getR S 8 8 a0 fun a2 =>
g_putR S 8 9 a0 a2 fun S3 =>
g_putR S3 8 8 a0 a1 fun S4 =>
g_getR S4 8 8 a0 fun a5 =>
g_putI S4 3 1 a5 (0 : Int32) fun S6 =>
g_putZ S6 8 10 a0 (1 : Int32) fun S7 =>
l_X8_runPlan_33 a0 a1 100 S7 (0 : Int32) 
set_option maxRecDepth 100000 in
set_option maxHeartbeats 4000000 in
theorem j_X8_runPlan_33 (E : gE) {n0 s0 : Nat} (u0 : Nat) (u1 : Nat) : ∀ (n : Nat) (S : gS) (u2 : Int32), gJ gV E M_X8_runPlan n0 s0 33 [(0, .ref u0), (1, .ref u1), (2, .int u2)] [] S (l_X8_runPlan_33 u0 u1 n S u2 ) := by
  intro n
  induction n with
  | zero =>
    intros
    rw [l_X8_runPlan_33]
    exact gJ.none
  | succ n ih =>
    intro S u2  
    rw [l_X8_runPlan_33]
    refine X_iload_n 2 dX8_runPlan_33 rfl rfl ?_
    refine X_aload_n 0 dX8_runPlan_34 rfl rfl ?_
    refine X_getR kF_X8_19 rfl dX8_runPlan_35 (fun a8 => ?_)
    refine X_getI kF_X8_107 rfl dX8_runPlan_38 (fun x9 => ?_)
    refine X_icmp_ge (tgt := 79) dX8_runPlan_41 (by decide) ?_ ?_
    · skip
      exact X_vret rfl dX8_runPlan_79
    · skip
      refine X_aload_n 0 dX8_runPlan_44 rfl rfl ?_
      refine X_getR kF_X8_19 rfl dX8_runPlan_45 (fun a10 => ?_)
      refine X_getR kF_X8_119 rfl dX8_runPlan_48 (fun a11 => ?_)
      refine X_iload_n 2 dX8_runPlan_51 rfl rfl ?_
      refine X_aald (Or.inl rfl) dX8_runPlan_52 (fun a12 => ?_)
      refine X_astore_n (lv2 := [(3, .ref a12), (0, .ref u0), (1, .ref u1), (2, .int u2)]) dX8_runPlan_53 rfl (by decide) rfl ?_
      refine X_aload_n 1 dX8_runPlan_54 rfl rfl ?_
      refine X_getR kF_X8_57 rfl dX8_runPlan_55 (fun a13 => ?_)
      refine X_aload_n 0 dX8_runPlan_58 rfl rfl ?_
      refine X_getR kF_X8_142 rfl dX8_runPlan_59 (fun a14 => ?_)
      refine X_aload_n 0 dX8_runPlan_62 rfl rfl ?_
      refine X_getR kF_X8_139 rfl dX8_runPlan_63 (fun a15 => ?_)
      refine X_callVV (ci := 3) (As := [.ref a14, .ref a15]) (st := []) (c_X3_makeUp E S a13 a14 a15) (by decide) rfl kC_X3_makeUp kL_X8_232 kI_X3_makeUp kE_X3_makeUp (by unfold g_okR; decide) rfl (Nat.le_of_ble_eq_true rfl) dX8_runPlan_66 (fun S16 => ?_)
      refine X_aload_n 0 dX8_runPlan_69 rfl rfl ?_
      refine X_callVV (ci := 4) (As := []) (st := []) (c_X4_markBegun E S16 a12) (by decide) rfl kC_X4_markBegun kL_X8_239 kI_X4_markBegun kE_X4_markBegun (by unfold g_okR; decide) rfl (Nat.le_of_ble_eq_true rfl) dX8_runPlan_70 (fun S17 => ?_)
      refine X_iinc (k := 3) (x := u2) (v := (1 : Int32)) (lv2 := [(2, .int (u2 + (1 : Int32))), (3, .ref a12), (0, .ref u0), (1, .ref u1)]) dX8_runPlan_73 rfl (by decide) (by decide) rfl ?_
      refine X_goto (tgt := 33) dX8_runPlan_76 (by decide) ?_
      exact X_sub [2, 3, 0] rfl (ih _ _)
set_option maxRecDepth 100000 in
set_option maxHeartbeats 4000000 in
theorem c_X8_runPlan (E : gE) (S : gS) (a0 : Nat) : gC gV E M_X8_runPlan [.ref a0] S (f_X8_runPlan S a0) := by
  refine gC.of (by decide) (Nat.le_of_ble_eq_true rfl) ?_
  unfold f_X8_runPlan
  show gJ gV E M_X8_runPlan _ _ 0 [(0, .ref a0)] [] S _
  refine X_aload_n 0 dX8_runPlan_0 rfl rfl ?_
  refine X_getR kF_X8_57 rfl dX8_runPlan_1 (fun a1 => ?_)
  refine X_astore_n (lv2 := [(1, .ref a1), (0, .ref a0)]) dX8_runPlan_4 rfl (by decide) rfl ?_
  refine X_aload_n 1 dX8_runPlan_5 rfl rfl ?_
  refine X_aload_n 1 dX8_runPlan_6 rfl rfl ?_
  refine X_getR kF_X8_53 rfl dX8_runPlan_7 (fun a2 => ?_)
  refine X_putR kF_X8_57 (Or.inl ⟨_, rfl⟩) (Or.inl rfl) dX8_runPlan_10 (fun S3 => ?_)
  refine X_aload_n 1 dX8_runPlan_13 rfl rfl ?_
  refine X_aload_n 0 dX8_runPlan_14 rfl rfl ?_
  refine X_putR kF_X8_53 (Or.inl ⟨_, rfl⟩) (Or.inl rfl) dX8_runPlan_15 (fun S4 => ?_)
  refine X_aload_n 1 dX8_runPlan_18 rfl rfl ?_
  refine X_getR kF_X8_53 rfl dX8_runPlan_19 (fun a5 => ?_)
  refine X_iconst (v := (0 : Int32)) dX8_runPlan_22 (by decide) ?_
  refine X_putI kF_X8_67 rfl rfl dX8_runPlan_23 (fun S6 => ?_)
  refine X_aload_n 1 dX8_runPlan_26 rfl rfl ?_
  refine X_iconst (v := (1 : Int32)) dX8_runPlan_27 (by decide) ?_
  refine X_putZ kF_X8_101 rfl rfl dX8_runPlan_28 (fun S7 => ?_)
  refine X_iconst (v := (0 : Int32)) dX8_runPlan_31 (by decide) ?_
  refine X_istore_n (lv2 := [(2, .int (0 : Int32)), (1, .ref a1), (0, .ref a0)]) dX8_runPlan_32 rfl (by decide) rfl ?_
  exact X_sub [2, 1, 0] rfl (j_X8_runPlan_33 E a0 a1 100 _ _)
set_option maxRecDepth 100000 in
theorem kC_X8_runPlan : g_okC M_X8_runPlan 0 := And.intro (g_t (i := 520) rfl (by decide +kernel)) (And.intro (g_nd nd_10_ok (k := 14) rfl) (And.intro (by decide) (And.intro (by decide) (by decide +kernel))))
def M_X8_begin : gM := (yX8_begin, cX8_begin, 2, some .int, 6, 144)
def f_X8_begin (S : gS) (a0 : Nat) : Option (Int32 × gS) :=
g_getR S 8 0 a0 fun a1 =>
g_cVV S 0 a1 (f_X0_startCall S a1) fun S2 =>
g_getR S2 8 0 a0 fun a3 =>
g_getI S2 0 0 a3 fun x4 =>
if x4 = 0 then (
g_getI S2 8 10 a0 fun x5 =>
if x5 = 0 then (
g_getR S2 8 8 a0 fun a6 =>
g_getI S2 3 1 a6 fun x7 =>
if x7 = 0 then (
some ((-2 : Int32), S2))
else (
g_getR S2 8 1 a0 fun a8 =>
g_cVI S2 7 a8 (f_X7_countShadowed S2 a8) fun x10 S9 =>
if x10 ≤ 0 then (
g_getI S9 8 11 a0 fun x11 =>
if x11 = (30 : Int32) then (
some ((-4 : Int32), S9))
else (
g_getR S9 8 8 a0 fun a12 =>
g_getR S9 8 6 a0 fun a13 =>
g_getR S9 8 7 a0 fun a14 =>
g_cVI S9 3 a12 (f_X3_firstWrongStep S9 a12 a13 a14) fun x16 S15 =>
if x16 < 0 then (
g_getR S15 8 0 a0 fun a17 =>
g_cVI S15 0 a17 (f_X0_act S15 a17) fun x19 S18 =>
if x19 = 0 then (
some ((-9 : Int32), S18))
else (
g_cVV S18 8 a0 (f_X8_runPlan S18 a0) fun S20 =>
g_getR S20 8 7 a0 fun a21 =>
g_getI S20 5 2 a21 fun x22 =>
some (x22, S20)))
else (
some (((-10 : Int32) - x16), S15))))
else (
some ((-2 : Int32), S9))))
else (
some ((-2 : Int32), S2)))
else (
some ((-8 : Int32), S2))
set_option maxRecDepth 100000 in
set_option maxHeartbeats 4000000 in
theorem c_X8_begin (E : gE) (S : gS) (a0 : Nat) : gC gI E M_X8_begin [.ref a0] S (f_X8_begin S a0) := by
  refine gC.of (by decide) (Nat.le_of_ble_eq_true rfl) ?_
  unfold f_X8_begin
  show gJ gI E M_X8_begin _ _ 0 [(0, .ref a0)] [] S _
  refine X_aload_n 0 dX8_begin_0 rfl rfl ?_
  refine X_getR kF_X8_10 rfl dX8_begin_1 (fun a1 => ?_)
  refine X_callVV (ci := 0) (As := []) (st := []) (c_X0_startCall E S a1) (by decide) rfl kC_X0_startCall kL_X8_94 kI_X0_startCall kE_X0_startCall (by unfold g_okR; decide) rfl (Nat.le_of_ble_eq_true rfl) dX8_begin_4 (fun S2 => ?_)
  refine X_aload_n 0 dX8_begin_7 rfl rfl ?_
  refine X_getR kF_X8_10 rfl dX8_begin_8 (fun a3 => ?_)
  refine X_getI kF_X8_97 rfl dX8_begin_11 (fun x4 => ?_)
  refine X_if_eq (tgt := 20) dX8_begin_14 (by decide) ?_ ?_
  · skip
    refine X_aload_n 0 dX8_begin_20 rfl rfl ?_
    refine X_getI kF_X8_101 rfl dX8_begin_21 (fun x5 => ?_)
    refine X_if_ne (tgt := 47) dX8_begin_24 (by decide) ?_ ?_
    · skip
      refine X_aload_n 0 dX8_begin_27 rfl rfl ?_
      refine X_getR kF_X8_53 rfl dX8_begin_28 (fun a6 => ?_)
      refine X_getI kF_X8_67 rfl dX8_begin_31 (fun x7 => ?_)
      refine X_if_eq (tgt := 47) dX8_begin_34 (by decide) ?_ ?_
      · skip
        refine X_bipush (v := (-2 : Int32)) dX8_begin_47 (by decide) ?_
        exact X_iret rfl dX8_begin_49
      · skip
        refine X_aload_n 0 dX8_begin_37 rfl rfl ?_
        refine X_getR kF_X8_19 rfl dX8_begin_38 (fun a8 => ?_)
        refine X_callVI (ci := 7) (As := []) (st := []) (c_X7_countShadowed E S2 a8) (by decide) rfl kC_X7_countShadowed kL_X8_175 kI_X7_countShadowed kE_X7_countShadowed (by unfold g_okR; decide) rfl (Nat.le_of_ble_eq_true rfl) dX8_begin_41 (fun x10 S9 => ?_)
        refine X_if_le (tgt := 50) dX8_begin_44 (by decide) ?_ ?_
        · skip
          refine X_aload_n 0 dX8_begin_50 rfl rfl ?_
          refine X_getI kF_X8_178 rfl dX8_begin_51 (fun x11 => ?_)
          refine X_bipush (v := (30 : Int32)) dX8_begin_54 (by decide) ?_
          refine X_icmp_ne (tgt := 62) dX8_begin_56 (by decide) ?_ ?_
          · skip
            refine X_bipush (v := (-4 : Int32)) dX8_begin_59 (by decide) ?_
            exact X_iret rfl dX8_begin_61
          · skip
            refine X_aload_n 0 dX8_begin_62 rfl rfl ?_
            refine X_getR kF_X8_53 rfl dX8_begin_63 (fun a12 => ?_)
            refine X_aload_n 0 dX8_begin_66 rfl rfl ?_
            refine X_getR kF_X8_44 rfl dX8_begin_67 (fun a13 => ?_)
            refine X_aload_n 0 dX8_begin_70 rfl rfl ?_
            refine X_getR kF_X8_47 rfl dX8_begin_71 (fun a14 => ?_)
            refine X_callVI (ci := 3) (As := [.ref a13, .ref a14]) (st := []) (c_X3_firstWrongStep E S9 a12 a13 a14) (by decide) rfl kC_X3_firstWrongStep kL_X8_181 kI_X3_firstWrongStep kE_X3_firstWrongStep (by unfold g_okR; decide) rfl (Nat.le_of_ble_eq_true rfl) dX8_begin_74 (fun x16 S15 => ?_)
            refine X_istore_n (lv2 := [(1, .int x16), (0, .ref a0)]) dX8_begin_77 rfl (by decide) rfl ?_
            refine X_iload_n 0 dX8_begin_78 rfl rfl ?_
            refine X_if_lt (tgt := 87) dX8_begin_79 (by decide) ?_ ?_
            · skip
              refine X_aload_n 1 dX8_begin_87 rfl rfl ?_
              refine X_getR kF_X8_10 rfl dX8_begin_88 (fun a17 => ?_)
              refine X_callVI (ci := 0) (As := []) (st := []) (c_X0_act E S15 a17) (by decide) rfl kC_X0_act kL_X8_108 kI_X0_act kE_X0_act (by unfold g_okR; decide) rfl (Nat.le_of_ble_eq_true rfl) dX8_begin_91 (fun x19 S18 => ?_)
              refine X_if_ne (tgt := 100) dX8_begin_94 (by decide) ?_ ?_
              · skip
                refine X_bipush (v := (-9 : Int32)) dX8_begin_97 (by decide) ?_
                exact X_iret rfl dX8_begin_99
              · skip
                refine X_aload_n 1 dX8_begin_100 rfl rfl ?_
                refine X_callVV (ci := 8) (As := []) (st := []) (c_X8_runPlan E S18 a0) (by decide) rfl kC_X8_runPlan kL_X8_185 kI_X8_runPlan kE_X8_runPlan (by unfold g_okR; decide) rfl (Nat.le_of_ble_eq_true rfl) dX8_begin_101 (fun S20 => ?_)
                refine X_aload_n 1 dX8_begin_104 rfl rfl ?_
                refine X_getR kF_X8_47 rfl dX8_begin_105 (fun a21 => ?_)
                refine X_getI kF_X8_152 rfl dX8_begin_108 (fun x22 => ?_)
                exact X_iret rfl dX8_begin_111
            · skip
              refine X_bipush (v := (-10 : Int32)) dX8_begin_82 (by decide) ?_
              refine X_iload_n 0 dX8_begin_84 rfl rfl ?_
              refine X_isub dX8_begin_85 ?_
              exact X_iret rfl dX8_begin_86
        · skip
          refine X_bipush (v := (-2 : Int32)) dX8_begin_47 (by decide) ?_
          exact X_iret rfl dX8_begin_49
    · skip
      refine X_bipush (v := (-2 : Int32)) dX8_begin_47 (by decide) ?_
      exact X_iret rfl dX8_begin_49
  · skip
    refine X_bipush (v := (-8 : Int32)) dX8_begin_17 (by decide) ?_
    exact X_iret rfl dX8_begin_19
set_option maxRecDepth 100000 in
theorem kC_X8_begin : g_okC M_X8_begin 0 := And.intro (g_t (i := 481) rfl (by decide +kernel)) (And.intro (g_nd nd_10_ok (k := 14) rfl) (And.intro (by decide) (And.intro (by decide) (by decide +kernel))))
def M_X8_column : gM := (yX8_column, cX8_column, 4, some .int, 0, 0)
def f_X8_column (S : gS) (a0 : Nat) (p1 : Int32) (p2 : Int32) : Option (Int32 × gS) :=
g_getR S 8 0 a0 fun a1 =>
g_getI S 0 0 a1 fun x2 =>
if x2 = 0 then (
g_jn (fun (S3 : gS) => (
g_jn (fun (S5 : gS) (w6 : Nat) => (
if p1 < 0 then (
some ((-1 : Int32), S5))
else (
g_getI S5 5 2 w6 fun x8 =>
if p1 < x8 then (
g_getR S5 5 0 w6 fun a9 =>
g_ldI S5 10 a9 p1 fun x10 =>
g_getR S5 5 1 w6 fun a11 =>
g_ldI S5 10 a11 p1 fun x12 =>
some ((((8 : Int32) * x10) + x12), S5))
else (
some ((-1 : Int32), S5))))) fun jb7 => (
if p2 = 0 then (
g_getR S3 8 6 a0 fun a13 =>
jb7 S3 a13)
else (
g_getR S3 8 7 a0 fun a14 =>
jb7 S3 a14)))) fun jb4 => (
if p2 = 0 then (
jb4 S)
else (
g_getI S 8 10 a0 fun x15 =>
if x15 = 0 then (
some ((-2 : Int32), S))
else (
jb4 S))))
else (
some ((-8 : Int32), S))
set_option maxRecDepth 100000 in
set_option maxHeartbeats 4000000 in
theorem c_X8_column (E : gE) (S : gS) (a0 : Nat) (p1 : Int32) (p2 : Int32) : gC gI E M_X8_column [.ref a0, .int p1, .int p2] S (f_X8_column S a0 p1 p2) := by
  refine gC.of (by decide) (Nat.le_of_ble_eq_true rfl) ?_
  unfold f_X8_column
  show gJ gI E M_X8_column _ _ 0 [(0, .ref a0), (1, .int p1), (2, .int p2)] [] S _
  refine X_aload_n 0 dX8_column_0 rfl rfl ?_
  refine X_getR kF_X8_10 rfl dX8_column_1 (fun a1 => ?_)
  refine X_getI kF_X8_97 rfl dX8_column_4 (fun x2 => ?_)
  refine X_if_eq (tgt := 13) dX8_column_7 (by decide) ?_ ?_
  · skip
    refine X_iload_n 2 dX8_column_13 rfl rfl ?_
    refine X_jn (fun (j : gS → Option (Int32 × gS)) => ∀ (S3 : gS), gJ gI E M_X8_column (gn S) (gsl S) 27 [(0, .ref a0), (1, .int p1), (2, .int p2)] [] S3 (j S3)) ?_ (fun jb4 hjb4 => ?_)
    · intro S3
      refine X_iload_n 2 dX8_column_27 rfl rfl ?_
      refine X_jn (fun (j : gS → Nat → Option (Int32 × gS)) => ∀ (S5 : gS) (w6 : Nat), gJ gI E M_X8_column (gn S) (gsl S) 42 [(0, .ref a0), (1, .int p1), (2, .int p2)] [.ref w6] S5 (j S5 w6)) ?_ (fun jb7 hjb7 => ?_)
      · intro S5 w6
        refine X_astore_n (lv2 := [(3, .ref w6), (0, .ref a0), (1, .int p1), (2, .int p2)]) dX8_column_42 rfl (by decide) rfl ?_
        refine X_iload_n 2 dX8_column_43 rfl rfl ?_
        refine X_if_lt (tgt := 55) dX8_column_44 (by decide) ?_ ?_
        · skip
          refine X_iconst (v := (-1 : Int32)) dX8_column_55 (by decide) ?_
          exact X_iret rfl dX8_column_56
        · skip
          refine X_iload_n 2 dX8_column_47 rfl rfl ?_
          refine X_aload_n 0 dX8_column_48 rfl rfl ?_
          refine X_getI kF_X8_152 rfl dX8_column_49 (fun x8 => ?_)
          refine X_icmp_lt (tgt := 57) dX8_column_52 (by decide) ?_ ?_
          · skip
            refine X_bipush (v := (8 : Int32)) dX8_column_57 (by decide) ?_
            refine X_aload_n 0 dX8_column_59 rfl rfl ?_
            refine X_getR kF_X8_215 rfl dX8_column_60 (fun a9 => ?_)
            refine X_iload_n 2 dX8_column_63 rfl rfl ?_
            refine X_iald dX8_column_64 (fun x10 => ?_)
            refine X_imul dX8_column_65 ?_
            refine X_aload_n 0 dX8_column_66 rfl rfl ?_
            refine X_getR kF_X8_160 rfl dX8_column_67 (fun a11 => ?_)
            refine X_iload_n 2 dX8_column_70 rfl rfl ?_
            refine X_iald dX8_column_71 (fun x12 => ?_)
            refine X_iadd dX8_column_72 ?_
            exact X_iret rfl dX8_column_73
          · skip
            refine X_iconst (v := (-1 : Int32)) dX8_column_55 (by decide) ?_
            exact X_iret rfl dX8_column_56
      · skip
        refine X_if_eq (tgt := 38) dX8_column_28 (by decide) ?_ ?_
        · skip
          refine X_aload_n 0 dX8_column_38 rfl rfl ?_
          refine X_getR kF_X8_44 rfl dX8_column_39 (fun a13 => ?_)
          exact (hjb7 _ _)
        · skip
          refine X_aload_n 0 dX8_column_31 rfl rfl ?_
          refine X_getR kF_X8_47 rfl dX8_column_32 (fun a14 => ?_)
          refine X_goto (tgt := 42) dX8_column_35 (by decide) ?_
          exact (hjb7 _ _)
    · skip
      refine X_if_eq (tgt := 27) dX8_column_14 (by decide) ?_ ?_
      · skip
        exact (hjb4 _)
      · skip
        refine X_aload_n 0 dX8_column_17 rfl rfl ?_
        refine X_getI kF_X8_101 rfl dX8_column_18 (fun x15 => ?_)
        refine X_if_ne (tgt := 27) dX8_column_21 (by decide) ?_ ?_
        · skip
          refine X_bipush (v := (-2 : Int32)) dX8_column_24 (by decide) ?_
          exact X_iret rfl dX8_column_26
        · skip
          exact (hjb4 _)
  · skip
    refine X_bipush (v := (-8 : Int32)) dX8_column_10 (by decide) ?_
    exact X_iret rfl dX8_column_12
set_option maxRecDepth 100000 in
theorem kC_X8_column : g_okC M_X8_column 2 := And.intro (g_t (i := 576) rfl (by decide +kernel)) (And.intro (g_nd nd_10_ok (k := 14) rfl) (And.intro (by decide) (And.intro (by decide) (by decide +kernel))))
def M_X8_countWhenUp : gM := (yX8_countWhenUp, cX8_countWhenUp, 2, some .int, 1, 22)
def f_X8_countWhenUp (S : gS) (a0 : Nat) (p1 : Int32) : Option (Int32 × gS) :=
if p1 = (0 : Int32) then (
g_getI S 8 11 a0 fun x2 =>
some (x2, S))
else (
if p1 = (1 : Int32) then (
g_getI S 8 10 a0 fun x4 =>
if x4 = 0 then (
some ((0 : Int32), S))
else (
some ((1 : Int32), S)))
else (
if p1 = (2 : Int32) then (
g_getR S 8 6 a0 fun a6 =>
g_getI S 5 2 a6 fun x7 =>
some (x7, S))
else (
if p1 = (3 : Int32) then (
g_getI S 8 10 a0 fun x9 =>
if x9 = 0 then (
some ((0 : Int32), S))
else (
g_getR S 8 7 a0 fun a10 =>
g_getI S 5 2 a10 fun x11 =>
some (x11, S)))
else (
if p1 = (4 : Int32) then (
g_getR S 8 1 a0 fun a13 =>
g_getI S 7 1 a13 fun x14 =>
some (x14, S))
else (
if p1 = (5 : Int32) then (
g_getR S 8 1 a0 fun a16 =>
g_cVI S 7 a16 (f_X7_countLagging S a16) fun x18 S17 =>
some (x18, S17))
else (
g_getR S 8 1 a0 fun a19 =>
g_cVI S 7 a19 (f_X7_countShadowed S a19) fun x21 S20 =>
some (x21, S20)))))))
set_option maxRecDepth 100000 in
set_option maxHeartbeats 4000000 in
theorem c_X8_countWhenUp (E : gE) (S : gS) (a0 : Nat) (p1 : Int32) : gC gI E M_X8_countWhenUp [.ref a0, .int p1] S (f_X8_countWhenUp S a0 p1) := by
  refine gC.of (by decide) (Nat.le_of_ble_eq_true rfl) ?_
  unfold f_X8_countWhenUp
  show gJ gI E M_X8_countWhenUp _ _ 0 [(0, .ref a0), (1, .int p1)] [] S _
  refine X_iload_n 1 dX8_countWhenUp_0 rfl rfl ?_
  by_cases h1 : p1 = (0 : Int32)
  · refine X_eq (if_pos h1) ?_
    refine X_tin (tgt := 40) dX8_countWhenUp_1 (by rw [h1]; decide) (by rw [h1]; decide) (by rw [h1]; rfl) (by decide) ?_
    refine X_aload_n 0 dX8_countWhenUp_40 rfl rfl ?_
    refine X_getI kF_X8_178 rfl dX8_countWhenUp_41 (fun x2 => ?_)
    exact X_iret rfl dX8_countWhenUp_44
  · refine X_eq (if_neg h1) ?_
    by_cases h3 : p1 = (1 : Int32)
    · refine X_eq (if_pos h3) ?_
      refine X_tin (tgt := 45) dX8_countWhenUp_1 (by rw [h3]; decide) (by rw [h3]; decide) (by rw [h3]; rfl) (by decide) ?_
      refine X_aload_n 0 dX8_countWhenUp_45 rfl rfl ?_
      refine X_getI kF_X8_101 rfl dX8_countWhenUp_46 (fun x4 => ?_)
      refine X_if_eq (tgt := 56) dX8_countWhenUp_49 (by decide) ?_ ?_
      · skip
        refine X_iconst (v := (0 : Int32)) dX8_countWhenUp_56 (by decide) ?_
        exact X_iret rfl dX8_countWhenUp_57
      · skip
        refine X_iconst (v := (1 : Int32)) dX8_countWhenUp_52 (by decide) ?_
        refine X_goto (tgt := 57) dX8_countWhenUp_53 (by decide) ?_
        exact X_iret rfl dX8_countWhenUp_57
    · refine X_eq (if_neg h3) ?_
      by_cases h5 : p1 = (2 : Int32)
      · refine X_eq (if_pos h5) ?_
        refine X_tin (tgt := 58) dX8_countWhenUp_1 (by rw [h5]; decide) (by rw [h5]; decide) (by rw [h5]; rfl) (by decide) ?_
        refine X_aload_n 0 dX8_countWhenUp_58 rfl rfl ?_
        refine X_getR kF_X8_44 rfl dX8_countWhenUp_59 (fun a6 => ?_)
        refine X_getI kF_X8_152 rfl dX8_countWhenUp_62 (fun x7 => ?_)
        exact X_iret rfl dX8_countWhenUp_65
      · refine X_eq (if_neg h5) ?_
        by_cases h8 : p1 = (3 : Int32)
        · refine X_eq (if_pos h8) ?_
          refine X_tin (tgt := 66) dX8_countWhenUp_1 (by rw [h8]; decide) (by rw [h8]; decide) (by rw [h8]; rfl) (by decide) ?_
          refine X_aload_n 0 dX8_countWhenUp_66 rfl rfl ?_
          refine X_getI kF_X8_101 rfl dX8_countWhenUp_67 (fun x9 => ?_)
          refine X_if_eq (tgt := 83) dX8_countWhenUp_70 (by decide) ?_ ?_
          · skip
            refine X_iconst (v := (0 : Int32)) dX8_countWhenUp_83 (by decide) ?_
            exact X_iret rfl dX8_countWhenUp_84
          · skip
            refine X_aload_n 0 dX8_countWhenUp_73 rfl rfl ?_
            refine X_getR kF_X8_47 rfl dX8_countWhenUp_74 (fun a10 => ?_)
            refine X_getI kF_X8_152 rfl dX8_countWhenUp_77 (fun x11 => ?_)
            refine X_goto (tgt := 84) dX8_countWhenUp_80 (by decide) ?_
            exact X_iret rfl dX8_countWhenUp_84
        · refine X_eq (if_neg h8) ?_
          by_cases h12 : p1 = (4 : Int32)
          · refine X_eq (if_pos h12) ?_
            refine X_tin (tgt := 85) dX8_countWhenUp_1 (by rw [h12]; decide) (by rw [h12]; decide) (by rw [h12]; rfl) (by decide) ?_
            refine X_aload_n 0 dX8_countWhenUp_85 rfl rfl ?_
            refine X_getR kF_X8_19 rfl dX8_countWhenUp_86 (fun a13 => ?_)
            refine X_getI kF_X8_107 rfl dX8_countWhenUp_89 (fun x14 => ?_)
            exact X_iret rfl dX8_countWhenUp_92
          · refine X_eq (if_neg h12) ?_
            by_cases h15 : p1 = (5 : Int32)
            · refine X_eq (if_pos h15) ?_
              refine X_tin (tgt := 93) dX8_countWhenUp_1 (by rw [h15]; decide) (by rw [h15]; decide) (by rw [h15]; rfl) (by decide) ?_
              refine X_aload_n 0 dX8_countWhenUp_93 rfl rfl ?_
              refine X_getR kF_X8_19 rfl dX8_countWhenUp_94 (fun a16 => ?_)
              refine X_callVI (ci := 7) (As := []) (st := []) (c_X7_countLagging E S a16) (by decide) rfl kC_X7_countLagging kL_X8_242 kI_X7_countLagging kE_X7_countLagging (by unfold g_okR; decide) rfl (Nat.le_of_ble_eq_true rfl) dX8_countWhenUp_97 (fun x18 S17 => ?_)
              exact X_iret rfl dX8_countWhenUp_100
            · refine X_eq (if_neg h15) ?_
              have eh1 : (p1).toInt ≠ 0 := fun q => h1 ((g_i32 q).trans (by decide))
              have eh3 : (p1).toInt ≠ 1 := fun q => h3 ((g_i32 q).trans (by decide))
              have eh5 : (p1).toInt ≠ 2 := fun q => h5 ((g_i32 q).trans (by decide))
              have eh8 : (p1).toInt ≠ 3 := fun q => h8 ((g_i32 q).trans (by decide))
              have eh12 : (p1).toInt ≠ 4 := fun q => h12 ((g_i32 q).trans (by decide))
              have eh15 : (p1).toInt ≠ 5 := fun q => h15 ((g_i32 q).trans (by decide))
              refine X_tout (tgt := 101) dX8_countWhenUp_1 (by omega) (by decide) ?_
              refine X_aload_n 0 dX8_countWhenUp_101 rfl rfl ?_
              refine X_getR kF_X8_19 rfl dX8_countWhenUp_102 (fun a19 => ?_)
              refine X_callVI (ci := 7) (As := []) (st := []) (c_X7_countShadowed E S a19) (by decide) rfl kC_X7_countShadowed kL_X8_175 kI_X7_countShadowed kE_X7_countShadowed (by unfold g_okR; decide) rfl (Nat.le_of_ble_eq_true rfl) dX8_countWhenUp_105 (fun x21 S20 => ?_)
              exact X_iret rfl dX8_countWhenUp_108
set_option maxRecDepth 100000 in
theorem kC_X8_countWhenUp : g_okC M_X8_countWhenUp 1 := And.intro (g_t (i := 568) rfl (by decide +kernel)) (And.intro (g_nd nd_10_ok (k := 14) rfl) (And.intro (by decide) (And.intro (by decide) (by decide +kernel))))
def M_X8_count : gM := (yX8_count, cX8_count, 2, some .int, 2, 43)
def f_X8_count (S : gS) (a0 : Nat) (p1 : Int32) : Option (Int32 × gS) :=
if p1 < 0 then (
some ((-1 : Int32), S))
else (
if p1 ≤ (9 : Int32) then (
if p1 = (7 : Int32) then (
g_getR S 8 0 a0 fun a2 =>
g_getI S 0 3 a2 fun x3 =>
some (x3, S))
else (
if p1 = (8 : Int32) then (
g_getR S 8 8 a0 fun a5 =>
g_getI S 3 1 a5 fun x6 =>
some (x6, S))
else (
if p1 = (9 : Int32) then (
g_getR S 8 0 a0 fun a8 =>
g_getI S 0 4 a8 fun x9 =>
some (x9, S))
else (
g_getR S 8 0 a0 fun a10 =>
g_getI S 0 0 a10 fun x11 =>
if x11 = 0 then (
g_cVI S 8 a0 (f_X8_countWhenUp S a0 p1) fun x13 S12 =>
some (x13, S12))
else (
some ((-8 : Int32), S))))))
else (
some ((-1 : Int32), S)))
set_option maxRecDepth 100000 in
set_option maxHeartbeats 4000000 in
theorem c_X8_count (E : gE) (S : gS) (a0 : Nat) (p1 : Int32) : gC gI E M_X8_count [.ref a0, .int p1] S (f_X8_count S a0 p1) := by
  refine gC.of (by decide) (Nat.le_of_ble_eq_true rfl) ?_
  unfold f_X8_count
  show gJ gI E M_X8_count _ _ 0 [(0, .ref a0), (1, .int p1)] [] S _
  refine X_iload_n 1 dX8_count_0 rfl rfl ?_
  refine X_if_lt (tgt := 10) dX8_count_1 (by decide) ?_ ?_
  · skip
    refine X_iconst (v := (-1 : Int32)) dX8_count_10 (by decide) ?_
    exact X_iret rfl dX8_count_11
  · skip
    refine X_iload_n 1 dX8_count_4 rfl rfl ?_
    refine X_bipush (v := (9 : Int32)) dX8_count_5 (by decide) ?_
    refine X_icmp_le (tgt := 12) dX8_count_7 (by decide) ?_ ?_
    · skip
      refine X_iload_n 1 dX8_count_12 rfl rfl ?_
      by_cases h1 : p1 = (7 : Int32)
      · refine X_eq (if_pos h1) ?_
        refine X_tin (tgt := 40) dX8_count_13 (by rw [h1]; decide) (by rw [h1]; decide) (by rw [h1]; rfl) (by decide) ?_
        refine X_aload_n 0 dX8_count_40 rfl rfl ?_
        refine X_getR kF_X8_10 rfl dX8_count_41 (fun a2 => ?_)
        refine X_getI kF_X8_206 rfl dX8_count_44 (fun x3 => ?_)
        exact X_iret rfl dX8_count_47
      · refine X_eq (if_neg h1) ?_
        by_cases h4 : p1 = (8 : Int32)
        · refine X_eq (if_pos h4) ?_
          refine X_tin (tgt := 48) dX8_count_13 (by rw [h4]; decide) (by rw [h4]; decide) (by rw [h4]; rfl) (by decide) ?_
          refine X_aload_n 0 dX8_count_48 rfl rfl ?_
          refine X_getR kF_X8_53 rfl dX8_count_49 (fun a5 => ?_)
          refine X_getI kF_X8_67 rfl dX8_count_52 (fun x6 => ?_)
          exact X_iret rfl dX8_count_55
        · refine X_eq (if_neg h4) ?_
          by_cases h7 : p1 = (9 : Int32)
          · refine X_eq (if_pos h7) ?_
            refine X_tin (tgt := 56) dX8_count_13 (by rw [h7]; decide) (by rw [h7]; decide) (by rw [h7]; rfl) (by decide) ?_
            refine X_aload_n 0 dX8_count_56 rfl rfl ?_
            refine X_getR kF_X8_10 rfl dX8_count_57 (fun a8 => ?_)
            refine X_getI kF_X8_209 rfl dX8_count_60 (fun x9 => ?_)
            exact X_iret rfl dX8_count_63
          · refine X_eq (if_neg h7) ?_
            have eh1 : (p1).toInt ≠ 7 := fun q => h1 ((g_i32 q).trans (by decide))
            have eh4 : (p1).toInt ≠ 8 := fun q => h4 ((g_i32 q).trans (by decide))
            have eh7 : (p1).toInt ≠ 9 := fun q => h7 ((g_i32 q).trans (by decide))
            refine X_tout (tgt := 64) dX8_count_13 (by omega) (by decide) ?_
            refine X_aload_n 0 dX8_count_64 rfl rfl ?_
            refine X_getR kF_X8_10 rfl dX8_count_65 (fun a10 => ?_)
            refine X_getI kF_X8_97 rfl dX8_count_68 (fun x11 => ?_)
            refine X_if_eq (tgt := 79) dX8_count_71 (by decide) ?_ ?_
            · skip
              refine X_aload_n 0 dX8_count_79 rfl rfl ?_
              refine X_iload_n 1 dX8_count_80 rfl rfl ?_
              refine X_callVI (ci := 8) (As := [.int p1]) (st := []) (c_X8_countWhenUp E S a0 p1) (by decide) rfl kC_X8_countWhenUp kL_X8_212 kI_X8_countWhenUp kE_X8_countWhenUp (by unfold g_okR; decide) rfl (Nat.le_of_ble_eq_true rfl) dX8_count_81 (fun x13 S12 => ?_)
              exact X_iret rfl dX8_count_84
            · skip
              refine X_bipush (v := (-8 : Int32)) dX8_count_74 (by decide) ?_
              refine X_goto (tgt := 84) dX8_count_76 (by decide) ?_
              exact X_iret rfl dX8_count_84
    · skip
      refine X_iconst (v := (-1 : Int32)) dX8_count_10 (by decide) ?_
      exact X_iret rfl dX8_count_11
set_option maxRecDepth 100000 in
theorem kC_X8_count : g_okC M_X8_count 1 := And.intro (g_t (i := 564) rfl (by decide +kernel)) (And.intro (g_nd nd_10_ok (k := 14) rfl) (And.intro (by decide) (And.intro (by decide) (by decide +kernel))))
def M_X8_crash : gM := (yX8_crash, cX8_crash, 2, some .int, 0, 0)
def f_X8_crash (S : gS) (a0 : Nat) (p1 : Int32) : Option (Int32 × gS) :=
if p1 < 0 then (
some ((-1 : Int32), S))
else (
if p1 ≤ (1000 : Int32) then (
g_getR S 8 0 a0 fun a1 =>
g_putI S 0 2 a1 p1 fun S2 =>
some ((1 : Int32), S2))
else (
some ((-1 : Int32), S)))
set_option maxRecDepth 100000 in
set_option maxHeartbeats 4000000 in
theorem c_X8_crash (E : gE) (S : gS) (a0 : Nat) (p1 : Int32) : gC gI E M_X8_crash [.ref a0, .int p1] S (f_X8_crash S a0 p1) := by
  refine gC.of (by decide) (Nat.le_of_ble_eq_true rfl) ?_
  unfold f_X8_crash
  show gJ gI E M_X8_crash _ _ 0 [(0, .ref a0), (1, .int p1)] [] S _
  refine X_iload_n 1 dX8_crash_0 rfl rfl ?_
  refine X_if_lt (tgt := 11) dX8_crash_1 (by decide) ?_ ?_
  · skip
    refine X_iconst (v := (-1 : Int32)) dX8_crash_11 (by decide) ?_
    exact X_iret rfl dX8_crash_12
  · skip
    refine X_iload_n 1 dX8_crash_4 rfl rfl ?_
    refine X_sipush (v := (1000 : Int32)) dX8_crash_5 (by decide) ?_
    refine X_icmp_le (tgt := 13) dX8_crash_8 (by decide) ?_ ?_
    · skip
      refine X_aload_n 0 dX8_crash_13 rfl rfl ?_
      refine X_getR kF_X8_10 rfl dX8_crash_14 (fun a1 => ?_)
      refine X_iload_n 1 dX8_crash_17 rfl rfl ?_
      refine X_putI kF_X8_200 rfl rfl dX8_crash_18 (fun S2 => ?_)
      refine X_iconst (v := (1 : Int32)) dX8_crash_21 (by decide) ?_
      exact X_iret rfl dX8_crash_22
    · skip
      refine X_iconst (v := (-1 : Int32)) dX8_crash_11 (by decide) ?_
      exact X_iret rfl dX8_crash_12
set_option maxRecDepth 100000 in
theorem kC_X8_crash : g_okC M_X8_crash 1 := And.intro (g_t (i := 552) rfl (by decide +kernel)) (And.intro (g_nd nd_10_ok (k := 14) rfl) (And.intro (by decide) (And.intro (by decide) (by decide +kernel))))
def M_X8_isCell : gM := (yX8_isCell, cX8_isCell, 1, some .boolean, 0, 0)
def f_X8_isCell (S : gS) (p0 : Int32) : Option (Int32 × gS) :=
g_jn (fun (S1 : gS) => (
some ((0 : Int32), S1))) fun jb2 => (
if p0 < 0 then (
jb2 S)
else (
if (8 : Int32) ≤ p0 then (
jb2 S)
else (
some ((1 : Int32), S))))
set_option maxRecDepth 100000 in
set_option maxHeartbeats 4000000 in
theorem c_X8_isCell (E : gE) (S : gS) (p0 : Int32) : gC gI E M_X8_isCell [.int p0] S (f_X8_isCell S p0) := by
  refine gC.of (by decide) (Nat.le_of_ble_eq_true rfl) ?_
  unfold f_X8_isCell
  show gJ gI E M_X8_isCell _ _ 0 [(0, .int p0)] [] S _
  refine X_iload_n 0 dX8_isCell_0 rfl rfl ?_
  refine X_jn (fun (j : gS → Option (Int32 × gS)) => ∀ (S1 : gS), gJ gI E M_X8_isCell (gn S) (gsl S) 14 [(0, .int p0)] [] S1 (j S1)) ?_ (fun jb2 hjb2 => ?_)
  · intro S1
    refine X_iconst (v := (0 : Int32)) dX8_isCell_14 (by decide) ?_
    exact X_z0 rfl dX8_isCell_15
  · skip
    refine X_if_lt (tgt := 14) dX8_isCell_1 (by decide) ?_ ?_
    · skip
      exact (hjb2 _)
    · skip
      refine X_iload_n 0 dX8_isCell_4 rfl rfl ?_
      refine X_bipush (v := (8 : Int32)) dX8_isCell_5 (by decide) ?_
      refine X_icmp_ge (tgt := 14) dX8_isCell_7 (by decide) ?_ ?_
      · skip
        exact (hjb2 _)
      · skip
        refine X_iconst (v := (1 : Int32)) dX8_isCell_10 (by decide) ?_
        refine X_goto (tgt := 15) dX8_isCell_11 (by decide) ?_
        exact X_z1 rfl dX8_isCell_15
set_option maxRecDepth 100000 in
theorem kC_X8_isCell : g_okC M_X8_isCell 1 := And.intro (g_t (i := 260) rfl (by decide +kernel)) (And.intro (g_nd nd_10_ok (k := 14) rfl) (And.intro (by decide) (And.intro (by decide) (by decide +kernel))))
def M_X8_joined : gM := (yX8_joined, cX8_joined, 2, some .long, 0, 0)
def f_X8_joined (S : gS) (p0 : Int32) (p1 : Int32) : Option (Int64 × gS) :=
some ((((p0).toInt64 <<< (((32 : Int32)).toInt64 &&& 63)) ||| ((p1).toInt64 &&& (4294967295 : Int64))), S)
set_option maxRecDepth 100000 in
set_option maxHeartbeats 4000000 in
theorem c_X8_joined (E : gE) (S : gS) (p0 : Int32) (p1 : Int32) : gC gL E M_X8_joined [.int p0, .int p1] S (f_X8_joined S p0 p1) := by
  refine gC.of (by decide) (Nat.le_of_ble_eq_true rfl) ?_
  unfold f_X8_joined
  show gJ gL E M_X8_joined _ _ 0 [(0, .int p0), (1, .int p1)] [] S _
  refine X_iload_n 0 dX8_joined_0 rfl rfl ?_
  refine X_i2l dX8_joined_1 ?_
  refine X_bipush (v := (32 : Int32)) dX8_joined_2 (by decide) ?_
  refine X_lshl dX8_joined_4 ?_
  refine X_iload_n 1 dX8_joined_5 rfl rfl ?_
  refine X_i2l dX8_joined_6 ?_
  refine X_ldc2 (v := (4294967295 : Int64)) kK_X8_218 dX8_joined_7 ?_
  refine X_land dX8_joined_10 ?_
  refine X_lor dX8_joined_11 ?_
  exact X_lret rfl dX8_joined_12
set_option maxRecDepth 100000 in
theorem kC_X8_joined : g_okC M_X8_joined 2 := And.intro (g_t (i := 244) rfl (by decide +kernel)) (And.intro (g_nd nd_10_ok (k := 14) rfl) (And.intro (by decide) (And.intro (by decide) (by decide +kernel))))
def M_X8_draft : gM := (yX8_draft, cX8_draft, 4, some .int, 2, 48)
def f_X8_draft (S : gS) (a0 : Nat) (p1 : Int32) (p2 : Int32) (p3 : Int32) : Option (Int32 × gS) :=
g_cI (f_X8_isCell S p1) fun x2 S1 =>
if x2 = 0 then (
some ((-1 : Int32), S1))
else (
g_getR S1 8 2 a0 fun a3 =>
g_cL (f_X8_joined S1 p2 p3) fun x5 S4 =>
g_cVV S4 1 a3 (f_X1_setCell S4 a3 p1 x5) fun S6 =>
some ((1 : Int32), S6))
set_option maxRecDepth 100000 in
set_option maxHeartbeats 4000000 in
theorem c_X8_draft (E : gE) (S : gS) (a0 : Nat) (p1 : Int32) (p2 : Int32) (p3 : Int32) : gC gI E M_X8_draft [.ref a0, .int p1, .int p2, .int p3] S (f_X8_draft S a0 p1 p2 p3) := by
  refine gC.of (by decide) (Nat.le_of_ble_eq_true rfl) ?_
  unfold f_X8_draft
  show gJ gI E M_X8_draft _ _ 0 [(0, .ref a0), (1, .int p1), (2, .int p2), (3, .int p3)] [] S _
  refine X_iload_n 1 dX8_draft_0 rfl rfl ?_
  refine X_callSI (As := [.int p1]) (st := []) (c_X8_isCell E S p1) kC_X8_isCell kL_X8_79 kS_X8_isCell (by unfold g_okR; decide) rfl (Nat.le_of_ble_eq_true rfl) dX8_draft_1 (fun x2 S1 => ?_)
  refine X_if_ne (tgt := 9) dX8_draft_4 (by decide) ?_ ?_
  · skip
    refine X_iconst (v := (-1 : Int32)) dX8_draft_7 (by decide) ?_
    exact X_iret rfl dX8_draft_8
  · skip
    refine X_aload_n 0 dX8_draft_9 rfl rfl ?_
    refine X_getR kF_X8_26 rfl dX8_draft_10 (fun a3 => ?_)
    refine X_iload_n 1 dX8_draft_13 rfl rfl ?_
    refine X_iload_n 2 dX8_draft_14 rfl rfl ?_
    refine X_iload_n 3 dX8_draft_15 rfl rfl ?_
    refine X_callSL (As := [.int p2, .int p3]) (st := [.int p1, .ref a3]) (c_X8_joined E S1 p2 p3) kC_X8_joined kL_X8_71 kS_X8_joined (by unfold g_okR; decide) rfl (Nat.le_of_ble_eq_true rfl) dX8_draft_16 (fun x5 S4 => ?_)
    refine X_callVV (ci := 1) (As := [.int p1, .long x5]) (st := []) (c_X1_setCell E S4 a3 p1 x5) (by decide) rfl kC_X1_setCell kL_X8_82 kI_X1_setCell kE_X1_setCell (by unfold g_okR; decide) rfl (Nat.le_of_ble_eq_true rfl) dX8_draft_19 (fun S6 => ?_)
    refine X_iconst (v := (1 : Int32)) dX8_draft_22 (by decide) ?_
    exact X_iret rfl dX8_draft_23
set_option maxRecDepth 100000 in
theorem kC_X8_draft : g_okC M_X8_draft 3 := And.intro (g_t (i := 257) rfl (by decide +kernel)) (And.intro (g_nd nd_10_ok (k := 14) rfl) (And.intro (by decide) (And.intro (by decide) (by decide +kernel))))
def M_X8_endRunning : gM := (yX8_endRunning, cX8_endRunning, 1, some .int, 1, 20)
def f_X8_endRunning (S : gS) (a0 : Nat) : Option (Int32 × gS) :=
g_getR S 8 0 a0 fun a1 =>
g_cVV S 0 a1 (f_X0_startCall S a1) fun S2 =>
g_getR S2 8 0 a0 fun a3 =>
g_getI S2 0 0 a3 fun x4 =>
if x4 = 0 then (
g_getI S2 8 10 a0 fun x5 =>
if x5 = 0 then (
some ((-2 : Int32), S2))
else (
g_getR S2 8 0 a0 fun a6 =>
g_cVI S2 0 a6 (f_X0_act S2 a6) fun x8 S7 =>
if x8 = 0 then (
some ((-9 : Int32), S7))
else (
g_putZ S7 8 10 a0 (0 : Int32) fun S9 =>
some ((0 : Int32), S9))))
else (
some ((-8 : Int32), S2))
set_option maxRecDepth 100000 in
set_option maxHeartbeats 4000000 in
theorem c_X8_endRunning (E : gE) (S : gS) (a0 : Nat) : gC gI E M_X8_endRunning [.ref a0] S (f_X8_endRunning S a0) := by
  refine gC.of (by decide) (Nat.le_of_ble_eq_true rfl) ?_
  unfold f_X8_endRunning
  show gJ gI E M_X8_endRunning _ _ 0 [(0, .ref a0)] [] S _
  refine X_aload_n 0 dX8_endRunning_0 rfl rfl ?_
  refine X_getR kF_X8_10 rfl dX8_endRunning_1 (fun a1 => ?_)
  refine X_callVV (ci := 0) (As := []) (st := []) (c_X0_startCall E S a1) (by decide) rfl kC_X0_startCall kL_X8_94 kI_X0_startCall kE_X0_startCall (by unfold g_okR; decide) rfl (Nat.le_of_ble_eq_true rfl) dX8_endRunning_4 (fun S2 => ?_)
  refine X_aload_n 0 dX8_endRunning_7 rfl rfl ?_
  refine X_getR kF_X8_10 rfl dX8_endRunning_8 (fun a3 => ?_)
  refine X_getI kF_X8_97 rfl dX8_endRunning_11 (fun x4 => ?_)
  refine X_if_eq (tgt := 20) dX8_endRunning_14 (by decide) ?_ ?_
  · skip
    refine X_aload_n 0 dX8_endRunning_20 rfl rfl ?_
    refine X_getI kF_X8_101 rfl dX8_endRunning_21 (fun x5 => ?_)
    refine X_if_ne (tgt := 30) dX8_endRunning_24 (by decide) ?_ ?_
    · skip
      refine X_bipush (v := (-2 : Int32)) dX8_endRunning_27 (by decide) ?_
      exact X_iret rfl dX8_endRunning_29
    · skip
      refine X_aload_n 0 dX8_endRunning_30 rfl rfl ?_
      refine X_getR kF_X8_10 rfl dX8_endRunning_31 (fun a6 => ?_)
      refine X_callVI (ci := 0) (As := []) (st := []) (c_X0_act E S2 a6) (by decide) rfl kC_X0_act kL_X8_108 kI_X0_act kE_X0_act (by unfold g_okR; decide) rfl (Nat.le_of_ble_eq_true rfl) dX8_endRunning_34 (fun x8 S7 => ?_)
      refine X_if_ne (tgt := 43) dX8_endRunning_37 (by decide) ?_ ?_
      · skip
        refine X_bipush (v := (-9 : Int32)) dX8_endRunning_40 (by decide) ?_
        exact X_iret rfl dX8_endRunning_42
      · skip
        refine X_aload_n 0 dX8_endRunning_43 rfl rfl ?_
        refine X_iconst (v := (0 : Int32)) dX8_endRunning_44 (by decide) ?_
        refine X_putZ kF_X8_101 rfl rfl dX8_endRunning_45 (fun S9 => ?_)
        refine X_iconst (v := (0 : Int32)) dX8_endRunning_48 (by decide) ?_
        exact X_iret rfl dX8_endRunning_49
  · skip
    refine X_bipush (v := (-8 : Int32)) dX8_endRunning_17 (by decide) ?_
    exact X_iret rfl dX8_endRunning_19
set_option maxRecDepth 100000 in
theorem kC_X8_endRunning : g_okC M_X8_endRunning 0 := And.intro (g_t (i := 532) rfl (by decide +kernel)) (And.intro (g_nd nd_10_ok (k := 14) rfl) (And.intro (by decide) (And.intro (by decide) (by decide +kernel))))
def M_X8_finish : gM := (yX8_finish, cX8_finish, 4, some .int, 2, 40)
def l_X8_finish_41 (u0 : Nat) (u1 : Int32) (u2 : Nat) : Nat → gS → Int32 → (gS → Int32 → Option (Int32 × gS)) → Option (Int32 × gS)
  | 0, _, _, _ => none
  | n + 1, S, u3, K1 =>
    g_getR S 8 1 u0 fun a9 =>
    g_getI S 7 1 a9 fun x10 =>
    if x10 ≤ u3 then (
    K1 S u3)
    else (
    g_getR S 8 1 u0 fun a11 =>
    g_getR S 7 0 a11 fun a12 =>
    g_ldR S 13 a12 u3 fun a13 =>
    g_cVV S 4 a13 (f_X4_keepFresh S a13) fun S14 =>
    l_X8_finish_41 u0 u1 u2 n S14 (u3 + (1 : Int32)) K1)
def f_X8_finish (S : gS) (a0 : Nat) : Option (Int32 × gS) :=
g_cVI S 8 a0 (f_X8_endRunning S a0) fun x2 S1 =>
if x2 = 0 then (
g_getR S1 8 6 a0 fun a3 =>
g_getR S1 8 7 a0 fun a4 =>
g_putR S1 8 6 a0 a4 fun S5 =>
g_putR S5 8 7 a0 a3 fun S6 =>
g_getI S6 8 11 a0 fun x7 =>
g_putI S6 8 11 a0 (x7 + (1 : Int32)) fun S8 =>
l_X8_finish_41 a0 x2 a3 100 S8 (0 : Int32) (fun S15 v16 => (
g_getI S15 8 11 a0 fun x17 =>
some (x17, S15))))
else (
some (x2, S1))
set_option maxRecDepth 100000 in
set_option maxHeartbeats 4000000 in
theorem j_X8_finish_41 (E : gE) {n0 s0 : Nat} (u0 : Nat) (u1 : Int32) (u2 : Nat) : ∀ (n : Nat) (S : gS) (u3 : Int32) (K1 : (gS → Int32 → Option (Int32 × gS))), (∀ (S : gS) (u3 : Int32), gJ gI E M_X8_finish n0 s0 70 [(0, .ref u0), (1, .int u1), (2, .ref u2), (3, .int u3)] [] S (K1 S u3)) → gJ gI E M_X8_finish n0 s0 41 [(0, .ref u0), (1, .int u1), (2, .ref u2), (3, .int u3)] [] S (l_X8_finish_41 u0 u1 u2 n S u3 K1) := by
  intro n
  induction n with
  | zero =>
    intros
    rw [l_X8_finish_41]
    exact gJ.none
  | succ n ih =>
    intro S u3 K1 hK1
    rw [l_X8_finish_41]
    refine X_iload_n 3 dX8_finish_41 rfl rfl ?_
    refine X_aload_n 0 dX8_finish_42 rfl rfl ?_
    refine X_getR kF_X8_19 rfl dX8_finish_43 (fun a9 => ?_)
    refine X_getI kF_X8_107 rfl dX8_finish_46 (fun x10 => ?_)
    refine X_icmp_ge (tgt := 70) dX8_finish_49 (by decide) ?_ ?_
    · skip
      exact (hK1 _ _)
    · skip
      refine X_aload_n 0 dX8_finish_52 rfl rfl ?_
      refine X_getR kF_X8_19 rfl dX8_finish_53 (fun a11 => ?_)
      refine X_getR kF_X8_119 rfl dX8_finish_56 (fun a12 => ?_)
      refine X_iload_n 3 dX8_finish_59 rfl rfl ?_
      refine X_aald (Or.inl rfl) dX8_finish_60 (fun a13 => ?_)
      refine X_callVV (ci := 4) (As := []) (st := []) (c_X4_keepFresh E S a13) (by decide) rfl kC_X4_keepFresh kL_X8_191 kI_X4_keepFresh kE_X4_keepFresh (by unfold g_okR; decide) rfl (Nat.le_of_ble_eq_true rfl) dX8_finish_61 (fun S14 => ?_)
      refine X_iinc (k := 3) (x := u3) (v := (1 : Int32)) (lv2 := [(3, .int (u3 + (1 : Int32))), (0, .ref u0), (1, .int u1), (2, .ref u2)]) dX8_finish_64 rfl (by decide) (by decide) rfl ?_
      refine X_goto (tgt := 41) dX8_finish_67 (by decide) ?_
      exact X_sub [1, 2, 3, 0] rfl (ih _ _ _ hK1)
set_option maxRecDepth 100000 in
set_option maxHeartbeats 4000000 in
theorem c_X8_finish (E : gE) (S : gS) (a0 : Nat) : gC gI E M_X8_finish [.ref a0] S (f_X8_finish S a0) := by
  refine gC.of (by decide) (Nat.le_of_ble_eq_true rfl) ?_
  unfold f_X8_finish
  show gJ gI E M_X8_finish _ _ 0 [(0, .ref a0)] [] S _
  refine X_aload_n 0 dX8_finish_0 rfl rfl ?_
  refine X_callVI (ci := 8) (As := []) (st := []) (c_X8_endRunning E S a0) (by decide) rfl kC_X8_endRunning kL_X8_188 kI_X8_endRunning kE_X8_endRunning (by unfold g_okR; decide) rfl (Nat.le_of_ble_eq_true rfl) dX8_finish_1 (fun x2 S1 => ?_)
  refine X_istore_n (lv2 := [(1, .int x2), (0, .ref a0)]) dX8_finish_4 rfl (by decide) rfl ?_
  refine X_iload_n 0 dX8_finish_5 rfl rfl ?_
  refine X_if_eq (tgt := 11) dX8_finish_6 (by decide) ?_ ?_
  · skip
    refine X_aload_n 1 dX8_finish_11 rfl rfl ?_
    refine X_getR kF_X8_44 rfl dX8_finish_12 (fun a3 => ?_)
    refine X_astore_n (lv2 := [(2, .ref a3), (1, .int x2), (0, .ref a0)]) dX8_finish_15 rfl (by decide) rfl ?_
    refine X_aload_n 2 dX8_finish_16 rfl rfl ?_
    refine X_aload_n 2 dX8_finish_17 rfl rfl ?_
    refine X_getR kF_X8_47 rfl dX8_finish_18 (fun a4 => ?_)
    refine X_putR kF_X8_44 (Or.inl ⟨_, rfl⟩) (Or.inl rfl) dX8_finish_21 (fun S5 => ?_)
    refine X_aload_n 2 dX8_finish_24 rfl rfl ?_
    refine X_aload_n 0 dX8_finish_25 rfl rfl ?_
    refine X_putR kF_X8_47 (Or.inl ⟨_, rfl⟩) (Or.inl rfl) dX8_finish_26 (fun S6 => ?_)
    refine X_aload_n 2 dX8_finish_29 rfl rfl ?_
    refine X_dup dX8_finish_30 rfl ?_
    refine X_getI kF_X8_178 rfl dX8_finish_31 (fun x7 => ?_)
    refine X_iconst (v := (1 : Int32)) dX8_finish_34 (by decide) ?_
    refine X_iadd dX8_finish_35 ?_
    refine X_putI kF_X8_178 rfl rfl dX8_finish_36 (fun S8 => ?_)
    refine X_iconst (v := (0 : Int32)) dX8_finish_39 (by decide) ?_
    refine X_istore_n (lv2 := [(3, .int (0 : Int32)), (2, .ref a3), (1, .int x2), (0, .ref a0)]) dX8_finish_40 rfl (by decide) rfl ?_
    refine X_sub [3, 2, 1, 0] rfl (j_X8_finish_41 E a0 x2 a3 100 _ _ _ (fun S15 v16 => ?_))
    refine X_aload_n 0 dX8_finish_70 rfl rfl ?_
    refine X_getI kF_X8_178 rfl dX8_finish_71 (fun x17 => ?_)
    exact X_iret rfl dX8_finish_74
  · skip
    refine X_iload_n 0 dX8_finish_9 rfl rfl ?_
    exact X_iret rfl dX8_finish_10
set_option maxRecDepth 100000 in
theorem kC_X8_finish : g_okC M_X8_finish 0 := And.intro (g_t (i := 528) rfl (by decide +kernel)) (And.intro (g_nd nd_10_ok (k := 14) rfl) (And.intro (by decide) (And.intro (by decide) (by decide +kernel))))
def M_X8_isDown : gM := (yX8_isDown, cX8_isDown, 1, some .boolean, 0, 0)
def f_X8_isDown (S : gS) (a0 : Nat) : Option (Int32 × gS) :=
g_getR S 8 0 a0 fun a1 =>
g_getI S 0 0 a1 fun x2 =>
g_z x2 (some (x2, S))
set_option maxRecDepth 100000 in
set_option maxHeartbeats 4000000 in
theorem c_X8_isDown (E : gE) (S : gS) (a0 : Nat) : gC gI E M_X8_isDown [.ref a0] S (f_X8_isDown S a0) := by
  refine gC.of (by decide) (Nat.le_of_ble_eq_true rfl) ?_
  unfold f_X8_isDown
  show gJ gI E M_X8_isDown _ _ 0 [(0, .ref a0)] [] S _
  refine X_aload_n 0 dX8_isDown_0 rfl rfl ?_
  refine X_getR kF_X8_10 rfl dX8_isDown_1 (fun a1 => ?_)
  refine X_getI kF_X8_97 rfl dX8_isDown_4 (fun x2 => ?_)
  exact X_zret rfl dX8_isDown_7
set_option maxRecDepth 100000 in
theorem kC_X8_isDown : g_okC M_X8_isDown 0 := And.intro (g_t (i := 560) rfl (by decide +kernel)) (And.intro (g_nd nd_10_ok (k := 14) rfl) (And.intro (by decide) (And.intro (by decide) (by decide +kernel))))
def M_X8_isSeenColumn : gM := (yX8_isSeenColumn, cX8_isSeenColumn, 2, some .boolean, 0, 0)
def f_X8_isSeenColumn (S : gS) (a0 : Nat) (p1 : Int32) : Option (Int32 × gS) :=
g_getI S 8 5 a0 fun x1 =>
g_jn (fun (S2 : gS) => (
some ((0 : Int32), S2))) fun jb3 => (
if x1 = 0 then (
jb3 S)
else (
if p1 < 0 then (
jb3 S)
else (
g_getR S 8 4 a0 fun a4 =>
g_getI S 5 2 a4 fun x5 =>
if x5 ≤ p1 then (
jb3 S)
else (
some ((1 : Int32), S)))))
set_option maxRecDepth 100000 in
set_option maxHeartbeats 4000000 in
theorem c_X8_isSeenColumn (E : gE) (S : gS) (a0 : Nat) (p1 : Int32) : gC gI E M_X8_isSeenColumn [.ref a0, .int p1] S (f_X8_isSeenColumn S a0 p1) := by
  refine gC.of (by decide) (Nat.le_of_ble_eq_true rfl) ?_
  unfold f_X8_isSeenColumn
  show gJ gI E M_X8_isSeenColumn _ _ 0 [(0, .ref a0), (1, .int p1)] [] S _
  refine X_aload_n 0 dX8_isSeenColumn_0 rfl rfl ?_
  refine X_getI kF_X8_136 rfl dX8_isSeenColumn_1 (fun x1 => ?_)
  refine X_jn (fun (j : gS → Option (Int32 × gS)) => ∀ (S2 : gS), gJ gI E M_X8_isSeenColumn (gn S) (gsl S) 26 [(0, .ref a0), (1, .int p1)] [] S2 (j S2)) ?_ (fun jb3 hjb3 => ?_)
  · intro S2
    refine X_iconst (v := (0 : Int32)) dX8_isSeenColumn_26 (by decide) ?_
    exact X_z0 rfl dX8_isSeenColumn_27
  · skip
    refine X_if_eq (tgt := 26) dX8_isSeenColumn_4 (by decide) ?_ ?_
    · skip
      exact (hjb3 _)
    · skip
      refine X_iload_n 1 dX8_isSeenColumn_7 rfl rfl ?_
      refine X_if_lt (tgt := 26) dX8_isSeenColumn_8 (by decide) ?_ ?_
      · skip
        exact (hjb3 _)
      · skip
        refine X_iload_n 1 dX8_isSeenColumn_11 rfl rfl ?_
        refine X_aload_n 0 dX8_isSeenColumn_12 rfl rfl ?_
        refine X_getR kF_X8_40 rfl dX8_isSeenColumn_13 (fun a4 => ?_)
        refine X_getI kF_X8_152 rfl dX8_isSeenColumn_16 (fun x5 => ?_)
        refine X_icmp_ge (tgt := 26) dX8_isSeenColumn_19 (by decide) ?_ ?_
        · skip
          exact (hjb3 _)
        · skip
          refine X_iconst (v := (1 : Int32)) dX8_isSeenColumn_22 (by decide) ?_
          refine X_goto (tgt := 27) dX8_isSeenColumn_23 (by decide) ?_
          exact X_z1 rfl dX8_isSeenColumn_27
set_option maxRecDepth 100000 in
theorem kC_X8_isSeenColumn : g_okC M_X8_isSeenColumn 1 := And.intro (g_t (i := 462) rfl (by decide +kernel)) (And.intro (g_nd nd_10_ok (k := 14) rfl) (And.intro (by decide) (And.intro (by decide) (by decide +kernel))))
def M_X8_letter : gM := (yX8_letter, cX8_letter, 3, some .int, 1, 24)
def f_X8_letter (S : gS) (a0 : Nat) (p1 : Int32) (p2 : Int32) : Option (Int32 × gS) :=
g_cVI S 8 a0 (f_X8_isSeenColumn S a0 p1) fun x2 S1 =>
if x2 = 0 then (
some ((0 : Int32), S1))
else (
g_getR S1 8 4 a0 fun a3 =>
g_getR S1 5 1 a3 fun a4 =>
g_ldI S1 10 a4 p1 fun x5 =>
if x5 = (4 : Int32) then (
if p2 < 0 then (
some ((0 : Int32), S1))
else (
g_getR S1 8 3 a0 fun a6 =>
g_cVL S1 2 a6 (f_X2_numberAt S1 a6 p1) fun x8 S7 =>
if (lg_cmp (p2).toInt64 x8) < 0 then (
g_getR S7 8 3 a0 fun a9 =>
g_cVI S7 2 a9 (f_X2_letterAt S7 a9 p1 p2) fun x11 S10 =>
some (x11, S10))
else (
some ((0 : Int32), S7))))
else (
some ((0 : Int32), S1)))
set_option maxRecDepth 100000 in
set_option maxHeartbeats 4000000 in
theorem c_X8_letter (E : gE) (S : gS) (a0 : Nat) (p1 : Int32) (p2 : Int32) : gC gI E M_X8_letter [.ref a0, .int p1, .int p2] S (f_X8_letter S a0 p1 p2) := by
  refine gC.of (by decide) (Nat.le_of_ble_eq_true rfl) ?_
  unfold f_X8_letter
  show gJ gI E M_X8_letter _ _ 0 [(0, .ref a0), (1, .int p1), (2, .int p2)] [] S _
  refine X_aload_n 0 dX8_letter_0 rfl rfl ?_
  refine X_iload_n 1 dX8_letter_1 rfl rfl ?_
  refine X_callVI (ci := 8) (As := [.int p1]) (st := []) (c_X8_isSeenColumn E S a0 p1) (by decide) rfl kC_X8_isSeenColumn kL_X8_153 kI_X8_isSeenColumn kE_X8_isSeenColumn (by unfold g_okR; decide) rfl (Nat.le_of_ble_eq_true rfl) dX8_letter_2 (fun x2 S1 => ?_)
  refine X_if_eq (tgt := 39) dX8_letter_5 (by decide) ?_ ?_
  · skip
    refine X_iconst (v := (0 : Int32)) dX8_letter_39 (by decide) ?_
    exact X_iret rfl dX8_letter_40
  · skip
    refine X_aload_n 0 dX8_letter_8 rfl rfl ?_
    refine X_getR kF_X8_40 rfl dX8_letter_9 (fun a3 => ?_)
    refine X_getR kF_X8_160 rfl dX8_letter_12 (fun a4 => ?_)
    refine X_iload_n 1 dX8_letter_15 rfl rfl ?_
    refine X_iald dX8_letter_16 (fun x5 => ?_)
    refine X_iconst (v := (4 : Int32)) dX8_letter_17 (by decide) ?_
    refine X_icmp_ne (tgt := 39) dX8_letter_18 (by decide) ?_ ?_
    · skip
      refine X_iload_n 2 dX8_letter_21 rfl rfl ?_
      refine X_if_lt (tgt := 39) dX8_letter_22 (by decide) ?_ ?_
      · skip
        refine X_iconst (v := (0 : Int32)) dX8_letter_39 (by decide) ?_
        exact X_iret rfl dX8_letter_40
      · skip
        refine X_iload_n 2 dX8_letter_25 rfl rfl ?_
        refine X_i2l dX8_letter_26 ?_
        refine X_aload_n 0 dX8_letter_27 rfl rfl ?_
        refine X_getR kF_X8_33 rfl dX8_letter_28 (fun a6 => ?_)
        refine X_iload_n 1 dX8_letter_31 rfl rfl ?_
        refine X_callVL (ci := 2) (As := [.int p1]) (st := [.long (p2).toInt64]) (c_X2_numberAt E S1 a6 p1) (by decide) rfl kC_X2_numberAt kL_X8_156 kI_X2_numberAt kE_X2_numberAt (by unfold g_okR; decide) rfl (Nat.le_of_ble_eq_true rfl) dX8_letter_32 (fun x8 S7 => ?_)
        refine X_lcmp dX8_letter_35 ?_
        refine X_if_lt (tgt := 41) dX8_letter_36 (by decide) ?_ ?_
        · skip
          refine X_aload_n 0 dX8_letter_41 rfl rfl ?_
          refine X_getR kF_X8_33 rfl dX8_letter_42 (fun a9 => ?_)
          refine X_iload_n 1 dX8_letter_45 rfl rfl ?_
          refine X_iload_n 2 dX8_letter_46 rfl rfl ?_
          refine X_callVI (ci := 2) (As := [.int p1, .int p2]) (st := []) (c_X2_letterAt E S7 a9 p1 p2) (by decide) rfl kC_X2_letterAt kL_X8_164 kI_X2_letterAt kE_X2_letterAt (by unfold g_okR; decide) rfl (Nat.le_of_ble_eq_true rfl) dX8_letter_47 (fun x11 S10 => ?_)
          exact X_iret rfl dX8_letter_50
        · skip
          refine X_iconst (v := (0 : Int32)) dX8_letter_39 (by decide) ?_
          exact X_iret rfl dX8_letter_40
    · skip
      refine X_iconst (v := (0 : Int32)) dX8_letter_39 (by decide) ?_
      exact X_iret rfl dX8_letter_40
set_option maxRecDepth 100000 in
theorem kC_X8_letter : g_okC M_X8_letter 2 := And.intro (g_t (i := 467) rfl (by decide +kernel)) (And.intro (g_nd nd_10_ok (k := 14) rfl) (And.intro (by decide) (And.intro (by decide) (by decide +kernel))))
def M_X8_letters : gM := (yX8_letters, cX8_letters, 4, some .int, 3, 74)
def f_X8_letters (S : gS) (a0 : Nat) (p1 : Int32) (p2 : Int32) (p3 : Int32) : Option (Int32 × gS) :=
g_cI (f_X8_isCell S p1) fun x2 S1 =>
if x2 = 0 then (
some ((-1 : Int32), S1))
else (
g_getR S1 8 2 a0 fun a3 =>
g_cL (f_X8_joined S1 p2 p3) fun x5 S4 =>
g_cVI S4 1 a3 (f_X1_addLetters S4 a3 p1 x5) fun x7 S6 =>
if x7 = 0 then (
some ((-4 : Int32), S6))
else (
g_getR S6 8 2 a0 fun a8 =>
g_cVI S6 1 a8 (f_X1_letterCount S6 a8 p1) fun x10 S9 =>
some (x10, S9)))
set_option maxRecDepth 100000 in
set_option maxHeartbeats 4000000 in
theorem c_X8_letters (E : gE) (S : gS) (a0 : Nat) (p1 : Int32) (p2 : Int32) (p3 : Int32) : gC gI E M_X8_letters [.ref a0, .int p1, .int p2, .int p3] S (f_X8_letters S a0 p1 p2 p3) := by
  refine gC.of (by decide) (Nat.le_of_ble_eq_true rfl) ?_
  unfold f_X8_letters
  show gJ gI E M_X8_letters _ _ 0 [(0, .ref a0), (1, .int p1), (2, .int p2), (3, .int p3)] [] S _
  refine X_iload_n 1 dX8_letters_0 rfl rfl ?_
  refine X_callSI (As := [.int p1]) (st := []) (c_X8_isCell E S p1) kC_X8_isCell kL_X8_79 kS_X8_isCell (by unfold g_okR; decide) rfl (Nat.le_of_ble_eq_true rfl) dX8_letters_1 (fun x2 S1 => ?_)
  refine X_if_ne (tgt := 9) dX8_letters_4 (by decide) ?_ ?_
  · skip
    refine X_iconst (v := (-1 : Int32)) dX8_letters_7 (by decide) ?_
    exact X_iret rfl dX8_letters_8
  · skip
    refine X_aload_n 0 dX8_letters_9 rfl rfl ?_
    refine X_getR kF_X8_26 rfl dX8_letters_10 (fun a3 => ?_)
    refine X_iload_n 1 dX8_letters_13 rfl rfl ?_
    refine X_iload_n 2 dX8_letters_14 rfl rfl ?_
    refine X_iload_n 3 dX8_letters_15 rfl rfl ?_
    refine X_callSL (As := [.int p2, .int p3]) (st := [.int p1, .ref a3]) (c_X8_joined E S1 p2 p3) kC_X8_joined kL_X8_71 kS_X8_joined (by unfold g_okR; decide) rfl (Nat.le_of_ble_eq_true rfl) dX8_letters_16 (fun x5 S4 => ?_)
    refine X_callVI (ci := 1) (As := [.int p1, .long x5]) (st := []) (c_X1_addLetters E S4 a3 p1 x5) (by decide) rfl kC_X1_addLetters kL_X8_86 kI_X1_addLetters kE_X1_addLetters (by unfold g_okR; decide) rfl (Nat.le_of_ble_eq_true rfl) dX8_letters_19 (fun x7 S6 => ?_)
    refine X_if_eq (tgt := 36) dX8_letters_22 (by decide) ?_ ?_
    · skip
      refine X_bipush (v := (-4 : Int32)) dX8_letters_36 (by decide) ?_
      exact X_iret rfl dX8_letters_38
    · skip
      refine X_aload_n 0 dX8_letters_25 rfl rfl ?_
      refine X_getR kF_X8_26 rfl dX8_letters_26 (fun a8 => ?_)
      refine X_iload_n 1 dX8_letters_29 rfl rfl ?_
      refine X_callVI (ci := 1) (As := [.int p1]) (st := []) (c_X1_letterCount E S6 a8 p1) (by decide) rfl kC_X1_letterCount kL_X8_90 kI_X1_letterCount kE_X1_letterCount (by unfold g_okR; decide) rfl (Nat.le_of_ble_eq_true rfl) dX8_letters_30 (fun x10 S9 => ?_)
      refine X_goto (tgt := 38) dX8_letters_33 (by decide) ?_
      exact X_iret rfl dX8_letters_38
set_option maxRecDepth 100000 in
theorem kC_X8_letters : g_okC M_X8_letters 3 := And.intro (g_t (i := 272) rfl (by decide +kernel)) (And.intro (g_nd nd_10_ok (k := 14) rfl) (And.intro (by decide) (And.intro (by decide) (by decide +kernel))))
def M_X8_more : gM := (yX8_more, cX8_more, 3, some .int, 1, 23)
def f_X8_more (S : gS) (a0 : Nat) (p1 : Int32) (p2 : Int32) : Option (Int32 × gS) :=
g_getR S 8 0 a0 fun a1 =>
g_getI S 0 0 a1 fun x2 =>
if x2 = 0 then (
g_getR S 8 1 a0 fun a3 =>
g_getI S 7 1 a3 fun x4 =>
g_getR S 8 1 a0 fun a5 =>
g_cVI S 7 a5 (f_X7_placeAbove S a5 p1 p2) fun x7 S6 =>
some ((x4 - x7), S6))
else (
some ((-8 : Int32), S))
set_option maxRecDepth 100000 in
set_option maxHeartbeats 4000000 in
theorem c_X8_more (E : gE) (S : gS) (a0 : Nat) (p1 : Int32) (p2 : Int32) : gC gI E M_X8_more [.ref a0, .int p1, .int p2] S (f_X8_more S a0 p1 p2) := by
  refine gC.of (by decide) (Nat.le_of_ble_eq_true rfl) ?_
  unfold f_X8_more
  show gJ gI E M_X8_more _ _ 0 [(0, .ref a0), (1, .int p1), (2, .int p2)] [] S _
  refine X_aload_n 0 dX8_more_0 rfl rfl ?_
  refine X_getR kF_X8_10 rfl dX8_more_1 (fun a1 => ?_)
  refine X_getI kF_X8_97 rfl dX8_more_4 (fun x2 => ?_)
  refine X_if_eq (tgt := 15) dX8_more_7 (by decide) ?_ ?_
  · skip
    refine X_aload_n 0 dX8_more_15 rfl rfl ?_
    refine X_getR kF_X8_19 rfl dX8_more_16 (fun a3 => ?_)
    refine X_getI kF_X8_107 rfl dX8_more_19 (fun x4 => ?_)
    refine X_aload_n 0 dX8_more_22 rfl rfl ?_
    refine X_getR kF_X8_19 rfl dX8_more_23 (fun a5 => ?_)
    refine X_iload_n 1 dX8_more_26 rfl rfl ?_
    refine X_iload_n 2 dX8_more_27 rfl rfl ?_
    refine X_callVI (ci := 7) (As := [.int p1, .int p2]) (st := [.int x4]) (c_X7_placeAbove E S a5 p1 p2) (by decide) rfl kC_X7_placeAbove kL_X8_168 kI_X7_placeAbove kE_X7_placeAbove (by unfold g_okR; decide) rfl (Nat.le_of_ble_eq_true rfl) dX8_more_28 (fun x7 S6 => ?_)
    refine X_isub dX8_more_31 ?_
    exact X_iret rfl dX8_more_32
  · skip
    refine X_bipush (v := (-8 : Int32)) dX8_more_10 (by decide) ?_
    refine X_goto (tgt := 32) dX8_more_12 (by decide) ?_
    exact X_iret rfl dX8_more_32
set_option maxRecDepth 100000 in
theorem kC_X8_more : g_okC M_X8_more 2 := And.intro (g_t (i := 477) rfl (by decide +kernel)) (And.intro (g_nd nd_10_ok (k := 14) rfl) (And.intro (by decide) (And.intro (by decide) (by decide +kernel))))
def M_X8_next : gM := (yX8_next, cX8_next, 4, some .int, 1, 23)
def f_X8_next (S : gS) (a0 : Nat) (p1 : Int32) (p2 : Int32) : Option (Int32 × gS) :=
g_getR S 8 0 a0 fun a1 =>
g_getI S 0 0 a1 fun x2 =>
if x2 = 0 then (
g_getR S 8 1 a0 fun a3 =>
g_cVI S 7 a3 (f_X7_placeAbove S a3 p1 p2) fun x5 S4 =>
g_getR S4 8 1 a0 fun a6 =>
g_getI S4 7 1 a6 fun x7 =>
if x7 ≤ x5 then (
some (p1, S4))
else (
g_getR S4 8 1 a0 fun a8 =>
g_getR S4 7 0 a8 fun a9 =>
g_ldR S4 13 a9 x5 fun a10 =>
g_getI S4 4 0 a10 fun x11 =>
some (x11, S4)))
else (
some ((0 : Int32), S))
set_option maxRecDepth 100000 in
set_option maxHeartbeats 4000000 in
theorem c_X8_next (E : gE) (S : gS) (a0 : Nat) (p1 : Int32) (p2 : Int32) : gC gI E M_X8_next [.ref a0, .int p1, .int p2] S (f_X8_next S a0 p1 p2) := by
  refine gC.of (by decide) (Nat.le_of_ble_eq_true rfl) ?_
  unfold f_X8_next
  show gJ gI E M_X8_next _ _ 0 [(0, .ref a0), (1, .int p1), (2, .int p2)] [] S _
  refine X_aload_n 0 dX8_next_0 rfl rfl ?_
  refine X_getR kF_X8_10 rfl dX8_next_1 (fun a1 => ?_)
  refine X_getI kF_X8_97 rfl dX8_next_4 (fun x2 => ?_)
  refine X_if_eq (tgt := 12) dX8_next_7 (by decide) ?_ ?_
  · skip
    refine X_aload_n 0 dX8_next_12 rfl rfl ?_
    refine X_getR kF_X8_19 rfl dX8_next_13 (fun a3 => ?_)
    refine X_iload_n 1 dX8_next_16 rfl rfl ?_
    refine X_iload_n 2 dX8_next_17 rfl rfl ?_
    refine X_callVI (ci := 7) (As := [.int p1, .int p2]) (st := []) (c_X7_placeAbove E S a3 p1 p2) (by decide) rfl kC_X7_placeAbove kL_X8_168 kI_X7_placeAbove kE_X7_placeAbove (by unfold g_okR; decide) rfl (Nat.le_of_ble_eq_true rfl) dX8_next_18 (fun x5 S4 => ?_)
    refine X_istore_n (lv2 := [(3, .int x5), (0, .ref a0), (1, .int p1), (2, .int p2)]) dX8_next_21 rfl (by decide) rfl ?_
    refine X_iload_n 0 dX8_next_22 rfl rfl ?_
    refine X_aload_n 1 dX8_next_23 rfl rfl ?_
    refine X_getR kF_X8_19 rfl dX8_next_24 (fun a6 => ?_)
    refine X_getI kF_X8_107 rfl dX8_next_27 (fun x7 => ?_)
    refine X_icmp_ge (tgt := 48) dX8_next_30 (by decide) ?_ ?_
    · skip
      refine X_iload_n 2 dX8_next_48 rfl rfl ?_
      exact X_iret rfl dX8_next_49
    · skip
      refine X_aload_n 1 dX8_next_33 rfl rfl ?_
      refine X_getR kF_X8_19 rfl dX8_next_34 (fun a8 => ?_)
      refine X_getR kF_X8_119 rfl dX8_next_37 (fun a9 => ?_)
      refine X_iload_n 0 dX8_next_40 rfl rfl ?_
      refine X_aald (Or.inl rfl) dX8_next_41 (fun a10 => ?_)
      refine X_getI kF_X8_172 rfl dX8_next_42 (fun x11 => ?_)
      refine X_goto (tgt := 49) dX8_next_45 (by decide) ?_
      exact X_iret rfl dX8_next_49
  · skip
    refine X_iconst (v := (0 : Int32)) dX8_next_10 (by decide) ?_
    exact X_iret rfl dX8_next_11
set_option maxRecDepth 100000 in
theorem kC_X8_next : g_okC M_X8_next 2 := And.intro (g_t (i := 472) rfl (by decide +kernel)) (And.intro (g_nd nd_10_ok (k := 14) rfl) (And.intro (by decide) (And.intro (by decide) (by decide +kernel))))
def M_X8_isName : gM := (yX8_isName, cX8_isName, 1, some .boolean, 0, 0)
def f_X8_isName (S : gS) (p0 : Int32) : Option (Int32 × gS) :=
g_jn (fun (S1 : gS) => (
some ((0 : Int32), S1))) fun jb2 => (
if p0 < 0 then (
jb2 S)
else (
if (63 : Int32) < p0 then (
jb2 S)
else (
some ((1 : Int32), S))))
set_option maxRecDepth 100000 in
set_option maxHeartbeats 4000000 in
theorem c_X8_isName (E : gE) (S : gS) (p0 : Int32) : gC gI E M_X8_isName [.int p0] S (f_X8_isName S p0) := by
  refine gC.of (by decide) (Nat.le_of_ble_eq_true rfl) ?_
  unfold f_X8_isName
  show gJ gI E M_X8_isName _ _ 0 [(0, .int p0)] [] S _
  refine X_iload_n 0 dX8_isName_0 rfl rfl ?_
  refine X_jn (fun (j : gS → Option (Int32 × gS)) => ∀ (S1 : gS), gJ gI E M_X8_isName (gn S) (gsl S) 14 [(0, .int p0)] [] S1 (j S1)) ?_ (fun jb2 hjb2 => ?_)
  · intro S1
    refine X_iconst (v := (0 : Int32)) dX8_isName_14 (by decide) ?_
    exact X_z0 rfl dX8_isName_15
  · skip
    refine X_if_lt (tgt := 14) dX8_isName_1 (by decide) ?_ ?_
    · skip
      exact (hjb2 _)
    · skip
      refine X_iload_n 0 dX8_isName_4 rfl rfl ?_
      refine X_bipush (v := (63 : Int32)) dX8_isName_5 (by decide) ?_
      refine X_icmp_gt (tgt := 14) dX8_isName_7 (by decide) ?_ ?_
      · skip
        exact (hjb2 _)
      · skip
        refine X_iconst (v := (1 : Int32)) dX8_isName_10 (by decide) ?_
        refine X_goto (tgt := 15) dX8_isName_11 (by decide) ?_
        exact X_z1 rfl dX8_isName_15
set_option maxRecDepth 100000 in
theorem kC_X8_isName : g_okC M_X8_isName 1 := And.intro (g_t (i := 238) rfl (by decide +kernel)) (And.intro (g_nd nd_10_ok (k := 14) rfl) (And.intro (by decide) (And.intro (by decide) (by decide +kernel))))
def M_X8_isType : gM := (yX8_isType, cX8_isType, 1, some .boolean, 0, 0)
def f_X8_isType (S : gS) (p0 : Int32) : Option (Int32 × gS) :=
g_jn (fun (S1 : gS) => (
some ((0 : Int32), S1))) fun jb2 => (
if p0 < 0 then (
jb2 S)
else (
if (4 : Int32) < p0 then (
jb2 S)
else (
some ((1 : Int32), S))))
set_option maxRecDepth 100000 in
set_option maxHeartbeats 4000000 in
theorem c_X8_isType (E : gE) (S : gS) (p0 : Int32) : gC gI E M_X8_isType [.int p0] S (f_X8_isType S p0) := by
  refine gC.of (by decide) (Nat.le_of_ble_eq_true rfl) ?_
  unfold f_X8_isType
  show gJ gI E M_X8_isType _ _ 0 [(0, .int p0)] [] S _
  refine X_iload_n 0 dX8_isType_0 rfl rfl ?_
  refine X_jn (fun (j : gS → Option (Int32 × gS)) => ∀ (S1 : gS), gJ gI E M_X8_isType (gn S) (gsl S) 13 [(0, .int p0)] [] S1 (j S1)) ?_ (fun jb2 hjb2 => ?_)
  · intro S1
    refine X_iconst (v := (0 : Int32)) dX8_isType_13 (by decide) ?_
    exact X_z0 rfl dX8_isType_14
  · skip
    refine X_if_lt (tgt := 13) dX8_isType_1 (by decide) ?_ ?_
    · skip
      exact (hjb2 _)
    · skip
      refine X_iload_n 0 dX8_isType_4 rfl rfl ?_
      refine X_iconst (v := (4 : Int32)) dX8_isType_5 (by decide) ?_
      refine X_icmp_gt (tgt := 13) dX8_isType_6 (by decide) ?_ ?_
      · skip
        exact (hjb2 _)
      · skip
        refine X_iconst (v := (1 : Int32)) dX8_isType_9 (by decide) ?_
        refine X_goto (tgt := 14) dX8_isType_10 (by decide) ?_
        exact X_z1 rfl dX8_isType_14
set_option maxRecDepth 100000 in
theorem kC_X8_isType : g_okC M_X8_isType 1 := And.intro (g_t (i := 241) rfl (by decide +kernel)) (And.intro (g_nd nd_10_ok (k := 14) rfl) (And.intro (by decide) (And.intro (by decide) (by decide +kernel))))
def M_X8_plan : gM := (yX8_plan, cX8_plan, 6, some .int, 1, 26)
def f_X8_plan (S : gS) (a0 : Nat) (p1 : Int32) (p2 : Int32) (p3 : Int32) (p4 : Int32) (p5 : Int32) : Option (Int32 × gS) :=
if p1 < 0 then (
some ((-1 : Int32), S))
else (
if (3 : Int32) < p1 then (
some ((-1 : Int32), S))
else (
g_cI (f_X8_isName S p2) fun x2 S1 =>
if x2 = 0 then (
some ((-1 : Int32), S1))
else (
g_jn (fun (S3 : gS) => (
g_jn (fun (S5 : gS) => (
g_getR S5 8 8 a0 fun a7 =>
g_getI S5 3 1 a7 fun x8 =>
if x8 = (6 : Int32) then (
some ((-4 : Int32), S5))
else (
g_getR S5 8 8 a0 fun a9 =>
g_cL (f_X8_joined S5 p4 p5) fun x11 S10 =>
g_cVV S10 3 a9 (f_X3_append S10 a9 p1 p2 p3 x11) fun S12 =>
g_getR S12 8 8 a0 fun a13 =>
g_getI S12 3 1 a13 fun x14 =>
some (x14, S12)))) fun jb6 => (
g_jn (fun (S15 : gS) => (
g_cI (f_X8_isType S15 p3) fun x18 S17 =>
if x18 = 0 then (
some ((-1 : Int32), S17))
else (
jb6 S17))) fun jb16 => (
if p1 = 0 then (
jb16 S3)
else (
if p1 = (3 : Int32) then (
jb16 S3)
else (
jb6 S3)))))) fun jb4 => (
if p1 = (2 : Int32) then (
g_cI (f_X8_isName S1 p3) fun x20 S19 =>
if x20 = 0 then (
some ((-1 : Int32), S19))
else (
jb4 S19))
else (
jb4 S1)))))
set_option maxRecDepth 100000 in
set_option maxHeartbeats 4000000 in
theorem c_X8_plan (E : gE) (S : gS) (a0 : Nat) (p1 : Int32) (p2 : Int32) (p3 : Int32) (p4 : Int32) (p5 : Int32) : gC gI E M_X8_plan [.ref a0, .int p1, .int p2, .int p3, .int p4, .int p5] S (f_X8_plan S a0 p1 p2 p3 p4 p5) := by
  refine gC.of (by decide) (Nat.le_of_ble_eq_true rfl) ?_
  unfold f_X8_plan
  show gJ gI E M_X8_plan _ _ 0 [(0, .ref a0), (1, .int p1), (2, .int p2), (3, .int p3), (4, .int p4), (5, .int p5)] [] S _
  refine X_iload_n 1 dX8_plan_0 rfl rfl ?_
  refine X_if_lt (tgt := 16) dX8_plan_1 (by decide) ?_ ?_
  · skip
    refine X_iconst (v := (-1 : Int32)) dX8_plan_16 (by decide) ?_
    exact X_iret rfl dX8_plan_17
  · skip
    refine X_iload_n 1 dX8_plan_4 rfl rfl ?_
    refine X_iconst (v := (3 : Int32)) dX8_plan_5 (by decide) ?_
    refine X_icmp_gt (tgt := 16) dX8_plan_6 (by decide) ?_ ?_
    · skip
      refine X_iconst (v := (-1 : Int32)) dX8_plan_16 (by decide) ?_
      exact X_iret rfl dX8_plan_17
    · skip
      refine X_iload_n 2 dX8_plan_9 rfl rfl ?_
      refine X_callSI (As := [.int p2]) (st := []) (c_X8_isName E S p2) kC_X8_isName kL_X8_60 kS_X8_isName (by unfold g_okR; decide) rfl (Nat.le_of_ble_eq_true rfl) dX8_plan_10 (fun x2 S1 => ?_)
      refine X_if_ne (tgt := 18) dX8_plan_13 (by decide) ?_ ?_
      · skip
        refine X_iconst (v := (-1 : Int32)) dX8_plan_16 (by decide) ?_
        exact X_iret rfl dX8_plan_17
      · skip
        refine X_iload_n 1 dX8_plan_18 rfl rfl ?_
        refine X_iconst (v := (2 : Int32)) dX8_plan_19 (by decide) ?_
        refine X_jn (fun (j : gS → Option (Int32 × gS)) => ∀ (S3 : gS), gJ gI E M_X8_plan (gn S) (gsl S) 32 [(0, .ref a0), (1, .int p1), (2, .int p2), (3, .int p3), (4, .int p4), (5, .int p5)] [] S3 (j S3)) ?_ (fun jb4 hjb4 => ?_)
        · intro S3
          refine X_iload_n 1 dX8_plan_32 rfl rfl ?_
          refine X_jn (fun (j : gS → Option (Int32 × gS)) => ∀ (S5 : gS), gJ gI E M_X8_plan (gn S) (gsl S) 50 [(0, .ref a0), (1, .int p1), (2, .int p2), (3, .int p3), (4, .int p4), (5, .int p5)] [] S5 (j S5)) ?_ (fun jb6 hjb6 => ?_)
          · intro S5
            refine X_aload_n 0 dX8_plan_50 rfl rfl ?_
            refine X_getR kF_X8_53 rfl dX8_plan_51 (fun a7 => ?_)
            refine X_getI kF_X8_67 rfl dX8_plan_54 (fun x8 => ?_)
            refine X_bipush (v := (6 : Int32)) dX8_plan_57 (by decide) ?_
            refine X_icmp_ne (tgt := 65) dX8_plan_59 (by decide) ?_ ?_
            · skip
              refine X_bipush (v := (-4 : Int32)) dX8_plan_62 (by decide) ?_
              exact X_iret rfl dX8_plan_64
            · skip
              refine X_aload_n 0 dX8_plan_65 rfl rfl ?_
              refine X_getR kF_X8_53 rfl dX8_plan_66 (fun a9 => ?_)
              refine X_iload_n 1 dX8_plan_69 rfl rfl ?_
              refine X_iload_n 2 dX8_plan_70 rfl rfl ?_
              refine X_iload_n 3 dX8_plan_71 rfl rfl ?_
              refine X_iload 4 dX8_plan_72 rfl ?_
              refine X_iload 5 dX8_plan_74 rfl ?_
              refine X_callSL (As := [.int p4, .int p5]) (st := [.int p3, .int p2, .int p1, .ref a9]) (c_X8_joined E S5 p4 p5) kC_X8_joined kL_X8_71 kS_X8_joined (by unfold g_okR; decide) rfl (Nat.le_of_ble_eq_true rfl) dX8_plan_76 (fun x11 S10 => ?_)
              refine X_callVV (ci := 3) (As := [.int p1, .int p2, .int p3, .long x11]) (st := []) (c_X3_append E S10 a9 p1 p2 p3 x11) (by decide) rfl kC_X3_append kL_X8_75 kI_X3_append kE_X3_append (by unfold g_okR; decide) rfl (Nat.le_of_ble_eq_true rfl) dX8_plan_79 (fun S12 => ?_)
              refine X_aload_n 0 dX8_plan_82 rfl rfl ?_
              refine X_getR kF_X8_53 rfl dX8_plan_83 (fun a13 => ?_)
              refine X_getI kF_X8_67 rfl dX8_plan_86 (fun x14 => ?_)
              exact X_iret rfl dX8_plan_89
          · skip
            refine X_jn (fun (j : gS → Option (Int32 × gS)) => ∀ (S15 : gS), gJ gI E M_X8_plan (gn S) (gsl S) 41 [(0, .ref a0), (1, .int p1), (2, .int p2), (3, .int p3), (4, .int p4), (5, .int p5)] [] S15 (j S15)) ?_ (fun jb16 hjb16 => ?_)
            · intro S15
              refine X_iload_n 3 dX8_plan_41 rfl rfl ?_
              refine X_callSI (As := [.int p3]) (st := []) (c_X8_isType E S15 p3) kC_X8_isType kL_X8_64 kS_X8_isType (by unfold g_okR; decide) rfl (Nat.le_of_ble_eq_true rfl) dX8_plan_42 (fun x18 S17 => ?_)
              refine X_if_ne (tgt := 50) dX8_plan_45 (by decide) ?_ ?_
              · skip
                refine X_iconst (v := (-1 : Int32)) dX8_plan_48 (by decide) ?_
                exact X_iret rfl dX8_plan_49
              · skip
                exact (hjb6 _)
            · skip
              refine X_if_eq (tgt := 41) dX8_plan_33 (by decide) ?_ ?_
              · skip
                exact (hjb16 _)
              · skip
                refine X_iload_n 1 dX8_plan_36 rfl rfl ?_
                refine X_iconst (v := (3 : Int32)) dX8_plan_37 (by decide) ?_
                refine X_icmp_ne (tgt := 50) dX8_plan_38 (by decide) ?_ ?_
                · skip
                  exact (hjb16 _)
                · skip
                  exact (hjb6 _)
        · skip
          refine X_icmp_ne (tgt := 32) dX8_plan_20 (by decide) ?_ ?_
          · skip
            refine X_iload_n 3 dX8_plan_23 rfl rfl ?_
            refine X_callSI (As := [.int p3]) (st := []) (c_X8_isName E S1 p3) kC_X8_isName kL_X8_60 kS_X8_isName (by unfold g_okR; decide) rfl (Nat.le_of_ble_eq_true rfl) dX8_plan_24 (fun x20 S19 => ?_)
            refine X_if_ne (tgt := 32) dX8_plan_27 (by decide) ?_ ?_
            · skip
              refine X_iconst (v := (-1 : Int32)) dX8_plan_30 (by decide) ?_
              exact X_iret rfl dX8_plan_31
            · skip
              exact (hjb4 _)
          · skip
            exact (hjb4 _)
set_option maxRecDepth 100000 in
theorem kC_X8_plan : g_okC M_X8_plan 5 := And.intro (g_t (i := 235) rfl (by decide +kernel)) (And.intro (g_nd nd_10_ok (k := 14) rfl) (And.intro (by decide) (And.intro (by decide) (by decide +kernel))))
def M_X8_read : gM := (yX8_read, cX8_read, 5, some .int, 2, 47)
def f_X8_read (S : gS) (a0 : Nat) (p1 : Int32) (p2 : Int32) : Option (Int32 × gS) :=
g_getR S 8 0 a0 fun a1 =>
g_getI S 0 0 a1 fun x2 =>
if x2 = 0 then (
g_jn (fun (S3 : gS) => (
g_getR S3 8 1 a0 fun a5 =>
g_cVI S3 7 a5 (f_X7_placeUnder S3 a5 p1) fun x7 S6 =>
g_jn (fun (S8 : gS) (w9 : Int32) (w10 : Nat) => (
g_putZ S8 8 5 w10 w9 fun S12 =>
if 0 ≤ x7 then (
g_getR S12 8 1 a0 fun a13 =>
g_getR S12 7 0 a13 fun a14 =>
g_ldR S12 13 a14 x7 fun a15 =>
g_getR S12 8 3 a0 fun a16 =>
g_jn (fun (S17 : gS) (w18 : Nat) (w19 : Nat) => (
g_cVV S17 2 w19 (f_X2_copyFrom S17 w19 w18) fun S21 =>
g_getR S21 8 4 a0 fun a22 =>
g_jn (fun (S23 : gS) (w24 : Nat) (w25 : Nat) => (
g_cVV S23 5 w25 (f_X5_copyFrom S23 w25 w24) fun S27 =>
some ((1 : Int32), S27))) fun jb26 => (
if p2 = 0 then (
g_getR S21 8 6 a0 fun a28 =>
jb26 S21 a28 a22)
else (
g_getR S21 8 7 a0 fun a29 =>
jb26 S21 a29 a22)))) fun jb20 => (
if p2 = 0 then (
g_getR S12 4 3 a15 fun a30 =>
jb20 S12 a30 a16)
else (
g_getR S12 4 4 a15 fun a31 =>
jb20 S12 a31 a16)))
else (
some ((0 : Int32), S12)))) fun jb11 => (
if x7 < 0 then (
jb11 S6 (0 : Int32) a0)
else (
jb11 S6 (1 : Int32) a0)))) fun jb4 => (
if p2 = 0 then (
jb4 S)
else (
g_getI S 8 10 a0 fun x32 =>
if x32 = 0 then (
some ((-2 : Int32), S))
else (
jb4 S))))
else (
some ((-8 : Int32), S))
set_option maxRecDepth 100000 in
set_option maxHeartbeats 4000000 in
theorem c_X8_read (E : gE) (S : gS) (a0 : Nat) (p1 : Int32) (p2 : Int32) : gC gI E M_X8_read [.ref a0, .int p1, .int p2] S (f_X8_read S a0 p1 p2) := by
  refine gC.of (by decide) (Nat.le_of_ble_eq_true rfl) ?_
  unfold f_X8_read
  show gJ gI E M_X8_read _ _ 0 [(0, .ref a0), (1, .int p1), (2, .int p2)] [] S _
  refine X_aload_n 0 dX8_read_0 rfl rfl ?_
  refine X_getR kF_X8_10 rfl dX8_read_1 (fun a1 => ?_)
  refine X_getI kF_X8_97 rfl dX8_read_4 (fun x2 => ?_)
  refine X_if_eq (tgt := 13) dX8_read_7 (by decide) ?_ ?_
  · skip
    refine X_iload_n 2 dX8_read_13 rfl rfl ?_
    refine X_jn (fun (j : gS → Option (Int32 × gS)) => ∀ (S3 : gS), gJ gI E M_X8_read (gn S) (gsl S) 27 [(0, .ref a0), (1, .int p1), (2, .int p2)] [] S3 (j S3)) ?_ (fun jb4 hjb4 => ?_)
    · intro S3
      refine X_aload_n 0 dX8_read_27 rfl rfl ?_
      refine X_getR kF_X8_19 rfl dX8_read_28 (fun a5 => ?_)
      refine X_iload_n 1 dX8_read_31 rfl rfl ?_
      refine X_callVI (ci := 7) (As := [.int p1]) (st := []) (c_X7_placeUnder E S3 a5 p1) (by decide) rfl kC_X7_placeUnder kL_X8_104 kI_X7_placeUnder kE_X7_placeUnder (by unfold g_okR; decide) rfl (Nat.le_of_ble_eq_true rfl) dX8_read_32 (fun x7 S6 => ?_)
      refine X_istore_n (lv2 := [(3, .int x7), (0, .ref a0), (1, .int p1), (2, .int p2)]) dX8_read_35 rfl (by decide) rfl ?_
      refine X_aload_n 1 dX8_read_36 rfl rfl ?_
      refine X_iload_n 0 dX8_read_37 rfl rfl ?_
      refine X_jn (fun (j : gS → Int32 → Nat → Option (Int32 × gS)) => ∀ (S8 : gS) (w9 : Int32) (w10 : Nat), gJ gI E M_X8_read (gn S) (gsl S) 46 [(0, .ref a0), (1, .int p1), (2, .int p2), (3, .int x7)] [.int w9, .ref w10] S8 (j S8 w9 w10)) ?_ (fun jb11 hjb11 => ?_)
      · intro S8 w9 w10
        refine X_putZ kF_X8_136 rfl rfl dX8_read_46 (fun S12 => ?_)
        refine X_iload_n 3 dX8_read_49 rfl rfl ?_
        refine X_if_ge (tgt := 55) dX8_read_50 (by decide) ?_ ?_
        · skip
          refine X_aload_n 0 dX8_read_55 rfl rfl ?_
          refine X_getR kF_X8_19 rfl dX8_read_56 (fun a13 => ?_)
          refine X_getR kF_X8_119 rfl dX8_read_59 (fun a14 => ?_)
          refine X_iload_n 3 dX8_read_62 rfl rfl ?_
          refine X_aald (Or.inl rfl) dX8_read_63 (fun a15 => ?_)
          refine X_astore (lv2 := [(4, .ref a15), (0, .ref a0), (1, .int p1), (2, .int p2), (3, .int x7)]) dX8_read_64 (by decide) rfl ?_
          refine X_aload_n 1 dX8_read_66 rfl rfl ?_
          refine X_getR kF_X8_33 rfl dX8_read_67 (fun a16 => ?_)
          refine X_iload_n 3 dX8_read_70 rfl rfl ?_
          refine X_jn (fun (j : gS → Nat → Nat → Option (Int32 × gS)) => ∀ (S17 : gS) (w18 : Nat) (w19 : Nat), gJ gI E M_X8_read (gn S) (gsl S) 87 [(0, .ref a0), (1, .int p1), (2, .int p2), (3, .int x7), (4, .ref a15)] [.ref w18, .ref w19] S17 (j S17 w18 w19)) ?_ (fun jb20 hjb20 => ?_)
          · intro S17 w18 w19
            refine X_callVV (ci := 2) (As := [.ref w18]) (st := []) (c_X2_copyFrom E S17 w19 w18) (by decide) rfl kC_X2_copyFrom kL_X8_145 kI_X2_copyFrom kE_X2_copyFrom (by unfold g_okR; decide) rfl (Nat.le_of_ble_eq_true rfl) dX8_read_87 (fun S21 => ?_)
            refine X_aload_n 0 dX8_read_90 rfl rfl ?_
            refine X_getR kF_X8_40 rfl dX8_read_91 (fun a22 => ?_)
            refine X_iload_n 2 dX8_read_94 rfl rfl ?_
            refine X_jn (fun (j : gS → Nat → Nat → Option (Int32 × gS)) => ∀ (S23 : gS) (w24 : Nat) (w25 : Nat), gJ gI E M_X8_read (gn S) (gsl S) 109 [(0, .ref a0), (1, .int p1), (2, .int p2), (3, .int x7), (4, .ref a15)] [.ref w24, .ref w25] S23 (j S23 w24 w25)) ?_ (fun jb26 hjb26 => ?_)
            · intro S23 w24 w25
              refine X_callVV (ci := 5) (As := [.ref w24]) (st := []) (c_X5_copyFrom E S23 w25 w24) (by decide) rfl kC_X5_copyFrom kL_X8_149 kI_X5_copyFrom kE_X5_copyFrom (by unfold g_okR; decide) rfl (Nat.le_of_ble_eq_true rfl) dX8_read_109 (fun S27 => ?_)
              refine X_iconst (v := (1 : Int32)) dX8_read_112 (by decide) ?_
              exact X_iret rfl dX8_read_113
            · skip
              refine X_if_eq (tgt := 105) dX8_read_95 (by decide) ?_ ?_
              · skip
                refine X_aload_n 0 dX8_read_105 rfl rfl ?_
                refine X_getR kF_X8_44 rfl dX8_read_106 (fun a28 => ?_)
                exact (hjb26 _ _ _)
              · skip
                refine X_aload_n 0 dX8_read_98 rfl rfl ?_
                refine X_getR kF_X8_47 rfl dX8_read_99 (fun a29 => ?_)
                refine X_goto (tgt := 109) dX8_read_102 (by decide) ?_
                exact (hjb26 _ _ _)
          · skip
            refine X_if_eq (tgt := 82) dX8_read_71 (by decide) ?_ ?_
            · skip
              refine X_aload 0 dX8_read_82 rfl ?_
              refine X_getR kF_X8_142 rfl dX8_read_84 (fun a30 => ?_)
              exact X_sub [1, 2, 3, 4, 0] rfl (hjb20 _ _ _)
            · skip
              refine X_aload 0 dX8_read_74 rfl ?_
              refine X_getR kF_X8_139 rfl dX8_read_76 (fun a31 => ?_)
              refine X_goto (tgt := 87) dX8_read_79 (by decide) ?_
              exact X_sub [1, 2, 3, 4, 0] rfl (hjb20 _ _ _)
        · skip
          refine X_iconst (v := (0 : Int32)) dX8_read_53 (by decide) ?_
          exact X_iret rfl dX8_read_54
      · skip
        refine X_if_lt (tgt := 45) dX8_read_38 (by decide) ?_ ?_
        · skip
          refine X_iconst (v := (0 : Int32)) dX8_read_45 (by decide) ?_
          exact X_sub [1, 2, 3, 0] rfl (hjb11 _ _ _)
        · skip
          refine X_iconst (v := (1 : Int32)) dX8_read_41 (by decide) ?_
          refine X_goto (tgt := 46) dX8_read_42 (by decide) ?_
          exact X_sub [1, 2, 3, 0] rfl (hjb11 _ _ _)
    · skip
      refine X_if_eq (tgt := 27) dX8_read_14 (by decide) ?_ ?_
      · skip
        exact (hjb4 _)
      · skip
        refine X_aload_n 0 dX8_read_17 rfl rfl ?_
        refine X_getI kF_X8_101 rfl dX8_read_18 (fun x32 => ?_)
        refine X_if_ne (tgt := 27) dX8_read_21 (by decide) ?_ ?_
        · skip
          refine X_bipush (v := (-2 : Int32)) dX8_read_24 (by decide) ?_
          exact X_iret rfl dX8_read_26
        · skip
          exact (hjb4 _)
  · skip
    refine X_bipush (v := (-8 : Int32)) dX8_read_10 (by decide) ?_
    exact X_iret rfl dX8_read_12
set_option maxRecDepth 100000 in
theorem kC_X8_read : g_okC M_X8_read 2 := And.intro (g_t (i := 444) rfl (by decide +kernel)) (And.intro (g_nd nd_10_ok (k := 14) rfl) (And.intro (by decide) (And.intro (by decide) (by decide +kernel))))
def M_X8_remove : gM := (yX8_remove, cX8_remove, 3, some .int, 3, 62)
def f_X8_remove (S : gS) (a0 : Nat) (p1 : Int32) : Option (Int32 × gS) :=
g_getR S 8 0 a0 fun a1 =>
g_cVV S 0 a1 (f_X0_startCall S a1) fun S2 =>
g_getR S2 8 0 a0 fun a3 =>
g_getI S2 0 0 a3 fun x4 =>
if x4 = 0 then (
g_getR S2 8 1 a0 fun a5 =>
g_cVI S2 7 a5 (f_X7_placeUnder S2 a5 p1) fun x7 S6 =>
if 0 ≤ x7 then (
g_getR S6 8 0 a0 fun a8 =>
g_getR S6 8 1 a0 fun a9 =>
g_getR S6 7 0 a9 fun a10 =>
g_ldR S6 13 a10 x7 fun a11 =>
g_cVI S6 4 a11 (f_X4_diskPlaces S6 a11) fun x13 S12 =>
g_cVI S12 0 a8 (f_X0_actTimes S12 a8 x13) fun x15 S14 =>
if x15 = 0 then (
some ((-9 : Int32), S14))
else (
g_getR S14 8 1 a0 fun a16 =>
g_cVV S14 7 a16 (f_X7_takeOut S14 a16 x7) fun S17 =>
g_getI S17 8 10 a0 fun x18 =>
if x18 = 0 then (
some ((1 : Int32), S17))
else (
g_getR S17 8 0 a0 fun a19 =>
g_cVI S17 0 a19 (f_X0_carryOutNote S17 a19) fun x21 S20 =>
if x21 = 0 then (
some ((-9 : Int32), S20))
else (
some ((1 : Int32), S20)))))
else (
some ((-3 : Int32), S6)))
else (
some ((-8 : Int32), S2))
set_option maxRecDepth 100000 in
set_option maxHeartbeats 4000000 in
theorem c_X8_remove (E : gE) (S : gS) (a0 : Nat) (p1 : Int32) : gC gI E M_X8_remove [.ref a0, .int p1] S (f_X8_remove S a0 p1) := by
  refine gC.of (by decide) (Nat.le_of_ble_eq_true rfl) ?_
  unfold f_X8_remove
  show gJ gI E M_X8_remove _ _ 0 [(0, .ref a0), (1, .int p1)] [] S _
  refine X_aload_n 0 dX8_remove_0 rfl rfl ?_
  refine X_getR kF_X8_10 rfl dX8_remove_1 (fun a1 => ?_)
  refine X_callVV (ci := 0) (As := []) (st := []) (c_X0_startCall E S a1) (by decide) rfl kC_X0_startCall kL_X8_94 kI_X0_startCall kE_X0_startCall (by unfold g_okR; decide) rfl (Nat.le_of_ble_eq_true rfl) dX8_remove_4 (fun S2 => ?_)
  refine X_aload_n 0 dX8_remove_7 rfl rfl ?_
  refine X_getR kF_X8_10 rfl dX8_remove_8 (fun a3 => ?_)
  refine X_getI kF_X8_97 rfl dX8_remove_11 (fun x4 => ?_)
  refine X_if_eq (tgt := 20) dX8_remove_14 (by decide) ?_ ?_
  · skip
    refine X_aload_n 0 dX8_remove_20 rfl rfl ?_
    refine X_getR kF_X8_19 rfl dX8_remove_21 (fun a5 => ?_)
    refine X_iload_n 1 dX8_remove_24 rfl rfl ?_
    refine X_callVI (ci := 7) (As := [.int p1]) (st := []) (c_X7_placeUnder E S2 a5 p1) (by decide) rfl kC_X7_placeUnder kL_X8_104 kI_X7_placeUnder kE_X7_placeUnder (by unfold g_okR; decide) rfl (Nat.le_of_ble_eq_true rfl) dX8_remove_25 (fun x7 S6 => ?_)
    refine X_istore_n (lv2 := [(2, .int x7), (0, .ref a0), (1, .int p1)]) dX8_remove_28 rfl (by decide) rfl ?_
    refine X_iload_n 0 dX8_remove_29 rfl rfl ?_
    refine X_if_ge (tgt := 36) dX8_remove_30 (by decide) ?_ ?_
    · skip
      refine X_aload_n 1 dX8_remove_36 rfl rfl ?_
      refine X_getR kF_X8_10 rfl dX8_remove_37 (fun a8 => ?_)
      refine X_aload_n 1 dX8_remove_40 rfl rfl ?_
      refine X_getR kF_X8_19 rfl dX8_remove_41 (fun a9 => ?_)
      refine X_getR kF_X8_119 rfl dX8_remove_44 (fun a10 => ?_)
      refine X_iload_n 0 dX8_remove_47 rfl rfl ?_
      refine X_aald (Or.inl rfl) dX8_remove_48 (fun a11 => ?_)
      refine X_callVI (ci := 4) (As := []) (st := [.ref a8]) (c_X4_diskPlaces E S6 a11) (by decide) rfl kC_X4_diskPlaces kL_X8_123 kI_X4_diskPlaces kE_X4_diskPlaces (by unfold g_okR; decide) rfl (Nat.le_of_ble_eq_true rfl) dX8_remove_49 (fun x13 S12 => ?_)
      refine X_callVI (ci := 0) (As := [.int x13]) (st := []) (c_X0_actTimes E S12 a8 x13) (by decide) rfl kC_X0_actTimes kL_X8_129 kI_X0_actTimes kE_X0_actTimes (by unfold g_okR; decide) rfl (Nat.le_of_ble_eq_true rfl) dX8_remove_52 (fun x15 S14 => ?_)
      refine X_if_ne (tgt := 61) dX8_remove_55 (by decide) ?_ ?_
      · skip
        refine X_bipush (v := (-9 : Int32)) dX8_remove_58 (by decide) ?_
        exact X_iret rfl dX8_remove_60
      · skip
        refine X_aload_n 1 dX8_remove_61 rfl rfl ?_
        refine X_getR kF_X8_19 rfl dX8_remove_62 (fun a16 => ?_)
        refine X_iload_n 0 dX8_remove_65 rfl rfl ?_
        refine X_callVV (ci := 7) (As := [.int x7]) (st := []) (c_X7_takeOut E S14 a16 x7) (by decide) rfl kC_X7_takeOut kL_X8_132 kI_X7_takeOut kE_X7_takeOut (by unfold g_okR; decide) rfl (Nat.le_of_ble_eq_true rfl) dX8_remove_66 (fun S17 => ?_)
        refine X_aload_n 1 dX8_remove_69 rfl rfl ?_
        refine X_getI kF_X8_101 rfl dX8_remove_70 (fun x18 => ?_)
        refine X_if_eq (tgt := 89) dX8_remove_73 (by decide) ?_ ?_
        · skip
          refine X_iconst (v := (1 : Int32)) dX8_remove_89 (by decide) ?_
          exact X_iret rfl dX8_remove_90
        · skip
          refine X_aload_n 1 dX8_remove_76 rfl rfl ?_
          refine X_getR kF_X8_10 rfl dX8_remove_77 (fun a19 => ?_)
          refine X_callVI (ci := 0) (As := []) (st := []) (c_X0_carryOutNote E S17 a19) (by decide) rfl kC_X0_carryOutNote kL_X8_116 kI_X0_carryOutNote kE_X0_carryOutNote (by unfold g_okR; decide) rfl (Nat.le_of_ble_eq_true rfl) dX8_remove_80 (fun x21 S20 => ?_)
          refine X_if_ne (tgt := 89) dX8_remove_83 (by decide) ?_ ?_
          · skip
            refine X_bipush (v := (-9 : Int32)) dX8_remove_86 (by decide) ?_
            exact X_iret rfl dX8_remove_88
          · skip
            refine X_iconst (v := (1 : Int32)) dX8_remove_89 (by decide) ?_
            exact X_iret rfl dX8_remove_90
    · skip
      refine X_bipush (v := (-3 : Int32)) dX8_remove_33 (by decide) ?_
      exact X_iret rfl dX8_remove_35
  · skip
    refine X_bipush (v := (-8 : Int32)) dX8_remove_17 (by decide) ?_
    exact X_iret rfl dX8_remove_19
set_option maxRecDepth 100000 in
theorem kC_X8_remove : g_okC M_X8_remove 1 := And.intro (g_t (i := 431) rfl (by decide +kernel)) (And.intro (g_nd nd_10_ok (k := 14) rfl) (And.intro (by decide) (And.intro (by decide) (by decide +kernel))))
def M_X8_restart : gM := (yX8_restart, cX8_restart, 1, some .int, 3, 62)
def f_X8_restart (S : gS) (a0 : Nat) : Option (Int32 × gS) :=
g_getR S 8 0 a0 fun a1 =>
g_cVV S 0 a1 (f_X0_startCall S a1) fun S2 =>
g_getR S2 8 0 a0 fun a3 =>
g_getI S2 0 0 a3 fun x4 =>
if x4 = 0 then (
some ((-2 : Int32), S2))
else (
g_getR S2 8 0 a0 fun a5 =>
g_getI S2 0 1 a5 fun x6 =>
g_jn (fun (S7 : gS) => (
g_getR S7 8 0 a0 fun a9 =>
g_putZ S7 0 0 a9 (0 : Int32) fun S10 =>
some ((1 : Int32), S10))) fun jb8 => (
if x6 = 0 then (
jb8 S2)
else (
g_getR S2 8 0 a0 fun a11 =>
g_cVI S2 0 a11 (f_X0_carryOutNote S2 a11) fun x13 S12 =>
if x13 = 0 then (
some ((-9 : Int32), S12))
else (
jb8 S12))))
set_option maxRecDepth 100000 in
set_option maxHeartbeats 4000000 in
theorem c_X8_restart (E : gE) (S : gS) (a0 : Nat) : gC gI E M_X8_restart [.ref a0] S (f_X8_restart S a0) := by
  refine gC.of (by decide) (Nat.le_of_ble_eq_true rfl) ?_
  unfold f_X8_restart
  show gJ gI E M_X8_restart _ _ 0 [(0, .ref a0)] [] S _
  refine X_aload_n 0 dX8_restart_0 rfl rfl ?_
  refine X_getR kF_X8_10 rfl dX8_restart_1 (fun a1 => ?_)
  refine X_callVV (ci := 0) (As := []) (st := []) (c_X0_startCall E S a1) (by decide) rfl kC_X0_startCall kL_X8_94 kI_X0_startCall kE_X0_startCall (by unfold g_okR; decide) rfl (Nat.le_of_ble_eq_true rfl) dX8_restart_4 (fun S2 => ?_)
  refine X_aload_n 0 dX8_restart_7 rfl rfl ?_
  refine X_getR kF_X8_10 rfl dX8_restart_8 (fun a3 => ?_)
  refine X_getI kF_X8_97 rfl dX8_restart_11 (fun x4 => ?_)
  refine X_if_ne (tgt := 20) dX8_restart_14 (by decide) ?_ ?_
  · skip
    refine X_bipush (v := (-2 : Int32)) dX8_restart_17 (by decide) ?_
    exact X_iret rfl dX8_restart_19
  · skip
    refine X_aload_n 0 dX8_restart_20 rfl rfl ?_
    refine X_getR kF_X8_10 rfl dX8_restart_21 (fun a5 => ?_)
    refine X_getI kF_X8_203 rfl dX8_restart_24 (fun x6 => ?_)
    refine X_jn (fun (j : gS → Option (Int32 × gS)) => ∀ (S7 : gS), gJ gI E M_X8_restart (gn S) (gsl S) 43 [(0, .ref a0)] [] S7 (j S7)) ?_ (fun jb8 hjb8 => ?_)
    · intro S7
      refine X_aload_n 0 dX8_restart_43 rfl rfl ?_
      refine X_getR kF_X8_10 rfl dX8_restart_44 (fun a9 => ?_)
      refine X_iconst (v := (0 : Int32)) dX8_restart_47 (by decide) ?_
      refine X_putZ kF_X8_97 rfl rfl dX8_restart_48 (fun S10 => ?_)
      refine X_iconst (v := (1 : Int32)) dX8_restart_51 (by decide) ?_
      exact X_iret rfl dX8_restart_52
    · skip
      refine X_if_eq (tgt := 43) dX8_restart_27 (by decide) ?_ ?_
      · skip
        exact (hjb8 _)
      · skip
        refine X_aload_n 0 dX8_restart_30 rfl rfl ?_
        refine X_getR kF_X8_10 rfl dX8_restart_31 (fun a11 => ?_)
        refine X_callVI (ci := 0) (As := []) (st := []) (c_X0_carryOutNote E S2 a11) (by decide) rfl kC_X0_carryOutNote kL_X8_116 kI_X0_carryOutNote kE_X0_carryOutNote (by unfold g_okR; decide) rfl (Nat.le_of_ble_eq_true rfl) dX8_restart_34 (fun x13 S12 => ?_)
        refine X_if_ne (tgt := 43) dX8_restart_37 (by decide) ?_ ?_
        · skip
          refine X_bipush (v := (-9 : Int32)) dX8_restart_40 (by decide) ?_
          exact X_iret rfl dX8_restart_42
        · skip
          exact (hjb8 _)
set_option maxRecDepth 100000 in
theorem kC_X8_restart : g_okC M_X8_restart 0 := And.intro (g_t (i := 556) rfl (by decide +kernel)) (And.intro (g_nd nd_10_ok (k := 14) rfl) (And.intro (by decide) (And.intro (by decide) (by decide +kernel))))
def M_X8_rollback : gM := (yX8_rollback, cX8_rollback, 3, some .int, 2, 40)
def l_X8_rollback_13 (u0 : Nat) (u1 : Int32) : Nat → gS → Int32 → (gS → Int32 → Option (Int32 × gS)) → Option (Int32 × gS)
  | 0, _, _, _ => none
  | n + 1, S, u2, K1 =>
    g_getR S 8 1 u0 fun a3 =>
    g_getI S 7 1 a3 fun x4 =>
    if x4 ≤ u2 then (
    K1 S u2)
    else (
    g_getR S 8 1 u0 fun a5 =>
    g_getR S 7 0 a5 fun a6 =>
    g_ldR S 13 a6 u2 fun a7 =>
    g_cVV S 4 a7 (f_X4_keepPrior S a7) fun S8 =>
    l_X8_rollback_13 u0 u1 n S8 (u2 + (1 : Int32)) K1)
def f_X8_rollback (S : gS) (a0 : Nat) : Option (Int32 × gS) :=
g_cVI S 8 a0 (f_X8_endRunning S a0) fun x2 S1 =>
if x2 = 0 then (
l_X8_rollback_13 a0 x2 100 S1 (0 : Int32) (fun S9 v10 => (
g_getI S9 8 11 a0 fun x11 =>
some (x11, S9))))
else (
some (x2, S1))
set_option maxRecDepth 100000 in
set_option maxHeartbeats 4000000 in
theorem j_X8_rollback_13 (E : gE) {n0 s0 : Nat} (u0 : Nat) (u1 : Int32) : ∀ (n : Nat) (S : gS) (u2 : Int32) (K1 : (gS → Int32 → Option (Int32 × gS))), (∀ (S : gS) (u2 : Int32), gJ gI E M_X8_rollback n0 s0 42 [(0, .ref u0), (1, .int u1), (2, .int u2)] [] S (K1 S u2)) → gJ gI E M_X8_rollback n0 s0 13 [(0, .ref u0), (1, .int u1), (2, .int u2)] [] S (l_X8_rollback_13 u0 u1 n S u2 K1) := by
  intro n
  induction n with
  | zero =>
    intros
    rw [l_X8_rollback_13]
    exact gJ.none
  | succ n ih =>
    intro S u2 K1 hK1
    rw [l_X8_rollback_13]
    refine X_iload_n 2 dX8_rollback_13 rfl rfl ?_
    refine X_aload_n 0 dX8_rollback_14 rfl rfl ?_
    refine X_getR kF_X8_19 rfl dX8_rollback_15 (fun a3 => ?_)
    refine X_getI kF_X8_107 rfl dX8_rollback_18 (fun x4 => ?_)
    refine X_icmp_ge (tgt := 42) dX8_rollback_21 (by decide) ?_ ?_
    · skip
      exact (hK1 _ _)
    · skip
      refine X_aload_n 0 dX8_rollback_24 rfl rfl ?_
      refine X_getR kF_X8_19 rfl dX8_rollback_25 (fun a5 => ?_)
      refine X_getR kF_X8_119 rfl dX8_rollback_28 (fun a6 => ?_)
      refine X_iload_n 2 dX8_rollback_31 rfl rfl ?_
      refine X_aald (Or.inl rfl) dX8_rollback_32 (fun a7 => ?_)
      refine X_callVV (ci := 4) (As := []) (st := []) (c_X4_keepPrior E S a7) (by decide) rfl kC_X4_keepPrior kL_X8_194 kI_X4_keepPrior kE_X4_keepPrior (by unfold g_okR; decide) rfl (Nat.le_of_ble_eq_true rfl) dX8_rollback_33 (fun S8 => ?_)
      refine X_iinc (k := 2) (x := u2) (v := (1 : Int32)) (lv2 := [(2, .int (u2 + (1 : Int32))), (0, .ref u0), (1, .int u1)]) dX8_rollback_36 rfl (by decide) (by decide) rfl ?_
      refine X_goto (tgt := 13) dX8_rollback_39 (by decide) ?_
      exact X_sub [1, 2, 0] rfl (ih _ _ _ hK1)
set_option maxRecDepth 100000 in
set_option maxHeartbeats 4000000 in
theorem c_X8_rollback (E : gE) (S : gS) (a0 : Nat) : gC gI E M_X8_rollback [.ref a0] S (f_X8_rollback S a0) := by
  refine gC.of (by decide) (Nat.le_of_ble_eq_true rfl) ?_
  unfold f_X8_rollback
  show gJ gI E M_X8_rollback _ _ 0 [(0, .ref a0)] [] S _
  refine X_aload_n 0 dX8_rollback_0 rfl rfl ?_
  refine X_callVI (ci := 8) (As := []) (st := []) (c_X8_endRunning E S a0) (by decide) rfl kC_X8_endRunning kL_X8_188 kI_X8_endRunning kE_X8_endRunning (by unfold g_okR; decide) rfl (Nat.le_of_ble_eq_true rfl) dX8_rollback_1 (fun x2 S1 => ?_)
  refine X_istore_n (lv2 := [(1, .int x2), (0, .ref a0)]) dX8_rollback_4 rfl (by decide) rfl ?_
  refine X_iload_n 0 dX8_rollback_5 rfl rfl ?_
  refine X_if_eq (tgt := 11) dX8_rollback_6 (by decide) ?_ ?_
  · skip
    refine X_iconst (v := (0 : Int32)) dX8_rollback_11 (by decide) ?_
    refine X_istore_n (lv2 := [(2, .int (0 : Int32)), (1, .int x2), (0, .ref a0)]) dX8_rollback_12 rfl (by decide) rfl ?_
    refine X_sub [2, 1, 0] rfl (j_X8_rollback_13 E a0 x2 100 _ _ _ (fun S9 v10 => ?_))
    refine X_aload_n 0 dX8_rollback_42 rfl rfl ?_
    refine X_getI kF_X8_178 rfl dX8_rollback_43 (fun x11 => ?_)
    exact X_iret rfl dX8_rollback_46
  · skip
    refine X_iload_n 0 dX8_rollback_9 rfl rfl ?_
    exact X_iret rfl dX8_rollback_10
set_option maxRecDepth 100000 in
theorem kC_X8_rollback : g_okC M_X8_rollback 0 := And.intro (g_t (i := 540) rfl (by decide +kernel)) (And.intro (g_nd nd_10_ok (k := 14) rfl) (And.intro (by decide) (And.intro (by decide) (by decide +kernel))))
def M_X8_scrap : gM := (yX8_scrap, cX8_scrap, 2, some .int, 0, 0)
def f_X8_scrap (S : gS) (a0 : Nat) : Option (Int32 × gS) :=
g_getR S 8 8 a0 fun a1 =>
g_getI S 3 1 a1 fun x2 =>
g_getR S 8 8 a0 fun a3 =>
g_putI S 3 1 a3 (0 : Int32) fun S4 =>
some (x2, S4)
set_option maxRecDepth 100000 in
set_option maxHeartbeats 4000000 in
theorem c_X8_scrap (E : gE) (S : gS) (a0 : Nat) : gC gI E M_X8_scrap [.ref a0] S (f_X8_scrap S a0) := by
  refine gC.of (by decide) (Nat.le_of_ble_eq_true rfl) ?_
  unfold f_X8_scrap
  show gJ gI E M_X8_scrap _ _ 0 [(0, .ref a0)] [] S _
  refine X_aload_n 0 dX8_scrap_0 rfl rfl ?_
  refine X_getR kF_X8_53 rfl dX8_scrap_1 (fun a1 => ?_)
  refine X_getI kF_X8_67 rfl dX8_scrap_4 (fun x2 => ?_)
  refine X_istore_n (lv2 := [(1, .int x2), (0, .ref a0)]) dX8_scrap_7 rfl (by decide) rfl ?_
  refine X_aload_n 1 dX8_scrap_8 rfl rfl ?_
  refine X_getR kF_X8_53 rfl dX8_scrap_9 (fun a3 => ?_)
  refine X_iconst (v := (0 : Int32)) dX8_scrap_12 (by decide) ?_
  refine X_putI kF_X8_67 rfl rfl dX8_scrap_13 (fun S4 => ?_)
  refine X_iload_n 0 dX8_scrap_16 rfl rfl ?_
  exact X_iret rfl dX8_scrap_17
set_option maxRecDepth 100000 in
theorem kC_X8_scrap : g_okC M_X8_scrap 0 := And.intro (g_t (i := 253) rfl (by decide +kernel)) (And.intro (g_nd nd_10_ok (k := 14) rfl) (And.intro (by decide) (And.intro (by decide) (by decide +kernel))))
def M_X8_seen : gM := (yX8_seen, cX8_seen, 1, some .int, 0, 0)
def f_X8_seen (S : gS) (a0 : Nat) : Option (Int32 × gS) :=
g_getI S 8 5 a0 fun x1 =>
if x1 = 0 then (
some ((-1 : Int32), S))
else (
g_getR S 8 4 a0 fun a2 =>
g_getI S 5 2 a2 fun x3 =>
some (x3, S))
set_option maxRecDepth 100000 in
set_option maxHeartbeats 4000000 in
theorem c_X8_seen (E : gE) (S : gS) (a0 : Nat) : gC gI E M_X8_seen [.ref a0] S (f_X8_seen S a0) := by
  refine gC.of (by decide) (Nat.le_of_ble_eq_true rfl) ?_
  unfold f_X8_seen
  show gJ gI E M_X8_seen _ _ 0 [(0, .ref a0)] [] S _
  refine X_aload_n 0 dX8_seen_0 rfl rfl ?_
  refine X_getI kF_X8_136 rfl dX8_seen_1 (fun x1 => ?_)
  refine X_if_eq (tgt := 17) dX8_seen_4 (by decide) ?_ ?_
  · skip
    refine X_iconst (v := (-1 : Int32)) dX8_seen_17 (by decide) ?_
    exact X_iret rfl dX8_seen_18
  · skip
    refine X_aload_n 0 dX8_seen_7 rfl rfl ?_
    refine X_getR kF_X8_40 rfl dX8_seen_8 (fun a2 => ?_)
    refine X_getI kF_X8_152 rfl dX8_seen_11 (fun x3 => ?_)
    refine X_goto (tgt := 18) dX8_seen_14 (by decide) ?_
    exact X_iret rfl dX8_seen_18
set_option maxRecDepth 100000 in
theorem kC_X8_seen : g_okC M_X8_seen 0 := And.intro (g_t (i := 454) rfl (by decide +kernel)) (And.intro (g_nd nd_10_ok (k := 14) rfl) (And.intro (by decide) (And.intro (by decide) (by decide +kernel))))
def M_X8_value : gM := (yX8_value, cX8_value, 2, some .long, 1, 21)
def f_X8_value (S : gS) (a0 : Nat) (p1 : Int32) : Option (Int64 × gS) :=
g_cVI S 8 a0 (f_X8_isSeenColumn S a0 p1) fun x2 S1 =>
if x2 = 0 then (
some ((0 : Int64), S1))
else (
g_getR S1 8 3 a0 fun a3 =>
g_cVL S1 2 a3 (f_X2_numberAt S1 a3 p1) fun x5 S4 =>
some (x5, S4))
set_option maxRecDepth 100000 in
set_option maxHeartbeats 4000000 in
theorem c_X8_value (E : gE) (S : gS) (a0 : Nat) (p1 : Int32) : gC gL E M_X8_value [.ref a0, .int p1] S (f_X8_value S a0 p1) := by
  refine gC.of (by decide) (Nat.le_of_ble_eq_true rfl) ?_
  unfold f_X8_value
  show gJ gL E M_X8_value _ _ 0 [(0, .ref a0), (1, .int p1)] [] S _
  refine X_aload_n 0 dX8_value_0 rfl rfl ?_
  refine X_iload_n 1 dX8_value_1 rfl rfl ?_
  refine X_callVI (ci := 8) (As := [.int p1]) (st := []) (c_X8_isSeenColumn E S a0 p1) (by decide) rfl kC_X8_isSeenColumn kL_X8_153 kI_X8_isSeenColumn kE_X8_isSeenColumn (by unfold g_okR; decide) rfl (Nat.le_of_ble_eq_true rfl) dX8_value_2 (fun x2 S1 => ?_)
  refine X_if_eq (tgt := 19) dX8_value_5 (by decide) ?_ ?_
  · skip
    refine X_lconst (v := (0 : Int64)) dX8_value_19 (by decide) ?_
    exact X_lret rfl dX8_value_20
  · skip
    refine X_aload_n 0 dX8_value_8 rfl rfl ?_
    refine X_getR kF_X8_33 rfl dX8_value_9 (fun a3 => ?_)
    refine X_iload_n 1 dX8_value_12 rfl rfl ?_
    refine X_callVL (ci := 2) (As := [.int p1]) (st := []) (c_X2_numberAt E S1 a3 p1) (by decide) rfl kC_X2_numberAt kL_X8_156 kI_X2_numberAt kE_X2_numberAt (by unfold g_okR; decide) rfl (Nat.le_of_ble_eq_true rfl) dX8_value_13 (fun x5 S4 => ?_)
    refine X_goto (tgt := 20) dX8_value_16 (by decide) ?_
    exact X_lret rfl dX8_value_20
set_option maxRecDepth 100000 in
theorem kC_X8_value : g_okC M_X8_value 1 := And.intro (g_t (i := 458) rfl (by decide +kernel)) (And.intro (g_nd nd_10_ok (k := 14) rfl) (And.intro (by decide) (And.intro (by decide) (by decide +kernel))))
def M_X8_putDraft : gM := (yX8_putDraft, cX8_putDraft, 5, none, 5, 126)
def f_X8_putDraft (S : gS) (a0 : Nat) (p1 : Int32) (p2 : Int32) : Option (gS) :=
g_getR S 8 1 a0 fun a1 =>
g_cVI S 7 a1 (f_X7_placeUnder S a1 p1) fun x3 S2 =>
g_jn (fun (S4 : gS) (w5 : Nat) => (
g_jn (fun (S7 : gS) => (
g_cVV S7 4 w5 (f_X4_markWritten S7 w5) fun S9 =>
some S9)) fun jb8 => (
if p2 = 0 then (
g_getR S4 8 2 a0 fun a10 =>
g_getR S4 4 3 w5 fun a11 =>
g_getR S4 8 6 a0 fun a12 =>
g_cVV S4 1 a10 (f_X1_putInto S4 a10 a11 a12) fun S13 =>
g_getI S13 8 10 a0 fun x14 =>
if x14 = 0 then (
jb8 S13)
else (
g_getR S13 8 9 a0 fun a15 =>
g_getR S13 4 3 w5 fun a16 =>
g_getR S13 4 4 w5 fun a17 =>
g_cVV S13 3 a15 (f_X3_makeUp S13 a15 a16 a17) fun S18 =>
jb8 S18))
else (
g_getR S4 8 2 a0 fun a19 =>
g_getR S4 4 4 w5 fun a20 =>
g_getR S4 8 7 a0 fun a21 =>
g_cVV S4 1 a19 (f_X1_putInto S4 a19 a20 a21) fun S22 =>
g_getR S22 8 9 a0 fun a23 =>
g_getR S22 4 4 w5 fun a24 =>
g_getR S22 4 3 w5 fun a25 =>
g_getR S22 8 6 a0 fun a26 =>
g_getI S22 5 2 a26 fun x27 =>
g_cVV S22 3 a23 (f_X3_makeDown S22 a23 a24 a25 x27) fun S28 =>
jb8 S28)))) fun jb6 => (
if x3 < 0 then (
g_getR S2 8 1 a0 fun a29 =>
g_cVR S2 7 a29 (f_X7_insert S2 a29 p1) fun a31 S30 =>
jb6 S30 a31)
else (
g_getR S2 8 1 a0 fun a32 =>
g_getR S2 7 0 a32 fun a33 =>
g_ldR S2 13 a33 x3 fun a34 =>
jb6 S2 a34))
set_option maxRecDepth 100000 in
set_option maxHeartbeats 4000000 in
theorem c_X8_putDraft (E : gE) (S : gS) (a0 : Nat) (p1 : Int32) (p2 : Int32) : gC gV E M_X8_putDraft [.ref a0, .int p1, .int p2] S (f_X8_putDraft S a0 p1 p2) := by
  refine gC.of (by decide) (Nat.le_of_ble_eq_true rfl) ?_
  unfold f_X8_putDraft
  show gJ gV E M_X8_putDraft _ _ 0 [(0, .ref a0), (1, .int p1), (2, .int p2)] [] S _
  refine X_aload_n 0 dX8_putDraft_0 rfl rfl ?_
  refine X_getR kF_X8_19 rfl dX8_putDraft_1 (fun a1 => ?_)
  refine X_iload_n 1 dX8_putDraft_4 rfl rfl ?_
  refine X_callVI (ci := 7) (As := [.int p1]) (st := []) (c_X7_placeUnder E S a1 p1) (by decide) rfl kC_X7_placeUnder kL_X8_104 kI_X7_placeUnder kE_X7_placeUnder (by unfold g_okR; decide) rfl (Nat.le_of_ble_eq_true rfl) dX8_putDraft_5 (fun x3 S2 => ?_)
  refine X_istore_n (lv2 := [(3, .int x3), (0, .ref a0), (1, .int p1), (2, .int p2)]) dX8_putDraft_8 rfl (by decide) rfl ?_
  refine X_iload_n 0 dX8_putDraft_9 rfl rfl ?_
  refine X_jn (fun (j : gS → Nat → Option (gS)) => ∀ (S4 : gS) (w5 : Nat), gJ gV E M_X8_putDraft (gn S) (gsl S) 33 [(0, .ref a0), (1, .int p1), (2, .int p2), (3, .int x3)] [.ref w5] S4 (j S4 w5)) ?_ (fun jb6 hjb6 => ?_)
  · intro S4 w5
    refine X_astore (lv2 := [(4, .ref w5), (0, .ref a0), (1, .int p1), (2, .int p2), (3, .int x3)]) dX8_putDraft_33 (by decide) rfl ?_
    refine X_iload_n 3 dX8_putDraft_35 rfl rfl ?_
    refine X_jn (fun (j : gS → Option (gS)) => ∀ (S7 : gS), gJ gV E M_X8_putDraft (gn S) (gsl S) 122 [(0, .ref a0), (1, .int p1), (2, .int p2), (3, .int x3), (4, .ref w5)] [] S7 (j S7)) ?_ (fun jb8 hjb8 => ?_)
    · intro S7
      refine X_aload 4 dX8_putDraft_122 rfl ?_
      refine X_callVV (ci := 4) (As := []) (st := []) (c_X4_markWritten E S7 w5) (by decide) rfl kC_X4_markWritten kL_X8_236 kI_X4_markWritten kE_X4_markWritten (by unfold g_okR; decide) rfl (Nat.le_of_ble_eq_true rfl) dX8_putDraft_124 (fun S9 => ?_)
      exact X_vret rfl dX8_putDraft_127
    · skip
      refine X_if_eq (tgt := 82) dX8_putDraft_36 (by decide) ?_ ?_
      · skip
        refine X_aload_n 1 dX8_putDraft_82 rfl rfl ?_
        refine X_getR kF_X8_26 rfl dX8_putDraft_83 (fun a10 => ?_)
        refine X_aload 0 dX8_putDraft_86 rfl ?_
        refine X_getR kF_X8_142 rfl dX8_putDraft_88 (fun a11 => ?_)
        refine X_aload_n 1 dX8_putDraft_91 rfl rfl ?_
        refine X_getR kF_X8_44 rfl dX8_putDraft_92 (fun a12 => ?_)
        refine X_callVV (ci := 1) (As := [.ref a11, .ref a12]) (st := []) (c_X1_putInto E S4 a10 a11 a12) (by decide) rfl kC_X1_putInto kL_X8_224 kI_X1_putInto kE_X1_putInto (by unfold g_okR; decide) rfl (Nat.le_of_ble_eq_true rfl) dX8_putDraft_95 (fun S13 => ?_)
        refine X_aload_n 1 dX8_putDraft_98 rfl rfl ?_
        refine X_getI kF_X8_101 rfl dX8_putDraft_99 (fun x14 => ?_)
        refine X_if_eq (tgt := 122) dX8_putDraft_102 (by decide) ?_ ?_
        · skip
          exact X_sub [1, 2, 3, 4, 0] rfl (hjb8 _)
        · skip
          refine X_aload_n 1 dX8_putDraft_105 rfl rfl ?_
          refine X_getR kF_X8_57 rfl dX8_putDraft_106 (fun a15 => ?_)
          refine X_aload 0 dX8_putDraft_109 rfl ?_
          refine X_getR kF_X8_142 rfl dX8_putDraft_111 (fun a16 => ?_)
          refine X_aload 0 dX8_putDraft_114 rfl ?_
          refine X_getR kF_X8_139 rfl dX8_putDraft_116 (fun a17 => ?_)
          refine X_callVV (ci := 3) (As := [.ref a16, .ref a17]) (st := []) (c_X3_makeUp E S13 a15 a16 a17) (by decide) rfl kC_X3_makeUp kL_X8_232 kI_X3_makeUp kE_X3_makeUp (by unfold g_okR; decide) rfl (Nat.le_of_ble_eq_true rfl) dX8_putDraft_119 (fun S18 => ?_)
          exact X_sub [1, 2, 3, 4, 0] rfl (hjb8 _)
      · skip
        refine X_aload_n 1 dX8_putDraft_39 rfl rfl ?_
        refine X_getR kF_X8_26 rfl dX8_putDraft_40 (fun a19 => ?_)
        refine X_aload 0 dX8_putDraft_43 rfl ?_
        refine X_getR kF_X8_139 rfl dX8_putDraft_45 (fun a20 => ?_)
        refine X_aload_n 1 dX8_putDraft_48 rfl rfl ?_
        refine X_getR kF_X8_47 rfl dX8_putDraft_49 (fun a21 => ?_)
        refine X_callVV (ci := 1) (As := [.ref a20, .ref a21]) (st := []) (c_X1_putInto E S4 a19 a20 a21) (by decide) rfl kC_X1_putInto kL_X8_224 kI_X1_putInto kE_X1_putInto (by unfold g_okR; decide) rfl (Nat.le_of_ble_eq_true rfl) dX8_putDraft_52 (fun S22 => ?_)
        refine X_aload_n 1 dX8_putDraft_55 rfl rfl ?_
        refine X_getR kF_X8_57 rfl dX8_putDraft_56 (fun a23 => ?_)
        refine X_aload 0 dX8_putDraft_59 rfl ?_
        refine X_getR kF_X8_139 rfl dX8_putDraft_61 (fun a24 => ?_)
        refine X_aload 0 dX8_putDraft_64 rfl ?_
        refine X_getR kF_X8_142 rfl dX8_putDraft_66 (fun a25 => ?_)
        refine X_aload_n 1 dX8_putDraft_69 rfl rfl ?_
        refine X_getR kF_X8_44 rfl dX8_putDraft_70 (fun a26 => ?_)
        refine X_getI kF_X8_152 rfl dX8_putDraft_73 (fun x27 => ?_)
        refine X_callVV (ci := 3) (As := [.ref a24, .ref a25, .int x27]) (st := []) (c_X3_makeDown E S22 a23 a24 a25 x27) (by decide) rfl kC_X3_makeDown kL_X8_228 kI_X3_makeDown kE_X3_makeDown (by unfold g_okR; decide) rfl (Nat.le_of_ble_eq_true rfl) dX8_putDraft_76 (fun S28 => ?_)
        refine X_goto (tgt := 122) dX8_putDraft_79 (by decide) ?_
        exact X_sub [1, 2, 3, 4, 0] rfl (hjb8 _)
  · skip
    refine X_if_lt (tgt := 25) dX8_putDraft_10 (by decide) ?_ ?_
    · skip
      refine X_aload_n 1 dX8_putDraft_25 rfl rfl ?_
      refine X_getR kF_X8_19 rfl dX8_putDraft_26 (fun a29 => ?_)
      refine X_iload_n 2 dX8_putDraft_29 rfl rfl ?_
      refine X_callVR (ci := 7) (As := [.int p1]) (st := []) (c_X7_insert E S2 a29 p1) (by decide) rfl kC_X7_insert kL_X8_220 kI_X7_insert kE_X7_insert (by unfold g_okR; decide) rfl (Nat.le_of_ble_eq_true rfl) dX8_putDraft_30 (fun a31 S30 => ?_)
      exact X_sub [1, 2, 3, 0] rfl (hjb6 _ _)
    · skip
      refine X_aload_n 1 dX8_putDraft_13 rfl rfl ?_
      refine X_getR kF_X8_19 rfl dX8_putDraft_14 (fun a32 => ?_)
      refine X_getR kF_X8_119 rfl dX8_putDraft_17 (fun a33 => ?_)
      refine X_iload_n 0 dX8_putDraft_20 rfl rfl ?_
      refine X_aald (Or.inl rfl) dX8_putDraft_21 (fun a34 => ?_)
      refine X_goto (tgt := 33) dX8_putDraft_22 (by decide) ?_
      exact X_sub [1, 2, 3, 0] rfl (hjb6 _ _)
set_option maxRecDepth 100000 in
theorem kC_X8_putDraft : g_okC M_X8_putDraft 2 := And.intro (g_t (i := 318) rfl (by decide +kernel)) (And.intro (g_nd nd_10_ok (k := 14) rfl) (And.intro (by decide) (And.intro (by decide) (by decide +kernel))))
def M_X8_write : gM := (yX8_write, cX8_write, 4, some .int, 6, 150)
def f_X8_write (S : gS) (a0 : Nat) (p1 : Int32) (p2 : Int32) : Option (Int32 × gS) :=
g_getR S 8 0 a0 fun a1 =>
g_cVV S 0 a1 (f_X0_startCall S a1) fun S2 =>
g_getR S2 8 0 a0 fun a3 =>
g_getI S2 0 0 a3 fun x4 =>
if x4 = 0 then (
g_jn (fun (S5 : gS) => (
g_getR S5 8 1 a0 fun a7 =>
g_cVI S5 7 a7 (f_X7_placeUnder S5 a7 p1) fun x9 S8 =>
g_jn (fun (S10 : gS) (w11 : Int32) => (
g_jn (fun (S13 : gS) => (
g_getR S13 8 0 a0 fun a15 =>
g_cVI S13 0 a15 (f_X0_act S13 a15) fun x17 S16 =>
if x17 = 0 then (
some ((-9 : Int32), S16))
else (
g_cVV S16 8 a0 (f_X8_putDraft S16 a0 p1 p2) fun S18 =>
g_getI S18 8 10 a0 fun x19 =>
g_jn (fun (S20 : gS) => (
if w11 = 0 then (
some ((0 : Int32), S20))
else (
some ((1 : Int32), S20)))) fun jb21 => (
if x19 = 0 then (
jb21 S18)
else (
g_getR S18 8 0 a0 fun a22 =>
g_cVI S18 0 a22 (f_X0_carryOutNote S18 a22) fun x24 S23 =>
if x24 = 0 then (
some ((-9 : Int32), S23))
else (
jb21 S23)))))) fun jb14 => (
if w11 = 0 then (
g_getR S10 8 1 a0 fun a25 =>
g_getI S10 7 1 a25 fun x26 =>
if x26 = (40 : Int32) then (
some ((-4 : Int32), S10))
else (
jb14 S10))
else (
jb14 S10)))) fun jb12 => (
if x9 < 0 then (
jb12 S8 (0 : Int32))
else (
jb12 S8 (1 : Int32))))) fun jb6 => (
if p2 = 0 then (
jb6 S2)
else (
g_getI S2 8 10 a0 fun x27 =>
if x27 = 0 then (
some ((-2 : Int32), S2))
else (
jb6 S2))))
else (
some ((-8 : Int32), S2))
set_option maxRecDepth 100000 in
set_option maxHeartbeats 4000000 in
theorem c_X8_write (E : gE) (S : gS) (a0 : Nat) (p1 : Int32) (p2 : Int32) : gC gI E M_X8_write [.ref a0, .int p1, .int p2] S (f_X8_write S a0 p1 p2) := by
  refine gC.of (by decide) (Nat.le_of_ble_eq_true rfl) ?_
  unfold f_X8_write
  show gJ gI E M_X8_write _ _ 0 [(0, .ref a0), (1, .int p1), (2, .int p2)] [] S _
  refine X_aload_n 0 dX8_write_0 rfl rfl ?_
  refine X_getR kF_X8_10 rfl dX8_write_1 (fun a1 => ?_)
  refine X_callVV (ci := 0) (As := []) (st := []) (c_X0_startCall E S a1) (by decide) rfl kC_X0_startCall kL_X8_94 kI_X0_startCall kE_X0_startCall (by unfold g_okR; decide) rfl (Nat.le_of_ble_eq_true rfl) dX8_write_4 (fun S2 => ?_)
  refine X_aload_n 0 dX8_write_7 rfl rfl ?_
  refine X_getR kF_X8_10 rfl dX8_write_8 (fun a3 => ?_)
  refine X_getI kF_X8_97 rfl dX8_write_11 (fun x4 => ?_)
  refine X_if_eq (tgt := 20) dX8_write_14 (by decide) ?_ ?_
  · skip
    refine X_iload_n 2 dX8_write_20 rfl rfl ?_
    refine X_jn (fun (j : gS → Option (Int32 × gS)) => ∀ (S5 : gS), gJ gI E M_X8_write (gn S) (gsl S) 34 [(0, .ref a0), (1, .int p1), (2, .int p2)] [] S5 (j S5)) ?_ (fun jb6 hjb6 => ?_)
    · intro S5
      refine X_aload_n 0 dX8_write_34 rfl rfl ?_
      refine X_getR kF_X8_19 rfl dX8_write_35 (fun a7 => ?_)
      refine X_iload_n 1 dX8_write_38 rfl rfl ?_
      refine X_callVI (ci := 7) (As := [.int p1]) (st := []) (c_X7_placeUnder E S5 a7 p1) (by decide) rfl kC_X7_placeUnder kL_X8_104 kI_X7_placeUnder kE_X7_placeUnder (by unfold g_okR; decide) rfl (Nat.le_of_ble_eq_true rfl) dX8_write_39 (fun x9 S8 => ?_)
      refine X_jn (fun (j : gS → Int32 → Option (Int32 × gS)) => ∀ (S10 : gS) (w11 : Int32), gJ gI E M_X8_write (gn S) (gsl S) 50 [(0, .ref a0), (1, .int p1), (2, .int p2)] [.int w11] S10 (j S10 w11)) ?_ (fun jb12 hjb12 => ?_)
      · intro S10 w11
        refine X_istore_n (lv2 := [(3, .int w11), (0, .ref a0), (1, .int p1), (2, .int p2)]) dX8_write_50 rfl (by decide) rfl ?_
        refine X_iload_n 0 dX8_write_51 rfl rfl ?_
        refine X_jn (fun (j : gS → Option (Int32 × gS)) => ∀ (S13 : gS), gJ gI E M_X8_write (gn S) (gsl S) 70 [(0, .ref a0), (1, .int p1), (2, .int p2), (3, .int w11)] [] S13 (j S13)) ?_ (fun jb14 hjb14 => ?_)
        · intro S13
          refine X_aload_n 0 dX8_write_70 rfl rfl ?_
          refine X_getR kF_X8_10 rfl dX8_write_71 (fun a15 => ?_)
          refine X_callVI (ci := 0) (As := []) (st := []) (c_X0_act E S13 a15) (by decide) rfl kC_X0_act kL_X8_108 kI_X0_act kE_X0_act (by unfold g_okR; decide) rfl (Nat.le_of_ble_eq_true rfl) dX8_write_74 (fun x17 S16 => ?_)
          refine X_if_ne (tgt := 83) dX8_write_77 (by decide) ?_ ?_
          · skip
            refine X_bipush (v := (-9 : Int32)) dX8_write_80 (by decide) ?_
            exact X_iret rfl dX8_write_82
          · skip
            refine X_aload_n 0 dX8_write_83 rfl rfl ?_
            refine X_iload_n 1 dX8_write_84 rfl rfl ?_
            refine X_iload_n 2 dX8_write_85 rfl rfl ?_
            refine X_callVV (ci := 8) (As := [.int p1, .int p2]) (st := []) (c_X8_putDraft E S16 a0 p1 p2) (by decide) rfl kC_X8_putDraft kL_X8_112 kI_X8_putDraft kE_X8_putDraft (by unfold g_okR; decide) rfl (Nat.le_of_ble_eq_true rfl) dX8_write_86 (fun S18 => ?_)
            refine X_aload_n 0 dX8_write_89 rfl rfl ?_
            refine X_getI kF_X8_101 rfl dX8_write_90 (fun x19 => ?_)
            refine X_jn (fun (j : gS → Option (Int32 × gS)) => ∀ (S20 : gS), gJ gI E M_X8_write (gn S) (gsl S) 109 [(0, .ref a0), (1, .int p1), (2, .int p2), (3, .int w11)] [] S20 (j S20)) ?_ (fun jb21 hjb21 => ?_)
            · intro S20
              refine X_iload_n 3 dX8_write_109 rfl rfl ?_
              refine X_if_eq (tgt := 117) dX8_write_110 (by decide) ?_ ?_
              · skip
                refine X_iconst (v := (0 : Int32)) dX8_write_117 (by decide) ?_
                exact X_iret rfl dX8_write_118
              · skip
                refine X_iconst (v := (1 : Int32)) dX8_write_113 (by decide) ?_
                refine X_goto (tgt := 118) dX8_write_114 (by decide) ?_
                exact X_iret rfl dX8_write_118
            · skip
              refine X_if_eq (tgt := 109) dX8_write_93 (by decide) ?_ ?_
              · skip
                exact (hjb21 _)
              · skip
                refine X_aload_n 0 dX8_write_96 rfl rfl ?_
                refine X_getR kF_X8_10 rfl dX8_write_97 (fun a22 => ?_)
                refine X_callVI (ci := 0) (As := []) (st := []) (c_X0_carryOutNote E S18 a22) (by decide) rfl kC_X0_carryOutNote kL_X8_116 kI_X0_carryOutNote kE_X0_carryOutNote (by unfold g_okR; decide) rfl (Nat.le_of_ble_eq_true rfl) dX8_write_100 (fun x24 S23 => ?_)
                refine X_if_ne (tgt := 109) dX8_write_103 (by decide) ?_ ?_
                · skip
                  refine X_bipush (v := (-9 : Int32)) dX8_write_106 (by decide) ?_
                  exact X_iret rfl dX8_write_108
                · skip
                  exact (hjb21 _)
        · skip
          refine X_if_ne (tgt := 70) dX8_write_52 (by decide) ?_ ?_
          · skip
            refine X_aload_n 1 dX8_write_55 rfl rfl ?_
            refine X_getR kF_X8_19 rfl dX8_write_56 (fun a25 => ?_)
            refine X_getI kF_X8_107 rfl dX8_write_59 (fun x26 => ?_)
            refine X_bipush (v := (40 : Int32)) dX8_write_62 (by decide) ?_
            refine X_icmp_ne (tgt := 70) dX8_write_64 (by decide) ?_ ?_
            · skip
              refine X_bipush (v := (-4 : Int32)) dX8_write_67 (by decide) ?_
              exact X_iret rfl dX8_write_69
            · skip
              exact X_sub [1, 2, 3, 0] rfl (hjb14 _)
          · skip
            exact X_sub [1, 2, 3, 0] rfl (hjb14 _)
      · skip
        refine X_if_lt (tgt := 49) dX8_write_42 (by decide) ?_ ?_
        · skip
          refine X_iconst (v := (0 : Int32)) dX8_write_49 (by decide) ?_
          exact (hjb12 _ _)
        · skip
          refine X_iconst (v := (1 : Int32)) dX8_write_45 (by decide) ?_
          refine X_goto (tgt := 50) dX8_write_46 (by decide) ?_
          exact (hjb12 _ _)
    · skip
      refine X_if_eq (tgt := 34) dX8_write_21 (by decide) ?_ ?_
      · skip
        exact (hjb6 _)
      · skip
        refine X_aload_n 0 dX8_write_24 rfl rfl ?_
        refine X_getI kF_X8_101 rfl dX8_write_25 (fun x27 => ?_)
        refine X_if_ne (tgt := 34) dX8_write_28 (by decide) ?_ ?_
        · skip
          refine X_bipush (v := (-2 : Int32)) dX8_write_31 (by decide) ?_
          exact X_iret rfl dX8_write_33
        · skip
          exact (hjb6 _)
  · skip
    refine X_bipush (v := (-8 : Int32)) dX8_write_17 (by decide) ?_
    exact X_iret rfl dX8_write_19
set_option maxRecDepth 100000 in
theorem kC_X8_write : g_okC M_X8_write 2 := And.intro (g_t (i := 298) rfl (by decide +kernel)) (And.intro (g_nd nd_10_ok (k := 14) rfl) (And.intro (by decide) (And.intro (by decide) (by decide +kernel))))
