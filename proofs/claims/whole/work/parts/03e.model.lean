def M_X9_init : gM := (yX9_init, cX9_init, 1, none, 1, 20)
def f_X9_init (S : gS) (a0 : Nat) : Option (gS) :=
g_nwa S 11 (656 : Int32) fun a1 S2 =>
g_putR S2 9 0 a0 a1 fun S3 =>
g_nwa S3 10 (656 : Int32) fun a4 S5 =>
g_putR S5 9 1 a0 a4 fun S6 =>
g_nwa S6 10 (15744 : Int32) fun a7 S8 =>
g_putR S8 9 2 a0 a7 fun S9 =>
g_nwa S9 10 (24 : Int32) fun a10 S11 =>
g_putR S11 9 3 a0 a10 fun S12 =>
g_nwa S12 10 (40 : Int32) fun a13 S14 =>
g_putR S14 9 4 a0 a13 fun S15 =>
g_nwa S15 10 (40 : Int32) fun a16 S17 =>
g_putR S17 9 5 a0 a16 fun S18 =>
g_nwa S18 10 (40 : Int32) fun a19 S20 =>
g_putR S20 9 7 a0 a19 fun S21 =>
g_nwa S21 12 (40 : Int32) fun a22 S23 =>
g_putR S23 9 8 a0 a22 fun S24 =>
g_nwa S24 12 (40 : Int32) fun a25 S26 =>
g_putR S26 9 9 a0 a25 fun S27 =>
g_nwa S27 12 (40 : Int32) fun a28 S29 =>
g_putR S29 9 10 a0 a28 fun S30 =>
g_nwa S30 10 (24 : Int32) fun a31 S32 =>
g_putR S32 9 11 a0 a31 fun S33 =>
g_nwa S33 10 (24 : Int32) fun a34 S35 =>
g_putR S35 9 12 a0 a34 fun S36 =>
g_nwa S36 10 (3 : Int32) fun a37 S38 =>
g_putR S38 9 13 a0 a37 fun S39 =>
g_nwa S39 10 (12 : Int32) fun a40 S41 =>
g_putR S41 9 16 a0 a40 fun S42 =>
g_nwa S42 10 (12 : Int32) fun a43 S44 =>
g_putR S44 9 17 a0 a43 fun S45 =>
g_nwa S45 10 (12 : Int32) fun a46 S47 =>
g_putR S47 9 18 a0 a46 fun S48 =>
g_nwa S48 10 (12 : Int32) fun a49 S50 =>
g_putR S50 9 19 a0 a49 fun S51 =>
g_nwa S51 10 (12 : Int32) fun a52 S53 =>
g_putR S53 9 20 a0 a52 fun S54 =>
g_nwa S54 10 (8 : Int32) fun a55 S56 =>
g_putR S56 9 23 a0 a55 fun S57 =>
g_nwa S57 10 (8 : Int32) fun a58 S59 =>
g_putR S59 9 24 a0 a58 fun S60 =>
g_nwa S60 10 (8 : Int32) fun a61 S62 =>
g_putR S62 9 25 a0 a61 fun S63 =>
g_nwa S63 10 (192 : Int32) fun a64 S65 =>
g_putR S65 9 26 a0 a64 fun S66 =>
g_putI S66 9 27 a0 (-1 : Int32) fun S67 =>
g_nwa S67 10 (8 : Int32) fun a68 S69 =>
g_putR S69 9 28 a0 a68 fun S70 =>
g_nwa S70 10 (8 : Int32) fun a71 S72 =>
g_putR S72 9 34 a0 a71 fun S73 =>
g_nwa S73 12 (8 : Int32) fun a74 S75 =>
g_putR S75 9 35 a0 a74 fun S76 =>
g_nwa S76 10 (48 : Int32) fun a77 S78 =>
g_putR S78 9 36 a0 a77 fun S79 =>
g_nwa S79 10 (8 : Int32) fun a80 S81 =>
g_putR S81 9 37 a0 a80 fun S82 =>
some S82
set_option maxRecDepth 100000 in
set_option maxHeartbeats 4000000 in
theorem c_X9_init (E : gE) (S : gS) (a0 : Nat) : gC gV E M_X9_init [.ref a0] S (f_X9_init S a0) := by
  refine gC.of (by decide) (Nat.le_of_ble_eq_true rfl) ?_
  unfold f_X9_init
  show gJ gV E M_X9_init _ _ 0 [(0, .ref a0)] [] S _
  refine X_aload_n 0 dX9_init_0 rfl rfl ?_
  refine X_objInit kL_X9_1 kI_obj kC_obj (by decide) (Nat.le_of_ble_eq_true rfl) dX9_init_1 ?_
  refine X_aload_n 0 dX9_init_4 rfl rfl ?_
  refine X_sipush (v := (656 : Int32)) dX9_init_5 (by decide) ?_
  refine X_newarr (ty := .long) rfl (Or.inr (Or.inl ⟨rfl, rfl⟩)) kA_long dX9_init_8 (fun a1 S2 => ?_)
  refine X_putR kF_X9_7 (Or.inr ⟨_, rfl⟩) (Or.inr ⟨rfl, rfl, rfl⟩) dX9_init_10 (fun S3 => ?_)
  refine X_aload_n 0 dX9_init_13 rfl rfl ?_
  refine X_sipush (v := (656 : Int32)) dX9_init_14 (by decide) ?_
  refine X_newarr (ty := .int) rfl (Or.inl ⟨rfl, rfl⟩) kA_int dX9_init_17 (fun a4 S5 => ?_)
  refine X_putR kF_X9_13 (Or.inr ⟨_, rfl⟩) (Or.inr ⟨rfl, rfl, rfl⟩) dX9_init_19 (fun S6 => ?_)
  refine X_aload_n 0 dX9_init_22 rfl rfl ?_
  refine X_sipush (v := (15744 : Int32)) dX9_init_23 (by decide) ?_
  refine X_newarr (ty := .int) rfl (Or.inl ⟨rfl, rfl⟩) kA_int dX9_init_26 (fun a7 S8 => ?_)
  refine X_putR kF_X9_17 (Or.inr ⟨_, rfl⟩) (Or.inr ⟨rfl, rfl, rfl⟩) dX9_init_28 (fun S9 => ?_)
  refine X_aload_n 0 dX9_init_31 rfl rfl ?_
  refine X_bipush (v := (24 : Int32)) dX9_init_32 (by decide) ?_
  refine X_newarr (ty := .int) rfl (Or.inl ⟨rfl, rfl⟩) kA_int dX9_init_34 (fun a10 S11 => ?_)
  refine X_putR kF_X9_20 (Or.inr ⟨_, rfl⟩) (Or.inr ⟨rfl, rfl, rfl⟩) dX9_init_36 (fun S12 => ?_)
  refine X_aload_n 0 dX9_init_39 rfl rfl ?_
  refine X_bipush (v := (40 : Int32)) dX9_init_40 (by decide) ?_
  refine X_newarr (ty := .int) rfl (Or.inl ⟨rfl, rfl⟩) kA_int dX9_init_42 (fun a13 S14 => ?_)
  refine X_putR kF_X9_23 (Or.inr ⟨_, rfl⟩) (Or.inr ⟨rfl, rfl, rfl⟩) dX9_init_44 (fun S15 => ?_)
  refine X_aload_n 0 dX9_init_47 rfl rfl ?_
  refine X_bipush (v := (40 : Int32)) dX9_init_48 (by decide) ?_
  refine X_newarr (ty := .int) rfl (Or.inl ⟨rfl, rfl⟩) kA_int dX9_init_50 (fun a16 S17 => ?_)
  refine X_putR kF_X9_26 (Or.inr ⟨_, rfl⟩) (Or.inr ⟨rfl, rfl, rfl⟩) dX9_init_52 (fun S18 => ?_)
  refine X_aload_n 0 dX9_init_55 rfl rfl ?_
  refine X_bipush (v := (40 : Int32)) dX9_init_56 (by decide) ?_
  refine X_newarr (ty := .int) rfl (Or.inl ⟨rfl, rfl⟩) kA_int dX9_init_58 (fun a19 S20 => ?_)
  refine X_putR kF_X9_29 (Or.inr ⟨_, rfl⟩) (Or.inr ⟨rfl, rfl, rfl⟩) dX9_init_60 (fun S21 => ?_)
  refine X_aload_n 0 dX9_init_63 rfl rfl ?_
  refine X_bipush (v := (40 : Int32)) dX9_init_64 (by decide) ?_
  refine X_newarr (ty := .boolean) rfl (Or.inr (Or.inr ⟨rfl, rfl⟩)) kA_boolean dX9_init_66 (fun a22 S23 => ?_)
  refine X_putR kF_X9_32 (Or.inr ⟨_, rfl⟩) (Or.inr ⟨rfl, rfl, rfl⟩) dX9_init_68 (fun S24 => ?_)
  refine X_aload_n 0 dX9_init_71 rfl rfl ?_
  refine X_bipush (v := (40 : Int32)) dX9_init_72 (by decide) ?_
  refine X_newarr (ty := .boolean) rfl (Or.inr (Or.inr ⟨rfl, rfl⟩)) kA_boolean dX9_init_74 (fun a25 S26 => ?_)
  refine X_putR kF_X9_36 (Or.inr ⟨_, rfl⟩) (Or.inr ⟨rfl, rfl, rfl⟩) dX9_init_76 (fun S27 => ?_)
  refine X_aload_n 0 dX9_init_79 rfl rfl ?_
  refine X_bipush (v := (40 : Int32)) dX9_init_80 (by decide) ?_
  refine X_newarr (ty := .boolean) rfl (Or.inr (Or.inr ⟨rfl, rfl⟩)) kA_boolean dX9_init_82 (fun a28 S29 => ?_)
  refine X_putR kF_X9_39 (Or.inr ⟨_, rfl⟩) (Or.inr ⟨rfl, rfl, rfl⟩) dX9_init_84 (fun S30 => ?_)
  refine X_aload_n 0 dX9_init_87 rfl rfl ?_
  refine X_bipush (v := (24 : Int32)) dX9_init_88 (by decide) ?_
  refine X_newarr (ty := .int) rfl (Or.inl ⟨rfl, rfl⟩) kA_int dX9_init_90 (fun a31 S32 => ?_)
  refine X_putR kF_X9_42 (Or.inr ⟨_, rfl⟩) (Or.inr ⟨rfl, rfl, rfl⟩) dX9_init_92 (fun S33 => ?_)
  refine X_aload_n 0 dX9_init_95 rfl rfl ?_
  refine X_bipush (v := (24 : Int32)) dX9_init_96 (by decide) ?_
  refine X_newarr (ty := .int) rfl (Or.inl ⟨rfl, rfl⟩) kA_int dX9_init_98 (fun a34 S35 => ?_)
  refine X_putR kF_X9_45 (Or.inr ⟨_, rfl⟩) (Or.inr ⟨rfl, rfl, rfl⟩) dX9_init_100 (fun S36 => ?_)
  refine X_aload_n 0 dX9_init_103 rfl rfl ?_
  refine X_iconst (v := (3 : Int32)) dX9_init_104 (by decide) ?_
  refine X_newarr (ty := .int) rfl (Or.inl ⟨rfl, rfl⟩) kA_int dX9_init_105 (fun a37 S38 => ?_)
  refine X_putR kF_X9_48 (Or.inr ⟨_, rfl⟩) (Or.inr ⟨rfl, rfl, rfl⟩) dX9_init_107 (fun S39 => ?_)
  refine X_aload_n 0 dX9_init_110 rfl rfl ?_
  refine X_bipush (v := (12 : Int32)) dX9_init_111 (by decide) ?_
  refine X_newarr (ty := .int) rfl (Or.inl ⟨rfl, rfl⟩) kA_int dX9_init_113 (fun a40 S41 => ?_)
  refine X_putR kF_X9_51 (Or.inr ⟨_, rfl⟩) (Or.inr ⟨rfl, rfl, rfl⟩) dX9_init_115 (fun S42 => ?_)
  refine X_aload_n 0 dX9_init_118 rfl rfl ?_
  refine X_bipush (v := (12 : Int32)) dX9_init_119 (by decide) ?_
  refine X_newarr (ty := .int) rfl (Or.inl ⟨rfl, rfl⟩) kA_int dX9_init_121 (fun a43 S44 => ?_)
  refine X_putR kF_X9_54 (Or.inr ⟨_, rfl⟩) (Or.inr ⟨rfl, rfl, rfl⟩) dX9_init_123 (fun S45 => ?_)
  refine X_aload_n 0 dX9_init_126 rfl rfl ?_
  refine X_bipush (v := (12 : Int32)) dX9_init_127 (by decide) ?_
  refine X_newarr (ty := .int) rfl (Or.inl ⟨rfl, rfl⟩) kA_int dX9_init_129 (fun a46 S47 => ?_)
  refine X_putR kF_X9_57 (Or.inr ⟨_, rfl⟩) (Or.inr ⟨rfl, rfl, rfl⟩) dX9_init_131 (fun S48 => ?_)
  refine X_aload_n 0 dX9_init_134 rfl rfl ?_
  refine X_bipush (v := (12 : Int32)) dX9_init_135 (by decide) ?_
  refine X_newarr (ty := .int) rfl (Or.inl ⟨rfl, rfl⟩) kA_int dX9_init_137 (fun a49 S50 => ?_)
  refine X_putR kF_X9_60 (Or.inr ⟨_, rfl⟩) (Or.inr ⟨rfl, rfl, rfl⟩) dX9_init_139 (fun S51 => ?_)
  refine X_aload_n 0 dX9_init_142 rfl rfl ?_
  refine X_bipush (v := (12 : Int32)) dX9_init_143 (by decide) ?_
  refine X_newarr (ty := .int) rfl (Or.inl ⟨rfl, rfl⟩) kA_int dX9_init_145 (fun a52 S53 => ?_)
  refine X_putR kF_X9_63 (Or.inr ⟨_, rfl⟩) (Or.inr ⟨rfl, rfl, rfl⟩) dX9_init_147 (fun S54 => ?_)
  refine X_aload_n 0 dX9_init_150 rfl rfl ?_
  refine X_bipush (v := (8 : Int32)) dX9_init_151 (by decide) ?_
  refine X_newarr (ty := .int) rfl (Or.inl ⟨rfl, rfl⟩) kA_int dX9_init_153 (fun a55 S56 => ?_)
  refine X_putR kF_X9_66 (Or.inr ⟨_, rfl⟩) (Or.inr ⟨rfl, rfl, rfl⟩) dX9_init_155 (fun S57 => ?_)
  refine X_aload_n 0 dX9_init_158 rfl rfl ?_
  refine X_bipush (v := (8 : Int32)) dX9_init_159 (by decide) ?_
  refine X_newarr (ty := .int) rfl (Or.inl ⟨rfl, rfl⟩) kA_int dX9_init_161 (fun a58 S59 => ?_)
  refine X_putR kF_X9_69 (Or.inr ⟨_, rfl⟩) (Or.inr ⟨rfl, rfl, rfl⟩) dX9_init_163 (fun S60 => ?_)
  refine X_aload_n 0 dX9_init_166 rfl rfl ?_
  refine X_bipush (v := (8 : Int32)) dX9_init_167 (by decide) ?_
  refine X_newarr (ty := .int) rfl (Or.inl ⟨rfl, rfl⟩) kA_int dX9_init_169 (fun a61 S62 => ?_)
  refine X_putR kF_X9_72 (Or.inr ⟨_, rfl⟩) (Or.inr ⟨rfl, rfl, rfl⟩) dX9_init_171 (fun S63 => ?_)
  refine X_aload_n 0 dX9_init_174 rfl rfl ?_
  refine X_sipush (v := (192 : Int32)) dX9_init_175 (by decide) ?_
  refine X_newarr (ty := .int) rfl (Or.inl ⟨rfl, rfl⟩) kA_int dX9_init_178 (fun a64 S65 => ?_)
  refine X_putR kF_X9_75 (Or.inr ⟨_, rfl⟩) (Or.inr ⟨rfl, rfl, rfl⟩) dX9_init_180 (fun S66 => ?_)
  refine X_aload_n 0 dX9_init_183 rfl rfl ?_
  refine X_iconst (v := (-1 : Int32)) dX9_init_184 (by decide) ?_
  refine X_putI kF_X9_78 rfl rfl dX9_init_185 (fun S67 => ?_)
  refine X_aload_n 0 dX9_init_188 rfl rfl ?_
  refine X_bipush (v := (8 : Int32)) dX9_init_189 (by decide) ?_
  refine X_newarr (ty := .int) rfl (Or.inl ⟨rfl, rfl⟩) kA_int dX9_init_191 (fun a68 S69 => ?_)
  refine X_putR kF_X9_82 (Or.inr ⟨_, rfl⟩) (Or.inr ⟨rfl, rfl, rfl⟩) dX9_init_193 (fun S70 => ?_)
  refine X_aload_n 0 dX9_init_196 rfl rfl ?_
  refine X_bipush (v := (8 : Int32)) dX9_init_197 (by decide) ?_
  refine X_newarr (ty := .int) rfl (Or.inl ⟨rfl, rfl⟩) kA_int dX9_init_199 (fun a71 S72 => ?_)
  refine X_putR kF_X9_85 (Or.inr ⟨_, rfl⟩) (Or.inr ⟨rfl, rfl, rfl⟩) dX9_init_201 (fun S73 => ?_)
  refine X_aload_n 0 dX9_init_204 rfl rfl ?_
  refine X_bipush (v := (8 : Int32)) dX9_init_205 (by decide) ?_
  refine X_newarr (ty := .boolean) rfl (Or.inr (Or.inr ⟨rfl, rfl⟩)) kA_boolean dX9_init_207 (fun a74 S75 => ?_)
  refine X_putR kF_X9_88 (Or.inr ⟨_, rfl⟩) (Or.inr ⟨rfl, rfl, rfl⟩) dX9_init_209 (fun S76 => ?_)
  refine X_aload_n 0 dX9_init_212 rfl rfl ?_
  refine X_bipush (v := (48 : Int32)) dX9_init_213 (by decide) ?_
  refine X_newarr (ty := .int) rfl (Or.inl ⟨rfl, rfl⟩) kA_int dX9_init_215 (fun a77 S78 => ?_)
  refine X_putR kF_X9_91 (Or.inr ⟨_, rfl⟩) (Or.inr ⟨rfl, rfl, rfl⟩) dX9_init_217 (fun S79 => ?_)
  refine X_aload_n 0 dX9_init_220 rfl rfl ?_
  refine X_bipush (v := (8 : Int32)) dX9_init_221 (by decide) ?_
  refine X_newarr (ty := .int) rfl (Or.inl ⟨rfl, rfl⟩) kA_int dX9_init_223 (fun a80 S81 => ?_)
  refine X_putR kF_X9_94 (Or.inr ⟨_, rfl⟩) (Or.inr ⟨rfl, rfl, rfl⟩) dX9_init_225 (fun S82 => ?_)
  exact X_vret rfl dX9_init_228
set_option maxRecDepth 100000 in
theorem kC_X9_init : g_okC M_X9_init 0 := And.intro (g_t (i := 581) rfl (by decide +kernel)) (And.intro (g_nd nd_10_ok (k := 19) rfl) (And.intro (by decide) (And.intro (by decide) (by decide +kernel))))
def M_X9_act : gM := (yX9_act, cX9_act, 1, some .boolean, 0, 0)
def f_X9_act (S : gS) (a0 : Nat) : Option (Int32 × gS) :=
g_getI S 9 31 a0 fun x1 =>
g_jn (fun (S2 : gS) => (
g_getI S2 9 29 a0 fun x4 =>
g_putI S2 9 29 a0 (x4 + (1 : Int32)) fun S5 =>
g_getI S5 9 30 a0 fun x6 =>
g_putI S5 9 30 a0 (x6 + (1 : Int32)) fun S7 =>
some ((1 : Int32), S7))) fun jb3 => (
if x1 ≤ 0 then (
jb3 S)
else (
g_getI S 9 31 a0 fun x8 =>
g_putI S 9 31 a0 (x8 - (1 : Int32)) fun S9 =>
g_getI S9 9 31 a0 fun x10 =>
if x10 = 0 then (
g_putZ S9 9 32 a0 (1 : Int32) fun S11 =>
some ((0 : Int32), S11))
else (
jb3 S9)))
set_option maxRecDepth 100000 in
set_option maxHeartbeats 4000000 in
theorem c_X9_act (E : gE) (S : gS) (a0 : Nat) : gC gI E M_X9_act [.ref a0] S (f_X9_act S a0) := by
  refine gC.of (by decide) (Nat.le_of_ble_eq_true rfl) ?_
  unfold f_X9_act
  show gJ gI E M_X9_act _ _ 0 [(0, .ref a0)] [] S _
  refine X_aload_n 0 dX9_act_0 rfl rfl ?_
  refine X_getI kF_X9_167 rfl dX9_act_1 (fun x1 => ?_)
  refine X_jn (fun (j : gS → Option (Int32 × gS)) => ∀ (S2 : gS), gJ gI E M_X9_act (gn S) (gsl S) 31 [(0, .ref a0)] [] S2 (j S2)) ?_ (fun jb3 hjb3 => ?_)
  · intro S2
    refine X_aload_n 0 dX9_act_31 rfl rfl ?_
    refine X_dup dX9_act_32 rfl ?_
    refine X_getI kF_X9_174 rfl dX9_act_33 (fun x4 => ?_)
    refine X_iconst (v := (1 : Int32)) dX9_act_36 (by decide) ?_
    refine X_iadd dX9_act_37 ?_
    refine X_putI kF_X9_174 rfl rfl dX9_act_38 (fun S5 => ?_)
    refine X_aload_n 0 dX9_act_41 rfl rfl ?_
    refine X_dup dX9_act_42 rfl ?_
    refine X_getI kF_X9_177 rfl dX9_act_43 (fun x6 => ?_)
    refine X_iconst (v := (1 : Int32)) dX9_act_46 (by decide) ?_
    refine X_iadd dX9_act_47 ?_
    refine X_putI kF_X9_177 rfl rfl dX9_act_48 (fun S7 => ?_)
    refine X_iconst (v := (1 : Int32)) dX9_act_51 (by decide) ?_
    exact X_z1 rfl dX9_act_52
  · skip
    refine X_if_le (tgt := 31) dX9_act_4 (by decide) ?_ ?_
    · skip
      exact (hjb3 _)
    · skip
      refine X_aload_n 0 dX9_act_7 rfl rfl ?_
      refine X_dup dX9_act_8 rfl ?_
      refine X_getI kF_X9_167 rfl dX9_act_9 (fun x8 => ?_)
      refine X_iconst (v := (1 : Int32)) dX9_act_12 (by decide) ?_
      refine X_isub dX9_act_13 ?_
      refine X_putI kF_X9_167 rfl rfl dX9_act_14 (fun S9 => ?_)
      refine X_aload_n 0 dX9_act_17 rfl rfl ?_
      refine X_getI kF_X9_167 rfl dX9_act_18 (fun x10 => ?_)
      refine X_if_ne (tgt := 31) dX9_act_21 (by decide) ?_ ?_
      · skip
        refine X_aload_n 0 dX9_act_24 rfl rfl ?_
        refine X_iconst (v := (1 : Int32)) dX9_act_25 (by decide) ?_
        refine X_putZ kF_X9_170 rfl rfl dX9_act_26 (fun S11 => ?_)
        refine X_iconst (v := (0 : Int32)) dX9_act_29 (by decide) ?_
        exact X_z0 rfl dX9_act_30
      · skip
        exact (hjb3 _)
set_option maxRecDepth 100000 in
theorem kC_X9_act : g_okC M_X9_act 0 := And.intro (g_t (i := 746) rfl (by decide +kernel)) (And.intro (g_nd nd_10_ok (k := 19) rfl) (And.intro (by decide) (And.intro (by decide) (by decide +kernel))))
def M_X9_acts : gM := (yX9_acts, cX9_acts, 3, some .int, 1, 20)
def l_X9_acts_2 (u0 : Nat) (u1 : Int32) : Nat → gS → Int32 → Option (Int32 × gS)
  | 0, _, _ => none
  | n + 1, S, u2 =>
    if u1 ≤ u2 then (
    some (u2, S))
    else (
    g_cVI S 9 u0 (f_X9_act S u0) fun x2 S1 =>
    if x2 = 0 then (
    some (u2, S1))
    else (
    l_X9_acts_2 u0 u1 n S1 (u2 + (1 : Int32)) ))
def f_X9_acts (S : gS) (a0 : Nat) (p1 : Int32) : Option (Int32 × gS) :=
l_X9_acts_2 a0 p1 100 S (0 : Int32) 
set_option maxRecDepth 100000 in
set_option maxHeartbeats 4000000 in
theorem j_X9_acts_2 (E : gE) {n0 s0 : Nat} (u0 : Nat) (u1 : Int32) : ∀ (n : Nat) (S : gS) (u2 : Int32), gJ gI E M_X9_acts n0 s0 2 [(0, .ref u0), (1, .int u1), (2, .int u2)] [] S (l_X9_acts_2 u0 u1 n S u2 ) := by
  intro n
  induction n with
  | zero =>
    intros
    rw [l_X9_acts_2]
    exact gJ.none
  | succ n ih =>
    intro S u2  
    rw [l_X9_acts_2]
    refine X_iload_n 2 dX9_acts_2 rfl rfl ?_
    refine X_iload_n 1 dX9_acts_3 rfl rfl ?_
    refine X_icmp_ge (tgt := 20) dX9_acts_4 (by decide) ?_ ?_
    · skip
      refine X_iload_n 2 dX9_acts_20 rfl rfl ?_
      exact X_iret rfl dX9_acts_21
    · skip
      refine X_aload_n 0 dX9_acts_7 rfl rfl ?_
      refine X_callVI (ci := 9) (As := []) (st := []) (c_X9_act E S u0) (by decide) rfl kC_X9_act kL_X9_180 kI_X9_act kE_X9_act (by unfold g_okR; decide) rfl (Nat.le_of_ble_eq_true rfl) dX9_acts_8 (fun x2 S1 => ?_)
      refine X_if_eq (tgt := 20) dX9_acts_11 (by decide) ?_ ?_
      · skip
        refine X_iload_n 2 dX9_acts_20 rfl rfl ?_
        exact X_iret rfl dX9_acts_21
      · skip
        refine X_iinc (k := 2) (x := u2) (v := (1 : Int32)) (lv2 := [(2, .int (u2 + (1 : Int32))), (0, .ref u0), (1, .int u1)]) dX9_acts_14 rfl (by decide) (by decide) rfl ?_
        refine X_goto (tgt := 2) dX9_acts_17 (by decide) ?_
        exact X_sub [1, 2, 0] rfl (ih _ _)
set_option maxRecDepth 100000 in
set_option maxHeartbeats 4000000 in
theorem c_X9_acts (E : gE) (S : gS) (a0 : Nat) (p1 : Int32) : gC gI E M_X9_acts [.ref a0, .int p1] S (f_X9_acts S a0 p1) := by
  refine gC.of (by decide) (Nat.le_of_ble_eq_true rfl) ?_
  unfold f_X9_acts
  show gJ gI E M_X9_acts _ _ 0 [(0, .ref a0), (1, .int p1)] [] S _
  refine X_iconst (v := (0 : Int32)) dX9_acts_0 (by decide) ?_
  refine X_istore_n (lv2 := [(2, .int (0 : Int32)), (0, .ref a0), (1, .int p1)]) dX9_acts_1 rfl (by decide) rfl ?_
  exact X_sub [1, 2, 0] rfl (j_X9_acts_2 E a0 p1 100 _ _)
set_option maxRecDepth 100000 in
theorem kC_X9_acts : g_okC M_X9_acts 1 := And.intro (g_t (i := 742) rfl (by decide +kernel)) (And.intro (g_nd nd_10_ok (k := 19) rfl) (And.intro (by decide) (And.intro (by decide) (by decide +kernel))))
def M_X9_isLagging : gM := (yX9_isLagging, cX9_isLagging, 2, some .boolean, 0, 0)
def f_X9_isLagging (S : gS) (a0 : Nat) (p1 : Int32) : Option (Int32 × gS) :=
g_getI S 9 15 a0 fun x1 =>
if x1 = 0 then (
g_getR S 9 7 a0 fun a2 =>
g_ldI S 10 a2 p1 fun x3 =>
if x3 ≤ 0 then (
some ((0 : Int32), S))
else (
some ((1 : Int32), S)))
else (
g_getR S 9 8 a0 fun a4 =>
g_ldI S 12 a4 p1 fun x5 =>
g_z x5 (some (x5, S)))
set_option maxRecDepth 100000 in
set_option maxHeartbeats 4000000 in
theorem c_X9_isLagging (E : gE) (S : gS) (a0 : Nat) (p1 : Int32) : gC gI E M_X9_isLagging [.ref a0, .int p1] S (f_X9_isLagging S a0 p1) := by
  refine gC.of (by decide) (Nat.le_of_ble_eq_true rfl) ?_
  unfold f_X9_isLagging
  show gJ gI E M_X9_isLagging _ _ 0 [(0, .ref a0), (1, .int p1)] [] S _
  refine X_aload_n 0 dX9_isLagging_0 rfl rfl ?_
  refine X_getI kF_X9_193 rfl dX9_isLagging_1 (fun x1 => ?_)
  refine X_if_eq (tgt := 16) dX9_isLagging_4 (by decide) ?_ ?_
  · skip
    refine X_aload_n 0 dX9_isLagging_16 rfl rfl ?_
    refine X_getR kF_X9_29 rfl dX9_isLagging_17 (fun a2 => ?_)
    refine X_iload_n 1 dX9_isLagging_20 rfl rfl ?_
    refine X_iald dX9_isLagging_21 (fun x3 => ?_)
    refine X_if_le (tgt := 29) dX9_isLagging_22 (by decide) ?_ ?_
    · skip
      refine X_iconst (v := (0 : Int32)) dX9_isLagging_29 (by decide) ?_
      exact X_z0 rfl dX9_isLagging_30
    · skip
      refine X_iconst (v := (1 : Int32)) dX9_isLagging_25 (by decide) ?_
      refine X_goto (tgt := 30) dX9_isLagging_26 (by decide) ?_
      exact X_z1 rfl dX9_isLagging_30
  · skip
    refine X_aload_n 0 dX9_isLagging_7 rfl rfl ?_
    refine X_getR kF_X9_32 rfl dX9_isLagging_8 (fun a4 => ?_)
    refine X_iload_n 1 dX9_isLagging_11 rfl rfl ?_
    refine X_zald dX9_isLagging_12 (fun x5 => ?_)
    refine X_goto (tgt := 30) dX9_isLagging_13 (by decide) ?_
    exact X_zret rfl dX9_isLagging_30
set_option maxRecDepth 100000 in
theorem kC_X9_isLagging : g_okC M_X9_isLagging 1 := And.intro (g_t (i := 877) rfl (by decide +kernel)) (And.intro (g_nd nd_10_ok (k := 19) rfl) (And.intro (by decide) (And.intro (by decide) (by decide +kernel))))
def M_X9_backfill : gM := (yX9_backfill, cX9_backfill, 4, some .int, 2, 42)
def l_X9_backfill_19 (u0 : Nat) : Nat → gS → Int32 → Int32 → (gS → Int32 → Int32 → Option (Int32 × gS)) → Option (Int32 × gS)
  | 0, _, _, _, _ => none
  | n + 1, S, u1, u2, K1 =>
    g_getI S 9 6 u0 fun x3 =>
    if x3 ≤ u2 then (
    K1 S u1 u2)
    else (
    if (4 : Int32) ≤ u1 then (
    K1 S u1 u2)
    else (
    g_cVI S 9 u0 (f_X9_isLagging S u0 u2) fun x5 S4 =>
    g_jn (fun (S6 : gS) (v7 : Int32) => (
    l_X9_backfill_19 u0 n S6 v7 (u2 + (1 : Int32)) K1)) fun jb8 => (
    if x5 = 0 then (
    jb8 S4 u1)
    else (
    g_getI S4 9 15 u0 fun x9 =>
    g_jn (fun (S10 : gS) (w11 : Int32) => (
    g_cVI S10 9 u0 (f_X9_acts S10 u0 w11) fun x14 S13 =>
    if w11 ≤ x14 then (
    g_getR S13 9 8 u0 fun a15 =>
    g_stZ S13 a15 u2 (0 : Int32) fun S16 =>
    g_getR S16 9 7 u0 fun a17 =>
    g_stI S16 a17 u2 (0 : Int32) fun S18 =>
    jb8 S18 (u1 + (1 : Int32)))
    else (
    some ((-9 : Int32), S13)))) fun jb12 => (
    g_jn (fun (S19 : gS) => (
    jb12 S19 (1 : Int32))) fun jb20 => (
    if x9 = 0 then (
    g_getR S4 9 7 u0 fun a21 =>
    g_ldI S4 10 a21 u2 fun x22 =>
    if x22 = (2 : Int32) then (
    jb12 S4 (2 : Int32))
    else (
    jb20 S4))
    else (
    jb20 S4)))))))
def f_X9_backfill (S : gS) (a0 : Nat) : Option (Int32 × gS) :=
g_putI S 9 30 a0 (0 : Int32) fun S1 =>
g_getI S1 9 32 a0 fun x2 =>
if x2 = 0 then (
l_X9_backfill_19 a0 100 S1 (0 : Int32) (0 : Int32) (fun S23 v24 v25 => (
if v24 ≤ 0 then (
some (v24, S23))
else (
g_cVI S23 9 a0 (f_X9_act S23 a0) fun x27 S26 =>
if x27 = 0 then (
some ((-9 : Int32), S26))
else (
some (v24, S26))))))
else (
some ((-8 : Int32), S1))
set_option maxRecDepth 100000 in
set_option maxHeartbeats 4000000 in
theorem j_X9_backfill_19 (E : gE) {n0 s0 : Nat} (u0 : Nat) : ∀ (n : Nat) (S : gS) (u1 : Int32) (u2 : Int32) (K1 : (gS → Int32 → Int32 → Option (Int32 × gS))), (∀ (S : gS) (u1 : Int32) (u2 : Int32), gJ gI E M_X9_backfill n0 s0 101 [(0, .ref u0), (1, .int u1), (2, .int u2)] [] S (K1 S u1 u2)) → gJ gI E M_X9_backfill n0 s0 19 [(0, .ref u0), (1, .int u1), (2, .int u2)] [] S (l_X9_backfill_19 u0 n S u1 u2 K1) := by
  intro n
  induction n with
  | zero =>
    intros
    rw [l_X9_backfill_19]
    exact gJ.none
  | succ n ih =>
    intro S u1 u2 K1 hK1
    rw [l_X9_backfill_19]
    refine X_iload_n 2 dX9_backfill_19 rfl rfl ?_
    refine X_aload_n 0 dX9_backfill_20 rfl rfl ?_
    refine X_getI kF_X9_187 rfl dX9_backfill_21 (fun x3 => ?_)
    refine X_icmp_ge (tgt := 101) dX9_backfill_24 (by decide) ?_ ?_
    · skip
      exact (hK1 _ _ _)
    · skip
      refine X_iload_n 1 dX9_backfill_27 rfl rfl ?_
      refine X_iconst (v := (4 : Int32)) dX9_backfill_28 (by decide) ?_
      refine X_icmp_ge (tgt := 101) dX9_backfill_29 (by decide) ?_ ?_
      · skip
        exact (hK1 _ _ _)
      · skip
        refine X_aload_n 0 dX9_backfill_32 rfl rfl ?_
        refine X_iload_n 2 dX9_backfill_33 rfl rfl ?_
        refine X_callVI (ci := 9) (As := [.int u2]) (st := []) (c_X9_isLagging E S u0 u2) (by decide) rfl kC_X9_isLagging kL_X9_234 kI_X9_isLagging kE_X9_isLagging (by unfold g_okR; decide) rfl (Nat.le_of_ble_eq_true rfl) dX9_backfill_34 (fun x5 S4 => ?_)
        refine X_jn (fun (j : gS → Int32 → Option (Int32 × gS)) => ∀ (S6 : gS) (v7 : Int32), gJ gI E M_X9_backfill n0 s0 95 [(0, .ref u0), (1, .int v7), (2, .int u2)] [] S6 (j S6 v7)) ?_ (fun jb8 hjb8 => ?_)
        · intro S6 v7
          refine X_iinc (k := 2) (x := u2) (v := (1 : Int32)) (lv2 := [(2, .int (u2 + (1 : Int32))), (0, .ref u0), (1, .int v7)]) dX9_backfill_95 rfl (by decide) (by decide) rfl ?_
          refine X_goto (tgt := 19) dX9_backfill_98 (by decide) ?_
          exact X_sub [1, 2, 0] rfl (ih _ _ _ _ hK1)
        · skip
          refine X_if_ne (tgt := 43) dX9_backfill_37 (by decide) ?_ ?_
          · skip
            refine X_goto (tgt := 95) dX9_backfill_40 (by decide) ?_
            exact (hjb8 _ _)
          · skip
            refine X_aload_n 0 dX9_backfill_43 rfl rfl ?_
            refine X_getI kF_X9_193 rfl dX9_backfill_44 (fun x9 => ?_)
            refine X_jn (fun (j : gS → Int32 → Option (Int32 × gS)) => ∀ (S10 : gS) (w11 : Int32), gJ gI E M_X9_backfill n0 s0 65 [(0, .ref u0), (1, .int u1), (2, .int u2)] [.int w11] S10 (j S10 w11)) ?_ (fun jb12 hjb12 => ?_)
            · intro S10 w11
              refine X_istore_n (lv2 := [(3, .int w11), (0, .ref u0), (1, .int u1), (2, .int u2)]) dX9_backfill_65 rfl (by decide) rfl ?_
              refine X_aload_n 1 dX9_backfill_66 rfl rfl ?_
              refine X_iload_n 0 dX9_backfill_67 rfl rfl ?_
              refine X_callVI (ci := 9) (As := [.int w11]) (st := []) (c_X9_acts E S10 u0 w11) (by decide) rfl kC_X9_acts kL_X9_199 kI_X9_acts kE_X9_acts (by unfold g_okR; decide) rfl (Nat.le_of_ble_eq_true rfl) dX9_backfill_68 (fun x14 S13 => ?_)
              refine X_iload_n 0 dX9_backfill_71 rfl rfl ?_
              refine X_icmp_ge (tgt := 78) dX9_backfill_72 (by decide) ?_ ?_
              · skip
                refine X_aload_n 1 dX9_backfill_78 rfl rfl ?_
                refine X_getR kF_X9_32 rfl dX9_backfill_79 (fun a15 => ?_)
                refine X_iload_n 3 dX9_backfill_82 rfl rfl ?_
                refine X_iconst (v := (0 : Int32)) dX9_backfill_83 (by decide) ?_
                refine X_zast dX9_backfill_84 (fun S16 => ?_)
                refine X_aload_n 1 dX9_backfill_85 rfl rfl ?_
                refine X_getR kF_X9_29 rfl dX9_backfill_86 (fun a17 => ?_)
                refine X_iload_n 3 dX9_backfill_89 rfl rfl ?_
                refine X_iconst (v := (0 : Int32)) dX9_backfill_90 (by decide) ?_
                refine X_iast dX9_backfill_91 (fun S18 => ?_)
                refine X_iinc (k := 2) (x := u1) (v := (1 : Int32)) (lv2 := [(1, .int (u1 + (1 : Int32))), (3, .int w11), (0, .ref u0), (2, .int u2)]) dX9_backfill_92 rfl (by decide) (by decide) rfl ?_
                exact X_sub [2, 0, 3] rfl (hjb8 _ _)
              · skip
                refine X_bipush (v := (-9 : Int32)) dX9_backfill_75 (by decide) ?_
                exact X_iret rfl dX9_backfill_77
            · skip
              refine X_jn (fun (j : gS → Option (Int32 × gS)) => ∀ (S19 : gS), gJ gI E M_X9_backfill n0 s0 64 [(0, .ref u0), (1, .int u1), (2, .int u2)] [] S19 (j S19)) ?_ (fun jb20 hjb20 => ?_)
              · intro S19
                refine X_iconst (v := (1 : Int32)) dX9_backfill_64 (by decide) ?_
                exact (hjb12 _ _)
              · skip
                refine X_if_ne (tgt := 64) dX9_backfill_47 (by decide) ?_ ?_
                · skip
                  refine X_aload_n 0 dX9_backfill_50 rfl rfl ?_
                  refine X_getR kF_X9_29 rfl dX9_backfill_51 (fun a21 => ?_)
                  refine X_iload_n 2 dX9_backfill_54 rfl rfl ?_
                  refine X_iald dX9_backfill_55 (fun x22 => ?_)
                  refine X_iconst (v := (2 : Int32)) dX9_backfill_56 (by decide) ?_
                  refine X_icmp_ne (tgt := 64) dX9_backfill_57 (by decide) ?_ ?_
                  · skip
                    refine X_iconst (v := (2 : Int32)) dX9_backfill_60 (by decide) ?_
                    refine X_goto (tgt := 65) dX9_backfill_61 (by decide) ?_
                    exact (hjb12 _ _)
                  · skip
                    exact (hjb20 _)
                · skip
                  exact (hjb20 _)
set_option maxRecDepth 100000 in
set_option maxHeartbeats 4000000 in
theorem c_X9_backfill (E : gE) (S : gS) (a0 : Nat) : gC gI E M_X9_backfill [.ref a0] S (f_X9_backfill S a0) := by
  refine gC.of (by decide) (Nat.le_of_ble_eq_true rfl) ?_
  unfold f_X9_backfill
  show gJ gI E M_X9_backfill _ _ 0 [(0, .ref a0)] [] S _
  refine X_aload_n 0 dX9_backfill_0 rfl rfl ?_
  refine X_iconst (v := (0 : Int32)) dX9_backfill_1 (by decide) ?_
  refine X_putI kF_X9_177 rfl rfl dX9_backfill_2 (fun S1 => ?_)
  refine X_aload_n 0 dX9_backfill_5 rfl rfl ?_
  refine X_getI kF_X9_170 rfl dX9_backfill_6 (fun x2 => ?_)
  refine X_if_eq (tgt := 15) dX9_backfill_9 (by decide) ?_ ?_
  · skip
    refine X_iconst (v := (0 : Int32)) dX9_backfill_15 (by decide) ?_
    refine X_istore_n (lv2 := [(1, .int (0 : Int32)), (0, .ref a0)]) dX9_backfill_16 rfl (by decide) rfl ?_
    refine X_iconst (v := (0 : Int32)) dX9_backfill_17 (by decide) ?_
    refine X_istore_n (lv2 := [(2, .int (0 : Int32)), (1, .int (0 : Int32)), (0, .ref a0)]) dX9_backfill_18 rfl (by decide) rfl ?_
    refine X_sub [2, 1, 0] rfl (j_X9_backfill_19 E a0 100 _ _ _ _ (fun S23 v24 v25 => ?_))
    refine X_iload_n 1 dX9_backfill_101 rfl rfl ?_
    refine X_if_le (tgt := 115) dX9_backfill_102 (by decide) ?_ ?_
    · skip
      refine X_iload_n 1 dX9_backfill_115 rfl rfl ?_
      exact X_iret rfl dX9_backfill_116
    · skip
      refine X_aload_n 0 dX9_backfill_105 rfl rfl ?_
      refine X_callVI (ci := 9) (As := []) (st := []) (c_X9_act E S23 a0) (by decide) rfl kC_X9_act kL_X9_180 kI_X9_act kE_X9_act (by unfold g_okR; decide) rfl (Nat.le_of_ble_eq_true rfl) dX9_backfill_106 (fun x27 S26 => ?_)
      refine X_if_ne (tgt := 115) dX9_backfill_109 (by decide) ?_ ?_
      · skip
        refine X_bipush (v := (-9 : Int32)) dX9_backfill_112 (by decide) ?_
        exact X_iret rfl dX9_backfill_114
      · skip
        refine X_iload_n 1 dX9_backfill_115 rfl rfl ?_
        exact X_iret rfl dX9_backfill_116
  · skip
    refine X_bipush (v := (-8 : Int32)) dX9_backfill_12 (by decide) ?_
    exact X_iret rfl dX9_backfill_14
set_option maxRecDepth 100000 in
theorem kC_X9_backfill : g_okC M_X9_backfill 0 := And.intro (g_t (i := 873) rfl (by decide +kernel)) (And.intro (g_nd nd_10_ok (k := 19) rfl) (And.intro (by decide) (And.intro (by decide) (by decide +kernel))))
def M_X9_copySchema : gM := (yX9_copySchema, cX9_copySchema, 4, none, 0, 0)
def l_X9_copySchema_2 (u0 : Nat) (u1 : Int32) (u2 : Int32) : Nat → gS → Int32 → (gS → Int32 → Option (gS)) → Option (gS)
  | 0, _, _, _ => none
  | n + 1, S, u3, K1 =>
    if (8 : Int32) ≤ u3 then (
    K1 S u3)
    else (
    g_getR S 9 11 u0 fun a1 =>
    g_getR S 9 11 u0 fun a2 =>
    g_ldI S 10 a2 (((8 : Int32) * u1) + u3) fun x3 =>
    g_stI S a1 (((8 : Int32) * u2) + u3) x3 fun S4 =>
    g_getR S4 9 12 u0 fun a5 =>
    g_getR S4 9 12 u0 fun a6 =>
    g_ldI S4 10 a6 (((8 : Int32) * u1) + u3) fun x7 =>
    g_stI S4 a5 (((8 : Int32) * u2) + u3) x7 fun S8 =>
    l_X9_copySchema_2 u0 u1 u2 n S8 (u3 + (1 : Int32)) K1)
def f_X9_copySchema (S : gS) (a0 : Nat) (p1 : Int32) (p2 : Int32) : Option (gS) :=
l_X9_copySchema_2 a0 p1 p2 100 S (0 : Int32) (fun S9 v10 => (
g_getR S9 9 13 a0 fun a11 =>
g_getR S9 9 13 a0 fun a12 =>
g_ldI S9 10 a12 p1 fun x13 =>
g_stI S9 a11 p2 x13 fun S14 =>
some S14))
set_option maxRecDepth 100000 in
set_option maxHeartbeats 4000000 in
theorem j_X9_copySchema_2 (E : gE) {n0 s0 : Nat} (u0 : Nat) (u1 : Int32) (u2 : Int32) : ∀ (n : Nat) (S : gS) (u3 : Int32) (K1 : (gS → Int32 → Option (gS))), (∀ (S : gS) (u3 : Int32), gJ gV E M_X9_copySchema n0 s0 58 [(0, .ref u0), (1, .int u1), (2, .int u2), (3, .int u3)] [] S (K1 S u3)) → gJ gV E M_X9_copySchema n0 s0 2 [(0, .ref u0), (1, .int u1), (2, .int u2), (3, .int u3)] [] S (l_X9_copySchema_2 u0 u1 u2 n S u3 K1) := by
  intro n
  induction n with
  | zero =>
    intros
    rw [l_X9_copySchema_2]
    exact gJ.none
  | succ n ih =>
    intro S u3 K1 hK1
    rw [l_X9_copySchema_2]
    refine X_iload_n 3 dX9_copySchema_2 rfl rfl ?_
    refine X_bipush (v := (8 : Int32)) dX9_copySchema_3 (by decide) ?_
    refine X_icmp_ge (tgt := 58) dX9_copySchema_5 (by decide) ?_ ?_
    · skip
      exact (hK1 _ _)
    · skip
      refine X_aload_n 0 dX9_copySchema_8 rfl rfl ?_
      refine X_getR kF_X9_42 rfl dX9_copySchema_9 (fun a1 => ?_)
      refine X_bipush (v := (8 : Int32)) dX9_copySchema_12 (by decide) ?_
      refine X_iload_n 2 dX9_copySchema_14 rfl rfl ?_
      refine X_imul dX9_copySchema_15 ?_
      refine X_iload_n 3 dX9_copySchema_16 rfl rfl ?_
      refine X_iadd dX9_copySchema_17 ?_
      refine X_aload_n 0 dX9_copySchema_18 rfl rfl ?_
      refine X_getR kF_X9_42 rfl dX9_copySchema_19 (fun a2 => ?_)
      refine X_bipush (v := (8 : Int32)) dX9_copySchema_22 (by decide) ?_
      refine X_iload_n 1 dX9_copySchema_24 rfl rfl ?_
      refine X_imul dX9_copySchema_25 ?_
      refine X_iload_n 3 dX9_copySchema_26 rfl rfl ?_
      refine X_iadd dX9_copySchema_27 ?_
      refine X_iald dX9_copySchema_28 (fun x3 => ?_)
      refine X_iast dX9_copySchema_29 (fun S4 => ?_)
      refine X_aload_n 0 dX9_copySchema_30 rfl rfl ?_
      refine X_getR kF_X9_45 rfl dX9_copySchema_31 (fun a5 => ?_)
      refine X_bipush (v := (8 : Int32)) dX9_copySchema_34 (by decide) ?_
      refine X_iload_n 2 dX9_copySchema_36 rfl rfl ?_
      refine X_imul dX9_copySchema_37 ?_
      refine X_iload_n 3 dX9_copySchema_38 rfl rfl ?_
      refine X_iadd dX9_copySchema_39 ?_
      refine X_aload_n 0 dX9_copySchema_40 rfl rfl ?_
      refine X_getR kF_X9_45 rfl dX9_copySchema_41 (fun a6 => ?_)
      refine X_bipush (v := (8 : Int32)) dX9_copySchema_44 (by decide) ?_
      refine X_iload_n 1 dX9_copySchema_46 rfl rfl ?_
      refine X_imul dX9_copySchema_47 ?_
      refine X_iload_n 3 dX9_copySchema_48 rfl rfl ?_
      refine X_iadd dX9_copySchema_49 ?_
      refine X_iald dX9_copySchema_50 (fun x7 => ?_)
      refine X_iast dX9_copySchema_51 (fun S8 => ?_)
      refine X_iinc (k := 3) (x := u3) (v := (1 : Int32)) (lv2 := [(3, .int (u3 + (1 : Int32))), (0, .ref u0), (1, .int u1), (2, .int u2)]) dX9_copySchema_52 rfl (by decide) (by decide) rfl ?_
      refine X_goto (tgt := 2) dX9_copySchema_55 (by decide) ?_
      exact X_sub [1, 2, 3, 0] rfl (ih _ _ _ hK1)
set_option maxRecDepth 100000 in
set_option maxHeartbeats 4000000 in
theorem c_X9_copySchema (E : gE) (S : gS) (a0 : Nat) (p1 : Int32) (p2 : Int32) : gC gV E M_X9_copySchema [.ref a0, .int p1, .int p2] S (f_X9_copySchema S a0 p1 p2) := by
  refine gC.of (by decide) (Nat.le_of_ble_eq_true rfl) ?_
  unfold f_X9_copySchema
  show gJ gV E M_X9_copySchema _ _ 0 [(0, .ref a0), (1, .int p1), (2, .int p2)] [] S _
  refine X_iconst (v := (0 : Int32)) dX9_copySchema_0 (by decide) ?_
  refine X_istore_n (lv2 := [(3, .int (0 : Int32)), (0, .ref a0), (1, .int p1), (2, .int p2)]) dX9_copySchema_1 rfl (by decide) rfl ?_
  refine X_sub [1, 2, 3, 0] rfl (j_X9_copySchema_2 E a0 p1 p2 100 _ _ _ (fun S9 v10 => ?_))
  refine X_aload_n 0 dX9_copySchema_58 rfl rfl ?_
  refine X_getR kF_X9_48 rfl dX9_copySchema_59 (fun a11 => ?_)
  refine X_iload_n 2 dX9_copySchema_62 rfl rfl ?_
  refine X_aload_n 0 dX9_copySchema_63 rfl rfl ?_
  refine X_getR kF_X9_48 rfl dX9_copySchema_64 (fun a12 => ?_)
  refine X_iload_n 1 dX9_copySchema_67 rfl rfl ?_
  refine X_iald dX9_copySchema_68 (fun x13 => ?_)
  refine X_iast dX9_copySchema_69 (fun S14 => ?_)
  exact X_vret rfl dX9_copySchema_70
set_option maxRecDepth 100000 in
theorem kC_X9_copySchema : g_okC M_X9_copySchema 2 := And.intro (g_t (i := 774) rfl (by decide +kernel)) (And.intro (g_nd nd_10_ok (k := 19) rfl) (And.intro (by decide) (And.intro (by decide) (by decide +kernel))))
def M_X9_form : gM := (yX9_form, cX9_form, 3, some .int, 0, 0)
def f_X9_form (S : gS) (a0 : Nat) (p1 : Int32) (p2 : Int32) : Option (Int32 × gS) :=
g_getR S 9 5 a0 fun a1 =>
g_ldI S 10 a1 p1 fun x2 =>
some ((((16 : Int32) * x2) + ((8 : Int32) * p2)), S)
set_option maxRecDepth 100000 in
set_option maxHeartbeats 4000000 in
theorem c_X9_form (E : gE) (S : gS) (a0 : Nat) (p1 : Int32) (p2 : Int32) : gC gI E M_X9_form [.ref a0, .int p1, .int p2] S (f_X9_form S a0 p1 p2) := by
  refine gC.of (by decide) (Nat.le_of_ble_eq_true rfl) ?_
  unfold f_X9_form
  show gJ gI E M_X9_form _ _ 0 [(0, .ref a0), (1, .int p1), (2, .int p2)] [] S _
  refine X_bipush (v := (16 : Int32)) dX9_form_0 (by decide) ?_
  refine X_aload_n 0 dX9_form_2 rfl rfl ?_
  refine X_getR kF_X9_26 rfl dX9_form_3 (fun a1 => ?_)
  refine X_iload_n 1 dX9_form_6 rfl rfl ?_
  refine X_iald dX9_form_7 (fun x2 => ?_)
  refine X_imul dX9_form_8 ?_
  refine X_bipush (v := (8 : Int32)) dX9_form_9 (by decide) ?_
  refine X_iload_n 2 dX9_form_11 rfl rfl ?_
  refine X_imul dX9_form_12 ?_
  refine X_iadd dX9_form_13 ?_
  exact X_iret rfl dX9_form_14
set_option maxRecDepth 100000 in
theorem kC_X9_form : g_okC M_X9_form 2 := And.intro (g_t (i := 758) rfl (by decide +kernel)) (And.intro (g_nd nd_10_ok (k := 19) rfl) (And.intro (by decide) (And.intro (by decide) (by decide +kernel))))
def M_X9_canBecome : gM := (yX9_canBecome, cX9_canBecome, 2, some .boolean, 0, 0)
def f_X9_canBecome (S : gS) (p0 : Int32) (p1 : Int32) : Option (Int32 × gS) :=
if p0 = p1 then (
some ((0 : Int32), S))
else (
if p0 = (4 : Int32) then (
g_jn (fun (S1 : gS) => (
some ((1 : Int32), S1))) fun jb2 => (
if p1 = (2 : Int32) then (
jb2 S)
else (
if p1 = (3 : Int32) then (
jb2 S)
else (
some ((0 : Int32), S)))))
else (
g_jn (fun (S3 : gS) => (
some ((1 : Int32), S3))) fun jb4 => (
if p1 = (4 : Int32) then (
if p0 = (2 : Int32) then (
jb4 S)
else (
if p0 = (3 : Int32) then (
jb4 S)
else (
some ((0 : Int32), S))))
else (
jb4 S))))
set_option maxRecDepth 100000 in
set_option maxHeartbeats 4000000 in
theorem c_X9_canBecome (E : gE) (S : gS) (p0 : Int32) (p1 : Int32) : gC gI E M_X9_canBecome [.int p0, .int p1] S (f_X9_canBecome S p0 p1) := by
  refine gC.of (by decide) (Nat.le_of_ble_eq_true rfl) ?_
  unfold f_X9_canBecome
  show gJ gI E M_X9_canBecome _ _ 0 [(0, .int p0), (1, .int p1)] [] S _
  refine X_iload_n 0 dX9_canBecome_0 rfl rfl ?_
  refine X_iload_n 1 dX9_canBecome_1 rfl rfl ?_
  refine X_icmp_ne (tgt := 7) dX9_canBecome_2 (by decide) ?_ ?_
  · skip
    refine X_iconst (v := (0 : Int32)) dX9_canBecome_5 (by decide) ?_
    exact X_z0 rfl dX9_canBecome_6
  · skip
    refine X_iload_n 0 dX9_canBecome_7 rfl rfl ?_
    refine X_iconst (v := (4 : Int32)) dX9_canBecome_8 (by decide) ?_
    refine X_icmp_ne (tgt := 28) dX9_canBecome_9 (by decide) ?_ ?_
    · skip
      refine X_iload_n 1 dX9_canBecome_12 rfl rfl ?_
      refine X_iconst (v := (2 : Int32)) dX9_canBecome_13 (by decide) ?_
      refine X_jn (fun (j : gS → Option (Int32 × gS)) => ∀ (S1 : gS), gJ gI E M_X9_canBecome (gn S) (gsl S) 22 [(0, .int p0), (1, .int p1)] [] S1 (j S1)) ?_ (fun jb2 hjb2 => ?_)
      · intro S1
        refine X_iconst (v := (1 : Int32)) dX9_canBecome_22 (by decide) ?_
        refine X_goto (tgt := 27) dX9_canBecome_23 (by decide) ?_
        exact X_z1 rfl dX9_canBecome_27
      · skip
        refine X_icmp_eq (tgt := 22) dX9_canBecome_14 (by decide) ?_ ?_
        · skip
          exact (hjb2 _)
        · skip
          refine X_iload_n 1 dX9_canBecome_17 rfl rfl ?_
          refine X_iconst (v := (3 : Int32)) dX9_canBecome_18 (by decide) ?_
          refine X_icmp_ne (tgt := 26) dX9_canBecome_19 (by decide) ?_ ?_
          · skip
            exact (hjb2 _)
          · skip
            refine X_iconst (v := (0 : Int32)) dX9_canBecome_26 (by decide) ?_
            exact X_z0 rfl dX9_canBecome_27
    · skip
      refine X_iload_n 1 dX9_canBecome_28 rfl rfl ?_
      refine X_iconst (v := (4 : Int32)) dX9_canBecome_29 (by decide) ?_
      refine X_jn (fun (j : gS → Option (Int32 × gS)) => ∀ (S3 : gS), gJ gI E M_X9_canBecome (gn S) (gsl S) 43 [(0, .int p0), (1, .int p1)] [] S3 (j S3)) ?_ (fun jb4 hjb4 => ?_)
      · intro S3
        refine X_iconst (v := (1 : Int32)) dX9_canBecome_43 (by decide) ?_
        refine X_goto (tgt := 48) dX9_canBecome_44 (by decide) ?_
        exact X_z1 rfl dX9_canBecome_48
      · skip
        refine X_icmp_ne (tgt := 43) dX9_canBecome_30 (by decide) ?_ ?_
        · skip
          refine X_iload_n 0 dX9_canBecome_33 rfl rfl ?_
          refine X_iconst (v := (2 : Int32)) dX9_canBecome_34 (by decide) ?_
          refine X_icmp_eq (tgt := 43) dX9_canBecome_35 (by decide) ?_ ?_
          · skip
            exact (hjb4 _)
          · skip
            refine X_iload_n 0 dX9_canBecome_38 rfl rfl ?_
            refine X_iconst (v := (3 : Int32)) dX9_canBecome_39 (by decide) ?_
            refine X_icmp_ne (tgt := 47) dX9_canBecome_40 (by decide) ?_ ?_
            · skip
              exact (hjb4 _)
            · skip
              refine X_iconst (v := (0 : Int32)) dX9_canBecome_47 (by decide) ?_
              exact X_z0 rfl dX9_canBecome_48
        · skip
          exact (hjb4 _)
set_option maxRecDepth 100000 in
theorem kC_X9_canBecome : g_okC M_X9_canBecome 2 := And.intro (g_t (i := 861) rfl (by decide +kernel)) (And.intro (g_nd nd_10_ok (k := 19) rfl) (And.intro (by decide) (And.intro (by decide) (by decide +kernel))))
def M_X9_place : gM := (yX9_place, cX9_place, 4, some .int, 0, 0)
def l_X9_place_4 (u0 : Nat) (u1 : Int32) : Nat → gS → Int32 → Int32 → Option (Int32 × gS)
  | 0, _, _, _ => none
  | n + 1, S, u2, u3 =>
    g_getR S 9 13 u0 fun a1 =>
    g_ldI S 10 a1 (2 : Int32) fun x2 =>
    if x2 ≤ u3 then (
    some (u2, S))
    else (
    g_getR S 9 11 u0 fun a3 =>
    g_ldI S 10 a3 ((16 : Int32) + u3) fun x4 =>
    g_jn (fun (S5 : gS) (w6 : Int32) => (
    l_X9_place_4 u0 u1 n S5 w6 (u3 + (1 : Int32)) )) fun jb7 => (
    if x4 = u1 then (
    jb7 S u3)
    else (
    jb7 S u2)))
def f_X9_place (S : gS) (a0 : Nat) (p1 : Int32) : Option (Int32 × gS) :=
l_X9_place_4 a0 p1 100 S (-1 : Int32) (0 : Int32) 
set_option maxRecDepth 100000 in
set_option maxHeartbeats 4000000 in
theorem j_X9_place_4 (E : gE) {n0 s0 : Nat} (u0 : Nat) (u1 : Int32) : ∀ (n : Nat) (S : gS) (u2 : Int32) (u3 : Int32), gJ gI E M_X9_place n0 s0 4 [(0, .ref u0), (1, .int u1), (2, .int u2), (3, .int u3)] [] S (l_X9_place_4 u0 u1 n S u2 u3 ) := by
  intro n
  induction n with
  | zero =>
    intros
    rw [l_X9_place_4]
    exact gJ.none
  | succ n ih =>
    intro S u2 u3  
    rw [l_X9_place_4]
    refine X_iload_n 3 dX9_place_4 rfl rfl ?_
    refine X_aload_n 0 dX9_place_5 rfl rfl ?_
    refine X_getR kF_X9_48 rfl dX9_place_6 (fun a1 => ?_)
    refine X_iconst (v := (2 : Int32)) dX9_place_9 (by decide) ?_
    refine X_iald dX9_place_10 (fun x2 => ?_)
    refine X_icmp_ge (tgt := 39) dX9_place_11 (by decide) ?_ ?_
    · skip
      refine X_iload_n 2 dX9_place_39 rfl rfl ?_
      exact X_iret rfl dX9_place_40
    · skip
      refine X_aload_n 0 dX9_place_14 rfl rfl ?_
      refine X_getR kF_X9_42 rfl dX9_place_15 (fun a3 => ?_)
      refine X_bipush (v := (16 : Int32)) dX9_place_18 (by decide) ?_
      refine X_iload_n 3 dX9_place_20 rfl rfl ?_
      refine X_iadd dX9_place_21 ?_
      refine X_iald dX9_place_22 (fun x4 => ?_)
      refine X_iload_n 1 dX9_place_23 rfl rfl ?_
      refine X_jn (fun (j : gS → Int32 → Option (Int32 × gS)) => ∀ (S5 : gS) (w6 : Int32), gJ gI E M_X9_place n0 s0 32 [(0, .ref u0), (1, .int u1), (2, .int u2), (3, .int u3)] [.int w6] S5 (j S5 w6)) ?_ (fun jb7 hjb7 => ?_)
      · intro S5 w6
        refine X_istore_n (lv2 := [(2, .int w6), (0, .ref u0), (1, .int u1), (3, .int u3)]) dX9_place_32 rfl (by decide) rfl ?_
        refine X_iinc (k := 3) (x := u3) (v := (1 : Int32)) (lv2 := [(3, .int (u3 + (1 : Int32))), (2, .int w6), (0, .ref u0), (1, .int u1)]) dX9_place_33 rfl (by decide) (by decide) rfl ?_
        refine X_goto (tgt := 4) dX9_place_36 (by decide) ?_
        exact X_sub [2, 3, 1, 0] rfl (ih _ _ _)
      · skip
        refine X_icmp_ne (tgt := 31) dX9_place_24 (by decide) ?_ ?_
        · skip
          refine X_iload_n 3 dX9_place_27 rfl rfl ?_
          refine X_goto (tgt := 32) dX9_place_28 (by decide) ?_
          exact (hjb7 _ _)
        · skip
          refine X_iload_n 2 dX9_place_31 rfl rfl ?_
          exact (hjb7 _ _)
set_option maxRecDepth 100000 in
set_option maxHeartbeats 4000000 in
theorem c_X9_place (E : gE) (S : gS) (a0 : Nat) (p1 : Int32) : gC gI E M_X9_place [.ref a0, .int p1] S (f_X9_place S a0 p1) := by
  refine gC.of (by decide) (Nat.le_of_ble_eq_true rfl) ?_
  unfold f_X9_place
  show gJ gI E M_X9_place _ _ 0 [(0, .ref a0), (1, .int p1)] [] S _
  refine X_iconst (v := (-1 : Int32)) dX9_place_0 (by decide) ?_
  refine X_istore_n (lv2 := [(2, .int (-1 : Int32)), (0, .ref a0), (1, .int p1)]) dX9_place_1 rfl (by decide) rfl ?_
  refine X_iconst (v := (0 : Int32)) dX9_place_2 (by decide) ?_
  refine X_istore_n (lv2 := [(3, .int (0 : Int32)), (2, .int (-1 : Int32)), (0, .ref a0), (1, .int p1)]) dX9_place_3 rfl (by decide) rfl ?_
  exact X_sub [2, 3, 1, 0] rfl (j_X9_place_4 E a0 p1 100 _ _ _)
set_option maxRecDepth 100000 in
theorem kC_X9_place : g_okC M_X9_place 1 := And.intro (g_t (i := 778) rfl (by decide +kernel)) (And.intro (g_nd nd_10_ok (k := 19) rfl) (And.intro (by decide) (And.intro (by decide) (by decide +kernel))))
def M_X9_isWrong : gM := (yX9_isWrong, cX9_isWrong, 3, some .boolean, 1, 23)
def f_X9_isWrong (S : gS) (a0 : Nat) (p1 : Int32) : Option (Int32 × gS) :=
g_getR S 9 17 a0 fun a1 =>
g_ldI S 10 a1 p1 fun x2 =>
g_cVI S 9 a0 (f_X9_place S a0 x2) fun x4 S3 =>
g_getR S3 9 16 a0 fun a5 =>
g_ldI S3 10 a5 p1 fun x6 =>
if x6 = (0 : Int32) then (
g_jn (fun (S8 : gS) => (
some ((1 : Int32), S8))) fun jb9 => (
if 0 ≤ x4 then (
jb9 S3)
else (
g_getR S3 9 13 a0 fun a10 =>
g_ldI S3 10 a10 (2 : Int32) fun x11 =>
if x11 = (8 : Int32) then (
jb9 S3)
else (
some ((0 : Int32), S3)))))
else (
if x6 = (1 : Int32) then (
if 0 ≤ x4 then (
some ((0 : Int32), S3))
else (
some ((1 : Int32), S3)))
else (
if x6 = (2 : Int32) then (
g_jn (fun (S14 : gS) => (
some ((1 : Int32), S14))) fun jb15 => (
if x4 < 0 then (
jb15 S3)
else (
g_getR S3 9 18 a0 fun a16 =>
g_ldI S3 10 a16 p1 fun x17 =>
g_cVI S3 9 a0 (f_X9_place S3 a0 x17) fun x19 S18 =>
if x19 < 0 then (
some ((0 : Int32), S18))
else (
jb15 S18))))
else (
g_jn (fun (S20 : gS) => (
some ((1 : Int32), S20))) fun jb21 => (
if x4 < 0 then (
jb21 S3)
else (
g_getR S3 9 12 a0 fun a22 =>
g_ldI S3 10 a22 ((16 : Int32) + x4) fun x23 =>
g_getR S3 9 18 a0 fun a24 =>
g_ldI S3 10 a24 p1 fun x25 =>
g_cI (f_X9_canBecome S3 x23 x25) fun x27 S26 =>
if x27 = 0 then (
jb21 S26)
else (
some ((0 : Int32), S26)))))))
set_option maxRecDepth 100000 in
set_option maxHeartbeats 4000000 in
theorem c_X9_isWrong (E : gE) (S : gS) (a0 : Nat) (p1 : Int32) : gC gI E M_X9_isWrong [.ref a0, .int p1] S (f_X9_isWrong S a0 p1) := by
  refine gC.of (by decide) (Nat.le_of_ble_eq_true rfl) ?_
  unfold f_X9_isWrong
  show gJ gI E M_X9_isWrong _ _ 0 [(0, .ref a0), (1, .int p1)] [] S _
  refine X_aload_n 0 dX9_isWrong_0 rfl rfl ?_
  refine X_aload_n 0 dX9_isWrong_1 rfl rfl ?_
  refine X_getR kF_X9_54 rfl dX9_isWrong_2 (fun a1 => ?_)
  refine X_iload_n 1 dX9_isWrong_5 rfl rfl ?_
  refine X_iald dX9_isWrong_6 (fun x2 => ?_)
  refine X_callVI (ci := 9) (As := [.int x2]) (st := []) (c_X9_place E S a0 x2) (by decide) rfl kC_X9_place kL_X9_136 kI_X9_place kE_X9_place (by unfold g_okR; decide) rfl (Nat.le_of_ble_eq_true rfl) dX9_isWrong_7 (fun x4 S3 => ?_)
  refine X_istore_n (lv2 := [(2, .int x4), (0, .ref a0), (1, .int p1)]) dX9_isWrong_10 rfl (by decide) rfl ?_
  refine X_aload_n 1 dX9_isWrong_11 rfl rfl ?_
  refine X_getR kF_X9_51 rfl dX9_isWrong_12 (fun a5 => ?_)
  refine X_iload_n 2 dX9_isWrong_15 rfl rfl ?_
  refine X_iald dX9_isWrong_16 (fun x6 => ?_)
  by_cases h7 : x6 = (0 : Int32)
  · refine X_eq (if_pos h7) ?_
    refine X_tin (tgt := 44) dX9_isWrong_17 (by rw [h7]; decide) (by rw [h7]; decide) (by rw [h7]; rfl) (by decide) ?_
    refine X_iload_n 0 dX9_isWrong_44 rfl rfl ?_
    refine X_jn (fun (j : gS → Option (Int32 × gS)) => ∀ (S8 : gS), gJ gI E M_X9_isWrong (gn S) (gsl S) 59 [(0, .ref a0), (1, .int p1), (2, .int x4)] [] S8 (j S8)) ?_ (fun jb9 hjb9 => ?_)
    · intro S8
      refine X_iconst (v := (1 : Int32)) dX9_isWrong_59 (by decide) ?_
      refine X_goto (tgt := 64) dX9_isWrong_60 (by decide) ?_
      exact X_z1 rfl dX9_isWrong_64
    · skip
      refine X_if_ge (tgt := 59) dX9_isWrong_45 (by decide) ?_ ?_
      · skip
        exact X_sub [1, 2, 0] rfl (hjb9 _)
      · skip
        refine X_aload_n 1 dX9_isWrong_48 rfl rfl ?_
        refine X_getR kF_X9_48 rfl dX9_isWrong_49 (fun a10 => ?_)
        refine X_iconst (v := (2 : Int32)) dX9_isWrong_52 (by decide) ?_
        refine X_iald dX9_isWrong_53 (fun x11 => ?_)
        refine X_bipush (v := (8 : Int32)) dX9_isWrong_54 (by decide) ?_
        refine X_icmp_ne (tgt := 63) dX9_isWrong_56 (by decide) ?_ ?_
        · skip
          exact X_sub [1, 2, 0] rfl (hjb9 _)
        · skip
          refine X_iconst (v := (0 : Int32)) dX9_isWrong_63 (by decide) ?_
          exact X_z0 rfl dX9_isWrong_64
  · refine X_eq (if_neg h7) ?_
    by_cases h12 : x6 = (1 : Int32)
    · refine X_eq (if_pos h12) ?_
      refine X_tin (tgt := 65) dX9_isWrong_17 (by rw [h12]; decide) (by rw [h12]; decide) (by rw [h12]; rfl) (by decide) ?_
      refine X_iload_n 0 dX9_isWrong_65 rfl rfl ?_
      refine X_if_ge (tgt := 73) dX9_isWrong_66 (by decide) ?_ ?_
      · skip
        refine X_iconst (v := (0 : Int32)) dX9_isWrong_73 (by decide) ?_
        exact X_z0 rfl dX9_isWrong_74
      · skip
        refine X_iconst (v := (1 : Int32)) dX9_isWrong_69 (by decide) ?_
        refine X_goto (tgt := 74) dX9_isWrong_70 (by decide) ?_
        exact X_z1 rfl dX9_isWrong_74
    · refine X_eq (if_neg h12) ?_
      by_cases h13 : x6 = (2 : Int32)
      · refine X_eq (if_pos h13) ?_
        refine X_tin (tgt := 75) dX9_isWrong_17 (by rw [h13]; decide) (by rw [h13]; decide) (by rw [h13]; rfl) (by decide) ?_
        refine X_iload_n 0 dX9_isWrong_75 rfl rfl ?_
        refine X_jn (fun (j : gS → Option (Int32 × gS)) => ∀ (S14 : gS), gJ gI E M_X9_isWrong (gn S) (gsl S) 92 [(0, .ref a0), (1, .int p1), (2, .int x4)] [] S14 (j S14)) ?_ (fun jb15 hjb15 => ?_)
        · intro S14
          refine X_iconst (v := (1 : Int32)) dX9_isWrong_92 (by decide) ?_
          refine X_goto (tgt := 97) dX9_isWrong_93 (by decide) ?_
          exact X_z1 rfl dX9_isWrong_97
        · skip
          refine X_if_lt (tgt := 92) dX9_isWrong_76 (by decide) ?_ ?_
          · skip
            exact X_sub [1, 2, 0] rfl (hjb15 _)
          · skip
            refine X_aload_n 1 dX9_isWrong_79 rfl rfl ?_
            refine X_aload_n 1 dX9_isWrong_80 rfl rfl ?_
            refine X_getR kF_X9_57 rfl dX9_isWrong_81 (fun a16 => ?_)
            refine X_iload_n 2 dX9_isWrong_84 rfl rfl ?_
            refine X_iald dX9_isWrong_85 (fun x17 => ?_)
            refine X_callVI (ci := 9) (As := [.int x17]) (st := []) (c_X9_place E S3 a0 x17) (by decide) rfl kC_X9_place kL_X9_136 kI_X9_place kE_X9_place (by unfold g_okR; decide) rfl (Nat.le_of_ble_eq_true rfl) dX9_isWrong_86 (fun x19 S18 => ?_)
            refine X_if_lt (tgt := 96) dX9_isWrong_89 (by decide) ?_ ?_
            · skip
              refine X_iconst (v := (0 : Int32)) dX9_isWrong_96 (by decide) ?_
              exact X_z0 rfl dX9_isWrong_97
            · skip
              exact X_sub [1, 2, 0] rfl (hjb15 _)
      · refine X_eq (if_neg h13) ?_
        have eh7 : (x6).toInt ≠ 0 := fun q => h7 ((g_i32 q).trans (by decide))
        have eh12 : (x6).toInt ≠ 1 := fun q => h12 ((g_i32 q).trans (by decide))
        have eh13 : (x6).toInt ≠ 2 := fun q => h13 ((g_i32 q).trans (by decide))
        refine X_tout (tgt := 98) dX9_isWrong_17 (by omega) (by decide) ?_
        refine X_iload_n 0 dX9_isWrong_98 rfl rfl ?_
        refine X_jn (fun (j : gS → Option (Int32 × gS)) => ∀ (S20 : gS), gJ gI E M_X9_isWrong (gn S) (gsl S) 123 [(0, .ref a0), (1, .int p1), (2, .int x4)] [] S20 (j S20)) ?_ (fun jb21 hjb21 => ?_)
        · intro S20
          refine X_iconst (v := (1 : Int32)) dX9_isWrong_123 (by decide) ?_
          refine X_goto (tgt := 128) dX9_isWrong_124 (by decide) ?_
          exact X_z1 rfl dX9_isWrong_128
        · skip
          refine X_if_lt (tgt := 123) dX9_isWrong_99 (by decide) ?_ ?_
          · skip
            exact X_sub [1, 2, 0] rfl (hjb21 _)
          · skip
            refine X_aload_n 1 dX9_isWrong_102 rfl rfl ?_
            refine X_getR kF_X9_45 rfl dX9_isWrong_103 (fun a22 => ?_)
            refine X_bipush (v := (16 : Int32)) dX9_isWrong_106 (by decide) ?_
            refine X_iload_n 0 dX9_isWrong_108 rfl rfl ?_
            refine X_iadd dX9_isWrong_109 ?_
            refine X_iald dX9_isWrong_110 (fun x23 => ?_)
            refine X_aload_n 1 dX9_isWrong_111 rfl rfl ?_
            refine X_getR kF_X9_57 rfl dX9_isWrong_112 (fun a24 => ?_)
            refine X_iload_n 2 dX9_isWrong_115 rfl rfl ?_
            refine X_iald dX9_isWrong_116 (fun x25 => ?_)
            refine X_callSI (As := [.int x23, .int x25]) (st := []) (c_X9_canBecome E S3 x23 x25) kC_X9_canBecome kL_X9_140 kS_X9_canBecome (by unfold g_okR; decide) rfl (Nat.le_of_ble_eq_true rfl) dX9_isWrong_117 (fun x27 S26 => ?_)
            refine X_if_ne (tgt := 127) dX9_isWrong_120 (by decide) ?_ ?_
            · skip
              exact X_sub [1, 2, 0] rfl (hjb21 _)
            · skip
              refine X_iconst (v := (0 : Int32)) dX9_isWrong_127 (by decide) ?_
              exact X_z0 rfl dX9_isWrong_128
set_option maxRecDepth 100000 in
theorem kC_X9_isWrong : g_okC M_X9_isWrong 1 := And.intro (g_t (i := 858) rfl (by decide +kernel)) (And.intro (g_nd nd_10_ok (k := 19) rfl) (And.intro (by decide) (And.intro (by decide) (by decide +kernel))))
def M_X9_shadowed : gM := (yX9_shadowed, cX9_shadowed, 3, some .int, 0, 0)
def l_X9_shadowed_4 (u0 : Nat) : Nat → gS → Int32 → Int32 → Option (Int32 × gS)
  | 0, _, _, _ => none
  | n + 1, S, u1, u2 =>
    g_getI S 9 6 u0 fun x1 =>
    if x1 ≤ u2 then (
    some (u1, S))
    else (
    g_getR S 9 7 u0 fun a2 =>
    g_ldI S 10 a2 u2 fun x3 =>
    g_jn (fun (S4 : gS) (w5 : Int32) (w6 : Int32) => (
    g_lt (w6 + w5) fun x8 =>
    l_X9_shadowed_4 u0 n S4 x8 (u2 + (1 : Int32)) )) fun jb7 => (
    if x3 = (2 : Int32) then (
    jb7 S (1 : Int32) u1)
    else (
    jb7 S (0 : Int32) u1)))
def f_X9_shadowed (S : gS) (a0 : Nat) : Option (Int32 × gS) :=
l_X9_shadowed_4 a0 100 S (0 : Int32) (0 : Int32) 
set_option maxRecDepth 100000 in
set_option maxHeartbeats 4000000 in
theorem j_X9_shadowed_4 (E : gE) {n0 s0 : Nat} (u0 : Nat) : ∀ (n : Nat) (S : gS) (u1 : Int32) (u2 : Int32), gJ gI E M_X9_shadowed n0 s0 4 [(0, .ref u0), (1, .int u1), (2, .int u2)] [] S (l_X9_shadowed_4 u0 n S u1 u2 ) := by
  intro n
  induction n with
  | zero =>
    intros
    rw [l_X9_shadowed_4]
    exact gJ.none
  | succ n ih =>
    intro S u1 u2  
    rw [l_X9_shadowed_4]
    refine X_iload_n 2 dX9_shadowed_4 rfl rfl ?_
    refine X_aload_n 0 dX9_shadowed_5 rfl rfl ?_
    refine X_getI kF_X9_187 rfl dX9_shadowed_6 (fun x1 => ?_)
    refine X_icmp_ge (tgt := 36) dX9_shadowed_9 (by decide) ?_ ?_
    · skip
      refine X_iload_n 1 dX9_shadowed_36 rfl rfl ?_
      exact X_iret rfl dX9_shadowed_37
    · skip
      refine X_iload_n 1 dX9_shadowed_12 rfl rfl ?_
      refine X_aload_n 0 dX9_shadowed_13 rfl rfl ?_
      refine X_getR kF_X9_29 rfl dX9_shadowed_14 (fun a2 => ?_)
      refine X_iload_n 2 dX9_shadowed_17 rfl rfl ?_
      refine X_iald dX9_shadowed_18 (fun x3 => ?_)
      refine X_iconst (v := (2 : Int32)) dX9_shadowed_19 (by decide) ?_
      refine X_jn (fun (j : gS → Int32 → Int32 → Option (Int32 × gS)) => ∀ (S4 : gS) (w5 : Int32) (w6 : Int32), gJ gI E M_X9_shadowed n0 s0 28 [(0, .ref u0), (1, .int u1), (2, .int u2)] [.int w5, .int w6] S4 (j S4 w5 w6)) ?_ (fun jb7 hjb7 => ?_)
      · intro S4 w5 w6
        refine X_iadd dX9_shadowed_28 ?_
        refine X_topI (fun x8 => ?_)
        refine X_istore_n (lv2 := [(1, .int x8), (0, .ref u0), (2, .int u2)]) dX9_shadowed_29 rfl (by decide) rfl ?_
        refine X_iinc (k := 2) (x := u2) (v := (1 : Int32)) (lv2 := [(2, .int (u2 + (1 : Int32))), (1, .int x8), (0, .ref u0)]) dX9_shadowed_30 rfl (by decide) (by decide) rfl ?_
        refine X_goto (tgt := 4) dX9_shadowed_33 (by decide) ?_
        exact X_sub [2, 1, 0] rfl (ih _ _ _)
      · skip
        refine X_icmp_ne (tgt := 27) dX9_shadowed_20 (by decide) ?_ ?_
        · skip
          refine X_iconst (v := (1 : Int32)) dX9_shadowed_23 (by decide) ?_
          refine X_goto (tgt := 28) dX9_shadowed_24 (by decide) ?_
          exact (hjb7 _ _ _)
        · skip
          refine X_iconst (v := (0 : Int32)) dX9_shadowed_27 (by decide) ?_
          exact (hjb7 _ _ _)
set_option maxRecDepth 100000 in
set_option maxHeartbeats 4000000 in
theorem c_X9_shadowed (E : gE) (S : gS) (a0 : Nat) : gC gI E M_X9_shadowed [.ref a0] S (f_X9_shadowed S a0) := by
  refine gC.of (by decide) (Nat.le_of_ble_eq_true rfl) ?_
  unfold f_X9_shadowed
  show gJ gI E M_X9_shadowed _ _ 0 [(0, .ref a0)] [] S _
  refine X_iconst (v := (0 : Int32)) dX9_shadowed_0 (by decide) ?_
  refine X_istore_n (lv2 := [(1, .int (0 : Int32)), (0, .ref a0)]) dX9_shadowed_1 rfl (by decide) rfl ?_
  refine X_iconst (v := (0 : Int32)) dX9_shadowed_2 (by decide) ?_
  refine X_istore_n (lv2 := [(2, .int (0 : Int32)), (1, .int (0 : Int32)), (0, .ref a0)]) dX9_shadowed_3 rfl (by decide) rfl ?_
  exact X_sub [2, 1, 0] rfl (j_X9_shadowed_4 E a0 100 _ _ _)
set_option maxRecDepth 100000 in
theorem kC_X9_shadowed : g_okC M_X9_shadowed 0 := And.intro (g_t (i := 854) rfl (by decide +kernel)) (And.intro (g_nd nd_10_ok (k := 19) rfl) (And.intro (by decide) (And.intro (by decide) (by decide +kernel))))
def M_X9_step : gM := (yX9_step, cX9_step, 4, none, 1, 23)
def l_X9_step_99 (u0 : Nat) (u1 : Int32) (u2 : Int32) : Nat → gS → Int32 → (gS → Int32 → Option (gS)) → Option (gS)
  | 0, _, _, _ => none
  | n + 1, S, u3, K1 =>
    g_getR S 9 13 u0 fun a24 =>
    g_ldI S 10 a24 (2 : Int32) fun x25 =>
    if x25 ≤ (u3 + (1 : Int32)) then (
    K1 S u3)
    else (
    g_getR S 9 11 u0 fun a26 =>
    g_getR S 9 11 u0 fun a27 =>
    g_ldI S 10 a27 ((17 : Int32) + u3) fun x28 =>
    g_stI S a26 ((16 : Int32) + u3) x28 fun S29 =>
    g_getR S29 9 12 u0 fun a30 =>
    g_getR S29 9 12 u0 fun a31 =>
    g_ldI S29 10 a31 ((17 : Int32) + u3) fun x32 =>
    g_stI S29 a30 ((16 : Int32) + u3) x32 fun S33 =>
    l_X9_step_99 u0 u1 u2 n S33 (u3 + (1 : Int32)) K1)
def f_X9_step (S : gS) (a0 : Nat) (p1 : Int32) : Option (gS) :=
g_getR S 9 17 a0 fun a1 =>
g_ldI S 10 a1 p1 fun x2 =>
g_cVI S 9 a0 (f_X9_place S a0 x2) fun x4 S3 =>
g_getR S3 9 16 a0 fun a5 =>
g_ldI S3 10 a5 p1 fun x6 =>
if x6 = (0 : Int32) then (
g_getR S3 9 11 a0 fun a8 =>
g_getR S3 9 13 a0 fun a9 =>
g_ldI S3 10 a9 (2 : Int32) fun x10 =>
g_getR S3 9 17 a0 fun a11 =>
g_ldI S3 10 a11 p1 fun x12 =>
g_stI S3 a8 ((16 : Int32) + x10) x12 fun S13 =>
g_getR S13 9 12 a0 fun a14 =>
g_getR S13 9 13 a0 fun a15 =>
g_ldI S13 10 a15 (2 : Int32) fun x16 =>
g_getR S13 9 18 a0 fun a17 =>
g_ldI S13 10 a17 p1 fun x18 =>
g_stI S13 a14 ((16 : Int32) + x16) x18 fun S19 =>
g_getR S19 9 13 a0 fun a20 =>
g_ldI S19 10 a20 (2 : Int32) fun x21 =>
g_stI S19 a20 (2 : Int32) (x21 + (1 : Int32)) fun S22 =>
some S22)
else (
if x6 = (1 : Int32) then (
l_X9_step_99 a0 p1 x4 100 S3 x4 (fun S34 v35 => (
g_getR S34 9 13 a0 fun a36 =>
g_ldI S34 10 a36 (2 : Int32) fun x37 =>
g_stI S34 a36 (2 : Int32) (x37 - (1 : Int32)) fun S38 =>
some S38)))
else (
if x6 = (2 : Int32) then (
g_getR S3 9 11 a0 fun a40 =>
g_getR S3 9 18 a0 fun a41 =>
g_ldI S3 10 a41 p1 fun x42 =>
g_stI S3 a40 ((16 : Int32) + x4) x42 fun S43 =>
some S43)
else (
g_getR S3 9 12 a0 fun a44 =>
g_getR S3 9 18 a0 fun a45 =>
g_ldI S3 10 a45 p1 fun x46 =>
g_stI S3 a44 ((16 : Int32) + x4) x46 fun S47 =>
some S47)))
set_option maxRecDepth 100000 in
set_option maxHeartbeats 4000000 in
theorem j_X9_step_99 (E : gE) {n0 s0 : Nat} (u0 : Nat) (u1 : Int32) (u2 : Int32) : ∀ (n : Nat) (S : gS) (u3 : Int32) (K1 : (gS → Int32 → Option (gS))), (∀ (S : gS) (u3 : Int32), gJ gV E M_X9_step n0 s0 153 [(0, .ref u0), (1, .int u1), (2, .int u2), (3, .int u3)] [] S (K1 S u3)) → gJ gV E M_X9_step n0 s0 99 [(0, .ref u0), (1, .int u1), (2, .int u2), (3, .int u3)] [] S (l_X9_step_99 u0 u1 u2 n S u3 K1) := by
  intro n
  induction n with
  | zero =>
    intros
    rw [l_X9_step_99]
    exact gJ.none
  | succ n ih =>
    intro S u3 K1 hK1
    rw [l_X9_step_99]
    refine X_iload_n 3 dX9_step_99 rfl rfl ?_
    refine X_iconst (v := (1 : Int32)) dX9_step_100 (by decide) ?_
    refine X_iadd dX9_step_101 ?_
    refine X_aload_n 0 dX9_step_102 rfl rfl ?_
    refine X_getR kF_X9_48 rfl dX9_step_103 (fun a24 => ?_)
    refine X_iconst (v := (2 : Int32)) dX9_step_106 (by decide) ?_
    refine X_iald dX9_step_107 (fun x25 => ?_)
    refine X_icmp_ge (tgt := 153) dX9_step_108 (by decide) ?_ ?_
    · skip
      exact (hK1 _ _)
    · skip
      refine X_aload_n 0 dX9_step_111 rfl rfl ?_
      refine X_getR kF_X9_42 rfl dX9_step_112 (fun a26 => ?_)
      refine X_bipush (v := (16 : Int32)) dX9_step_115 (by decide) ?_
      refine X_iload_n 3 dX9_step_117 rfl rfl ?_
      refine X_iadd dX9_step_118 ?_
      refine X_aload_n 0 dX9_step_119 rfl rfl ?_
      refine X_getR kF_X9_42 rfl dX9_step_120 (fun a27 => ?_)
      refine X_bipush (v := (17 : Int32)) dX9_step_123 (by decide) ?_
      refine X_iload_n 3 dX9_step_125 rfl rfl ?_
      refine X_iadd dX9_step_126 ?_
      refine X_iald dX9_step_127 (fun x28 => ?_)
      refine X_iast dX9_step_128 (fun S29 => ?_)
      refine X_aload_n 0 dX9_step_129 rfl rfl ?_
      refine X_getR kF_X9_45 rfl dX9_step_130 (fun a30 => ?_)
      refine X_bipush (v := (16 : Int32)) dX9_step_133 (by decide) ?_
      refine X_iload_n 3 dX9_step_135 rfl rfl ?_
      refine X_iadd dX9_step_136 ?_
      refine X_aload_n 0 dX9_step_137 rfl rfl ?_
      refine X_getR kF_X9_45 rfl dX9_step_138 (fun a31 => ?_)
      refine X_bipush (v := (17 : Int32)) dX9_step_141 (by decide) ?_
      refine X_iload_n 3 dX9_step_143 rfl rfl ?_
      refine X_iadd dX9_step_144 ?_
      refine X_iald dX9_step_145 (fun x32 => ?_)
      refine X_iast dX9_step_146 (fun S33 => ?_)
      refine X_iinc (k := 3) (x := u3) (v := (1 : Int32)) (lv2 := [(3, .int (u3 + (1 : Int32))), (0, .ref u0), (1, .int u1), (2, .int u2)]) dX9_step_147 rfl (by decide) (by decide) rfl ?_
      refine X_goto (tgt := 99) dX9_step_150 (by decide) ?_
      exact X_sub [1, 2, 3, 0] rfl (ih _ _ _ hK1)
set_option maxRecDepth 100000 in
set_option maxHeartbeats 4000000 in
theorem c_X9_step (E : gE) (S : gS) (a0 : Nat) (p1 : Int32) : gC gV E M_X9_step [.ref a0, .int p1] S (f_X9_step S a0 p1) := by
  refine gC.of (by decide) (Nat.le_of_ble_eq_true rfl) ?_
  unfold f_X9_step
  show gJ gV E M_X9_step _ _ 0 [(0, .ref a0), (1, .int p1)] [] S _
  refine X_aload_n 0 dX9_step_0 rfl rfl ?_
  refine X_aload_n 0 dX9_step_1 rfl rfl ?_
  refine X_getR kF_X9_54 rfl dX9_step_2 (fun a1 => ?_)
  refine X_iload_n 1 dX9_step_5 rfl rfl ?_
  refine X_iald dX9_step_6 (fun x2 => ?_)
  refine X_callVI (ci := 9) (As := [.int x2]) (st := []) (c_X9_place E S a0 x2) (by decide) rfl kC_X9_place kL_X9_136 kI_X9_place kE_X9_place (by unfold g_okR; decide) rfl (Nat.le_of_ble_eq_true rfl) dX9_step_7 (fun x4 S3 => ?_)
  refine X_istore_n (lv2 := [(2, .int x4), (0, .ref a0), (1, .int p1)]) dX9_step_10 rfl (by decide) rfl ?_
  refine X_aload_n 1 dX9_step_11 rfl rfl ?_
  refine X_getR kF_X9_51 rfl dX9_step_12 (fun a5 => ?_)
  refine X_iload_n 2 dX9_step_15 rfl rfl ?_
  refine X_iald dX9_step_16 (fun x6 => ?_)
  by_cases h7 : x6 = (0 : Int32)
  · refine X_eq (if_pos h7) ?_
    refine X_tin (tgt := 44) dX9_step_17 (by rw [h7]; decide) (by rw [h7]; decide) (by rw [h7]; rfl) (by decide) ?_
    refine X_aload_n 1 dX9_step_44 rfl rfl ?_
    refine X_getR kF_X9_42 rfl dX9_step_45 (fun a8 => ?_)
    refine X_bipush (v := (16 : Int32)) dX9_step_48 (by decide) ?_
    refine X_aload_n 1 dX9_step_50 rfl rfl ?_
    refine X_getR kF_X9_48 rfl dX9_step_51 (fun a9 => ?_)
    refine X_iconst (v := (2 : Int32)) dX9_step_54 (by decide) ?_
    refine X_iald dX9_step_55 (fun x10 => ?_)
    refine X_iadd dX9_step_56 ?_
    refine X_aload_n 1 dX9_step_57 rfl rfl ?_
    refine X_getR kF_X9_54 rfl dX9_step_58 (fun a11 => ?_)
    refine X_iload_n 2 dX9_step_61 rfl rfl ?_
    refine X_iald dX9_step_62 (fun x12 => ?_)
    refine X_iast dX9_step_63 (fun S13 => ?_)
    refine X_aload_n 1 dX9_step_64 rfl rfl ?_
    refine X_getR kF_X9_45 rfl dX9_step_65 (fun a14 => ?_)
    refine X_bipush (v := (16 : Int32)) dX9_step_68 (by decide) ?_
    refine X_aload_n 1 dX9_step_70 rfl rfl ?_
    refine X_getR kF_X9_48 rfl dX9_step_71 (fun a15 => ?_)
    refine X_iconst (v := (2 : Int32)) dX9_step_74 (by decide) ?_
    refine X_iald dX9_step_75 (fun x16 => ?_)
    refine X_iadd dX9_step_76 ?_
    refine X_aload_n 1 dX9_step_77 rfl rfl ?_
    refine X_getR kF_X9_57 rfl dX9_step_78 (fun a17 => ?_)
    refine X_iload_n 2 dX9_step_81 rfl rfl ?_
    refine X_iald dX9_step_82 (fun x18 => ?_)
    refine X_iast dX9_step_83 (fun S19 => ?_)
    refine X_aload_n 1 dX9_step_84 rfl rfl ?_
    refine X_getR kF_X9_48 rfl dX9_step_85 (fun a20 => ?_)
    refine X_iconst (v := (2 : Int32)) dX9_step_88 (by decide) ?_
    refine X_dup2 dX9_step_89 rfl rfl ?_
    refine X_iald dX9_step_90 (fun x21 => ?_)
    refine X_iconst (v := (1 : Int32)) dX9_step_91 (by decide) ?_
    refine X_iadd dX9_step_92 ?_
    refine X_iast dX9_step_93 (fun S22 => ?_)
    refine X_goto (tgt := 199) dX9_step_94 (by decide) ?_
    exact X_vret rfl dX9_step_199
  · refine X_eq (if_neg h7) ?_
    by_cases h23 : x6 = (1 : Int32)
    · refine X_eq (if_pos h23) ?_
      refine X_tin (tgt := 97) dX9_step_17 (by rw [h23]; decide) (by rw [h23]; decide) (by rw [h23]; rfl) (by decide) ?_
      refine X_iload_n 0 dX9_step_97 rfl rfl ?_
      refine X_istore_n (lv2 := [(3, .int x4), (2, .int x4), (0, .ref a0), (1, .int p1)]) dX9_step_98 rfl (by decide) rfl ?_
      refine X_sub [2, 3, 1, 0] rfl (j_X9_step_99 E a0 p1 x4 100 _ _ _ (fun S34 v35 => ?_))
      refine X_aload_n 0 dX9_step_153 rfl rfl ?_
      refine X_getR kF_X9_48 rfl dX9_step_154 (fun a36 => ?_)
      refine X_iconst (v := (2 : Int32)) dX9_step_157 (by decide) ?_
      refine X_dup2 dX9_step_158 rfl rfl ?_
      refine X_iald dX9_step_159 (fun x37 => ?_)
      refine X_iconst (v := (1 : Int32)) dX9_step_160 (by decide) ?_
      refine X_isub dX9_step_161 ?_
      refine X_iast dX9_step_162 (fun S38 => ?_)
      refine X_goto (tgt := 199) dX9_step_163 (by decide) ?_
      exact X_vret rfl dX9_step_199
    · refine X_eq (if_neg h23) ?_
      by_cases h39 : x6 = (2 : Int32)
      · refine X_eq (if_pos h39) ?_
        refine X_tin (tgt := 166) dX9_step_17 (by rw [h39]; decide) (by rw [h39]; decide) (by rw [h39]; rfl) (by decide) ?_
        refine X_aload_n 1 dX9_step_166 rfl rfl ?_
        refine X_getR kF_X9_42 rfl dX9_step_167 (fun a40 => ?_)
        refine X_bipush (v := (16 : Int32)) dX9_step_170 (by decide) ?_
        refine X_iload_n 0 dX9_step_172 rfl rfl ?_
        refine X_iadd dX9_step_173 ?_
        refine X_aload_n 1 dX9_step_174 rfl rfl ?_
        refine X_getR kF_X9_57 rfl dX9_step_175 (fun a41 => ?_)
        refine X_iload_n 2 dX9_step_178 rfl rfl ?_
        refine X_iald dX9_step_179 (fun x42 => ?_)
        refine X_iast dX9_step_180 (fun S43 => ?_)
        refine X_goto (tgt := 199) dX9_step_181 (by decide) ?_
        exact X_vret rfl dX9_step_199
      · refine X_eq (if_neg h39) ?_
        have eh7 : (x6).toInt ≠ 0 := fun q => h7 ((g_i32 q).trans (by decide))
        have eh23 : (x6).toInt ≠ 1 := fun q => h23 ((g_i32 q).trans (by decide))
        have eh39 : (x6).toInt ≠ 2 := fun q => h39 ((g_i32 q).trans (by decide))
        refine X_tout (tgt := 184) dX9_step_17 (by omega) (by decide) ?_
        refine X_aload_n 1 dX9_step_184 rfl rfl ?_
        refine X_getR kF_X9_45 rfl dX9_step_185 (fun a44 => ?_)
        refine X_bipush (v := (16 : Int32)) dX9_step_188 (by decide) ?_
        refine X_iload_n 0 dX9_step_190 rfl rfl ?_
        refine X_iadd dX9_step_191 ?_
        refine X_aload_n 1 dX9_step_192 rfl rfl ?_
        refine X_getR kF_X9_57 rfl dX9_step_193 (fun a45 => ?_)
        refine X_iload_n 2 dX9_step_196 rfl rfl ?_
        refine X_iald dX9_step_197 (fun x46 => ?_)
        refine X_iast dX9_step_198 (fun S47 => ?_)
        exact X_vret rfl dX9_step_199
set_option maxRecDepth 100000 in
theorem kC_X9_step : g_okC M_X9_step 1 := And.intro (g_t (i := 782) rfl (by decide +kernel)) (And.intro (g_nd nd_10_ok (k := 19) rfl) (And.intro (by decide) (And.intro (by decide) (by decide +kernel))))
def M_X9_clear : gM := (yX9_clear, cX9_clear, 2, none, 0, 0)
def f_X9_clear (S : gS) (a0 : Nat) (p1 : Int32) : Option (gS) :=
g_getR S 9 0 a0 fun a1 =>
g_stL S a1 p1 (0 : Int64) fun S2 =>
g_getR S2 9 1 a0 fun a3 =>
g_stI S2 a3 p1 (0 : Int32) fun S4 =>
some S4
set_option maxRecDepth 100000 in
set_option maxHeartbeats 4000000 in
theorem c_X9_clear (E : gE) (S : gS) (a0 : Nat) (p1 : Int32) : gC gV E M_X9_clear [.ref a0, .int p1] S (f_X9_clear S a0 p1) := by
  refine gC.of (by decide) (Nat.le_of_ble_eq_true rfl) ?_
  unfold f_X9_clear
  show gJ gV E M_X9_clear _ _ 0 [(0, .ref a0), (1, .int p1)] [] S _
  refine X_aload_n 0 dX9_clear_0 rfl rfl ?_
  refine X_getR kF_X9_7 rfl dX9_clear_1 (fun a1 => ?_)
  refine X_iload_n 1 dX9_clear_4 rfl rfl ?_
  refine X_lconst (v := (0 : Int64)) dX9_clear_5 (by decide) ?_
  refine X_last dX9_clear_6 (fun S2 => ?_)
  refine X_aload_n 0 dX9_clear_7 rfl rfl ?_
  refine X_getR kF_X9_13 rfl dX9_clear_8 (fun a3 => ?_)
  refine X_iload_n 1 dX9_clear_11 rfl rfl ?_
  refine X_iconst (v := (0 : Int32)) dX9_clear_12 (by decide) ?_
  refine X_iast dX9_clear_13 (fun S4 => ?_)
  exact X_vret rfl dX9_clear_14
set_option maxRecDepth 100000 in
theorem kC_X9_clear : g_okC M_X9_clear 1 := And.intro (g_t (i := 725) rfl (by decide +kernel)) (And.intro (g_nd nd_10_ok (k := 19) rfl) (And.intro (by decide) (And.intro (by decide) (by decide +kernel))))
def M_X9_nearest : gM := (yX9_nearest, cX9_nearest, 6, some .long, 0, 0)
def f_X9_nearest (S : gS) (p0 : Int64) (p2 : Int64) (p4 : Int64) : Option (Int64 × gS) :=
if 0 ≤ (lg_cmp p0 p2) then (
if (lg_cmp p0 p4) ≤ 0 then (
some (p0, S))
else (
some (p4, S)))
else (
some (p2, S))
set_option maxRecDepth 100000 in
set_option maxHeartbeats 4000000 in
theorem c_X9_nearest (E : gE) (S : gS) (p0 : Int64) (p2 : Int64) (p4 : Int64) : gC gL E M_X9_nearest [.long p0, .long p2, .long p4] S (f_X9_nearest S p0 p2 p4) := by
  refine gC.of (by decide) (Nat.le_of_ble_eq_true rfl) ?_
  unfold f_X9_nearest
  show gJ gL E M_X9_nearest _ _ 0 [(0, .long p0), (2, .long p2), (4, .long p4)] [] S _
  refine X_lload_n 0 dX9_nearest_0 rfl rfl ?_
  refine X_lload_n 1 dX9_nearest_1 rfl rfl ?_
  refine X_lcmp dX9_nearest_2 ?_
  refine X_if_ge (tgt := 10) dX9_nearest_3 (by decide) ?_ ?_
  · skip
    refine X_lload_n 0 dX9_nearest_10 rfl rfl ?_
    refine X_lload 2 dX9_nearest_11 rfl ?_
    refine X_lcmp dX9_nearest_13 ?_
    refine X_if_le (tgt := 22) dX9_nearest_14 (by decide) ?_ ?_
    · skip
      refine X_lload_n 0 dX9_nearest_22 rfl rfl ?_
      exact X_lret rfl dX9_nearest_23
    · skip
      refine X_lload 2 dX9_nearest_17 rfl ?_
      refine X_goto (tgt := 23) dX9_nearest_19 (by decide) ?_
      exact X_lret rfl dX9_nearest_23
  · skip
    refine X_lload_n 1 dX9_nearest_6 rfl rfl ?_
    refine X_goto (tgt := 23) dX9_nearest_7 (by decide) ?_
    exact X_lret rfl dX9_nearest_23
set_option maxRecDepth 100000 in
theorem kC_X9_nearest : g_okC M_X9_nearest 3 := And.intro (g_t (i := 800) rfl (by decide +kernel)) (And.intro (g_nd nd_10_ok (k := 19) rfl) (And.intro (by decide) (And.intro (by decide) (by decide +kernel))))
def M_X9_addChar : gM := (yX9_addChar, cX9_addChar, 3, none, 0, 0)
def f_X9_addChar (S : gS) (a0 : Nat) (p1 : Int32) (p2 : Int32) : Option (gS) :=
if p2 = 0 then (
some S)
else (
g_getR S 9 2 a0 fun a1 =>
g_getR S 9 1 a0 fun a2 =>
g_ldI S 10 a2 p1 fun x3 =>
g_stI S a1 (((24 : Int32) * p1) + x3) p2 fun S4 =>
g_getR S4 9 1 a0 fun a5 =>
g_ldI S4 10 a5 p1 fun x6 =>
g_stI S4 a5 p1 (x6 + (1 : Int32)) fun S7 =>
some S7)
set_option maxRecDepth 100000 in
set_option maxHeartbeats 4000000 in
theorem c_X9_addChar (E : gE) (S : gS) (a0 : Nat) (p1 : Int32) (p2 : Int32) : gC gV E M_X9_addChar [.ref a0, .int p1, .int p2] S (f_X9_addChar S a0 p1 p2) := by
  refine gC.of (by decide) (Nat.le_of_ble_eq_true rfl) ?_
  unfold f_X9_addChar
  show gJ gV E M_X9_addChar _ _ 0 [(0, .ref a0), (1, .int p1), (2, .int p2)] [] S _
  refine X_iload_n 2 dX9_addChar_0 rfl rfl ?_
  refine X_if_ne (tgt := 5) dX9_addChar_1 (by decide) ?_ ?_
  · skip
    exact X_vret rfl dX9_addChar_4
  · skip
    refine X_aload_n 0 dX9_addChar_5 rfl rfl ?_
    refine X_getR kF_X9_17 rfl dX9_addChar_6 (fun a1 => ?_)
    refine X_bipush (v := (24 : Int32)) dX9_addChar_9 (by decide) ?_
    refine X_iload_n 1 dX9_addChar_11 rfl rfl ?_
    refine X_imul dX9_addChar_12 ?_
    refine X_aload_n 0 dX9_addChar_13 rfl rfl ?_
    refine X_getR kF_X9_13 rfl dX9_addChar_14 (fun a2 => ?_)
    refine X_iload_n 1 dX9_addChar_17 rfl rfl ?_
    refine X_iald dX9_addChar_18 (fun x3 => ?_)
    refine X_iadd dX9_addChar_19 ?_
    refine X_iload_n 2 dX9_addChar_20 rfl rfl ?_
    refine X_iast dX9_addChar_21 (fun S4 => ?_)
    refine X_aload_n 0 dX9_addChar_22 rfl rfl ?_
    refine X_getR kF_X9_13 rfl dX9_addChar_23 (fun a5 => ?_)
    refine X_iload_n 1 dX9_addChar_26 rfl rfl ?_
    refine X_dup2 dX9_addChar_27 rfl rfl ?_
    refine X_iald dX9_addChar_28 (fun x6 => ?_)
    refine X_iconst (v := (1 : Int32)) dX9_addChar_29 (by decide) ?_
    refine X_iadd dX9_addChar_30 ?_
    refine X_iast dX9_addChar_31 (fun S7 => ?_)
    exact X_vret rfl dX9_addChar_32
set_option maxRecDepth 100000 in
theorem kC_X9_addChar : g_okC M_X9_addChar 2 := And.intro (g_t (i := 730) rfl (by decide +kernel)) (And.intro (g_nd nd_10_ok (k := 19) rfl) (And.intro (by decide) (And.intro (by decide) (by decide +kernel))))
def M_X9_putDigits : gM := (yX9_putDigits, cX9_putDigits, 8, none, 1, 22)
def l_X9_putDigits_11 (u0 : Nat) (u1 : Int32) (u2 : Int64) : Nat → gS → Int32 → Int64 → (gS → Int32 → Int64 → Option (gS)) → Option (gS)
  | 0, _, _, _, _ => none
  | n + 1, S, u4, u5, K1 =>
    g_jn (fun (S2 : gS) => (
    g_lt ((u5 - u5 / (10 : Int64) * (10 : Int64))).toInt32 fun x4 =>
    g_getR S2 9 3 u0 fun a5 =>
    g_jn (fun (S6 : gS) (w7 : Int32) (w8 : Int32) (w9 : Int32) (w10 : Nat) => (
    g_stI S6 w10 w9 (w8 + w7) fun S12 =>
    g_lt (u5 / (10 : Int64)) fun x13 =>
    l_X9_putDigits_11 u0 u1 u2 n S12 (u4 + (1 : Int32)) x13 K1)) fun jb11 => (
    if 0 ≤ x4 then (
    jb11 S2 x4 (48 : Int32) u4 a5)
    else (
    jb11 S2 (-x4) (48 : Int32) u4 a5)))) fun jb3 => (
    if u4 = 0 then (
    jb3 S)
    else (
    if (lg_cmp u5 (0 : Int64)) = 0 then (
    K1 S u4 u5)
    else (
    jb3 S)))
def l_X9_putDigits_82 (u0 : Nat) (u1 : Int32) (u2 : Int64) (u5 : Int64) : Nat → gS → Int32 → Option (gS)
  | 0, _, _ => none
  | n + 1, S, u4 =>
    if u4 ≤ 0 then (
    some S)
    else (
    g_getR S 9 3 u0 fun a19 =>
    g_ldI S 10 a19 (u4 + (-1 : Int32)) fun x20 =>
    g_cVV S 9 u0 (f_X9_addChar S u0 u1 x20) fun S21 =>
    l_X9_putDigits_82 u0 u1 u2 u5 n S21 (u4 + (-1 : Int32)) )
def f_X9_putDigits (S : gS) (a0 : Nat) (p1 : Int32) (p2 : Int64) : Option (gS) :=
g_cVV S 9 a0 (f_X9_clear S a0 p1) fun S1 =>
l_X9_putDigits_11 a0 p1 p2 100 S1 (0 : Int32) p2 (fun S14 v15 v16 => (
g_jn (fun (S17 : gS) => (
l_X9_putDigits_82 a0 p1 p2 v16 100 S17 v15 )) fun jb18 => (
if 0 ≤ (lg_cmp p2 (0 : Int64)) then (
jb18 S14)
else (
g_cVV S14 9 a0 (f_X9_addChar S14 a0 p1 (45 : Int32)) fun S22 =>
jb18 S22))))
set_option maxRecDepth 100000 in
set_option maxHeartbeats 4000000 in
theorem j_X9_putDigits_11 (E : gE) {n0 s0 : Nat} (u0 : Nat) (u1 : Int32) (u2 : Int64) : ∀ (n : Nat) (S : gS) (u4 : Int32) (u5 : Int64) (K1 : (gS → Int32 → Int64 → Option (gS))), (∀ (S : gS) (u4 : Int32) (u5 : Int64), gJ gV E M_X9_putDigits n0 s0 69 [(0, .ref u0), (1, .int u1), (2, .long u2), (4, .int u4), (5, .long u5)] [] S (K1 S u4 u5)) → gJ gV E M_X9_putDigits n0 s0 11 [(0, .ref u0), (1, .int u1), (2, .long u2), (4, .int u4), (5, .long u5)] [] S (l_X9_putDigits_11 u0 u1 u2 n S u4 u5 K1) := by
  intro n
  induction n with
  | zero =>
    intros
    rw [l_X9_putDigits_11]
    exact gJ.none
  | succ n ih =>
    intro S u4 u5 K1 hK1
    rw [l_X9_putDigits_11]
    refine X_iload 3 dX9_putDigits_11 rfl ?_
    refine X_jn (fun (j : gS → Option (gS)) => ∀ (S2 : gS), gJ gV E M_X9_putDigits n0 s0 23 [(0, .ref u0), (1, .int u1), (2, .long u2), (4, .int u4), (5, .long u5)] [] S2 (j S2)) ?_ (fun jb3 hjb3 => ?_)
    · intro S2
      refine X_lload 4 dX9_putDigits_23 rfl ?_
      refine X_ldc2 (v := (10 : Int64)) kK_X9_114 dX9_putDigits_25 ?_
      refine X_lrem dX9_putDigits_28 (by decide) ?_
      refine X_l2i dX9_putDigits_29 ?_
      refine X_topI (fun x4 => ?_)
      refine X_istore (lv2 := [(7, .int x4), (0, .ref u0), (1, .int u1), (2, .long u2), (4, .int u4), (5, .long u5)]) dX9_putDigits_30 (by decide) rfl ?_
      refine X_aload_n 1 dX9_putDigits_32 rfl rfl ?_
      refine X_getR kF_X9_20 rfl dX9_putDigits_33 (fun a5 => ?_)
      refine X_iload 4 dX9_putDigits_36 rfl ?_
      refine X_bipush (v := (48 : Int32)) dX9_putDigits_38 (by decide) ?_
      refine X_iload 0 dX9_putDigits_40 rfl ?_
      refine X_jn (fun (j : gS → Int32 → Int32 → Int32 → Nat → Option (gS)) => ∀ (S6 : gS) (w7 : Int32) (w8 : Int32) (w9 : Int32) (w10 : Nat), gJ gV E M_X9_putDigits n0 s0 53 [(0, .ref u0), (1, .int u1), (2, .long u2), (4, .int u4), (5, .long u5), (7, .int x4)] [.int w7, .int w8, .int w9, .ref w10] S6 (j S6 w7 w8 w9 w10)) ?_ (fun jb11 hjb11 => ?_)
      · intro S6 w7 w8 w9 w10
        refine X_iadd dX9_putDigits_53 ?_
        refine X_iast dX9_putDigits_54 (fun S12 => ?_)
        refine X_lload 4 dX9_putDigits_55 rfl ?_
        refine X_ldc2 (v := (10 : Int64)) kK_X9_114 dX9_putDigits_57 ?_
        refine X_ldiv dX9_putDigits_60 (by decide) ?_
        refine X_topL (fun x13 => ?_)
        refine X_lstore (lv2 := [(5, .long x13), (0, .ref u0), (1, .int u1), (2, .long u2), (4, .int u4), (7, .int x4)]) dX9_putDigits_61 (by decide) rfl ?_
        refine X_iinc (k := 4) (x := u4) (v := (1 : Int32)) (lv2 := [(4, .int (u4 + (1 : Int32))), (5, .long x13), (0, .ref u0), (1, .int u1), (2, .long u2), (7, .int x4)]) dX9_putDigits_63 rfl (by decide) (by decide) rfl ?_
        refine X_goto (tgt := 11) dX9_putDigits_66 (by decide) ?_
        exact X_sub [2, 3, 4, 0, 1] rfl (ih _ _ _ _ hK1)
      · skip
        refine X_if_ge (tgt := 51) dX9_putDigits_42 (by decide) ?_ ?_
        · skip
          refine X_iload 0 dX9_putDigits_51 rfl ?_
          exact X_sub [1, 2, 3, 4, 5, 0] rfl (hjb11 _ _ _ _ _)
        · skip
          refine X_iload 0 dX9_putDigits_45 rfl ?_
          refine X_ineg dX9_putDigits_47 ?_
          refine X_goto (tgt := 53) dX9_putDigits_48 (by decide) ?_
          exact X_sub [1, 2, 3, 4, 5, 0] rfl (hjb11 _ _ _ _ _)
    · skip
      refine X_if_eq (tgt := 23) dX9_putDigits_13 (by decide) ?_ ?_
      · skip
        exact (hjb3 _)
      · skip
        refine X_lload 4 dX9_putDigits_16 rfl ?_
        refine X_lconst (v := (0 : Int64)) dX9_putDigits_18 (by decide) ?_
        refine X_lcmp dX9_putDigits_19 ?_
        refine X_if_eq (tgt := 69) dX9_putDigits_20 (by decide) ?_ ?_
        · skip
          exact (hK1 _ _ _)
        · skip
          exact (hjb3 _)
set_option maxRecDepth 100000 in
set_option maxHeartbeats 4000000 in
theorem j_X9_putDigits_82 (E : gE) {n0 s0 : Nat} (u0 : Nat) (u1 : Int32) (u2 : Int64) (u5 : Int64) : ∀ (n : Nat) (S : gS) (u4 : Int32), gJ gV E M_X9_putDigits n0 s0 82 [(0, .ref u0), (1, .int u1), (2, .long u2), (4, .int u4), (5, .long u5)] [] S (l_X9_putDigits_82 u0 u1 u2 u5 n S u4 ) := by
  intro n
  induction n with
  | zero =>
    intros
    rw [l_X9_putDigits_82]
    exact gJ.none
  | succ n ih =>
    intro S u4  
    rw [l_X9_putDigits_82]
    refine X_iload 3 dX9_putDigits_82 rfl ?_
    refine X_if_le (tgt := 105) dX9_putDigits_84 (by decide) ?_ ?_
    · skip
      exact X_vret rfl dX9_putDigits_105
    · skip
      refine X_iinc (k := 3) (x := u4) (v := (-1 : Int32)) (lv2 := [(4, .int (u4 + (-1 : Int32))), (0, .ref u0), (1, .int u1), (2, .long u2), (5, .long u5)]) dX9_putDigits_87 rfl (by decide) (by decide) rfl ?_
      refine X_aload_n 1 dX9_putDigits_90 rfl rfl ?_
      refine X_iload_n 2 dX9_putDigits_91 rfl rfl ?_
      refine X_aload_n 1 dX9_putDigits_92 rfl rfl ?_
      refine X_getR kF_X9_20 rfl dX9_putDigits_93 (fun a19 => ?_)
      refine X_iload 0 dX9_putDigits_96 rfl ?_
      refine X_iald dX9_putDigits_98 (fun x20 => ?_)
      refine X_callVV (ci := 9) (As := [.int u1, .int x20]) (st := []) (c_X9_addChar E S u0 u1 x20) (by decide) rfl kC_X9_addChar kL_X9_107 kI_X9_addChar kE_X9_addChar (by unfold g_okR; decide) rfl (Nat.le_of_ble_eq_true rfl) dX9_putDigits_99 (fun S21 => ?_)
      refine X_goto (tgt := 82) dX9_putDigits_102 (by decide) ?_
      exact X_sub [1, 2, 3, 0, 4] rfl (ih _ _)
set_option maxRecDepth 100000 in
set_option maxHeartbeats 4000000 in
theorem c_X9_putDigits (E : gE) (S : gS) (a0 : Nat) (p1 : Int32) (p2 : Int64) : gC gV E M_X9_putDigits [.ref a0, .int p1, .long p2] S (f_X9_putDigits S a0 p1 p2) := by
  refine gC.of (by decide) (Nat.le_of_ble_eq_true rfl) ?_
  unfold f_X9_putDigits
  show gJ gV E M_X9_putDigits _ _ 0 [(0, .ref a0), (1, .int p1), (2, .long p2)] [] S _
  refine X_aload_n 0 dX9_putDigits_0 rfl rfl ?_
  refine X_iload_n 1 dX9_putDigits_1 rfl rfl ?_
  refine X_callVV (ci := 9) (As := [.int p1]) (st := []) (c_X9_clear E S a0 p1) (by decide) rfl kC_X9_clear kL_X9_101 kI_X9_clear kE_X9_clear (by unfold g_okR; decide) rfl (Nat.le_of_ble_eq_true rfl) dX9_putDigits_2 (fun S1 => ?_)
  refine X_iconst (v := (0 : Int32)) dX9_putDigits_5 (by decide) ?_
  refine X_istore (lv2 := [(4, .int (0 : Int32)), (0, .ref a0), (1, .int p1), (2, .long p2)]) dX9_putDigits_6 (by decide) rfl ?_
  refine X_lload_n 3 dX9_putDigits_8 rfl rfl ?_
  refine X_lstore (lv2 := [(5, .long p2), (4, .int (0 : Int32)), (0, .ref a0), (1, .int p1), (2, .long p2)]) dX9_putDigits_9 (by decide) rfl ?_
  refine X_sub [2, 3, 4, 1, 0] rfl (j_X9_putDigits_11 E a0 p1 p2 100 _ _ _ _ (fun S14 v15 v16 => ?_))
  refine X_lload_n 2 dX9_putDigits_69 rfl rfl ?_
  refine X_lconst (v := (0 : Int64)) dX9_putDigits_70 (by decide) ?_
  refine X_lcmp dX9_putDigits_71 ?_
  refine X_jn (fun (j : gS → Option (gS)) => ∀ (S17 : gS), gJ gV E M_X9_putDigits (gn S) (gsl S) 82 [(0, .ref a0), (1, .int p1), (2, .long p2), (4, .int v15), (5, .long v16)] [] S17 (j S17)) ?_ (fun jb18 hjb18 => ?_)
  · intro S17
    exact j_X9_putDigits_82 E a0 p1 p2 v16 100 _ _
  · skip
    refine X_if_ge (tgt := 82) dX9_putDigits_72 (by decide) ?_ ?_
    · skip
      exact (hjb18 _)
    · skip
      refine X_aload_n 0 dX9_putDigits_75 rfl rfl ?_
      refine X_iload_n 1 dX9_putDigits_76 rfl rfl ?_
      refine X_bipush (v := (45 : Int32)) dX9_putDigits_77 (by decide) ?_
      refine X_callVV (ci := 9) (As := [.int p1, .int (45 : Int32)]) (st := []) (c_X9_addChar E S14 a0 p1 (45 : Int32)) (by decide) rfl kC_X9_addChar kL_X9_107 kI_X9_addChar kE_X9_addChar (by unfold g_okR; decide) rfl (Nat.le_of_ble_eq_true rfl) dX9_putDigits_79 (fun S22 => ?_)
      exact (hjb18 _)
set_option maxRecDepth 100000 in
theorem kC_X9_putDigits : g_okC M_X9_putDigits 2 := And.intro (g_t (i := 806) rfl (by decide +kernel)) (And.intro (g_nd nd_10_ok (k := 19) rfl) (And.intro (by decide) (And.intro (by decide) (by decide +kernel))))
def M_X9_isIn : gM := (yX9_isIn, cX9_isIn, 3, some .boolean, 0, 0)
def f_X9_isIn (S : gS) (p0 : Int32) (p1 : Int32) (p2 : Int32) : Option (Int32 × gS) :=
g_jn (fun (S1 : gS) => (
some ((0 : Int32), S1))) fun jb2 => (
if p0 < p1 then (
jb2 S)
else (
if p2 < p0 then (
jb2 S)
else (
some ((1 : Int32), S))))
set_option maxRecDepth 100000 in
set_option maxHeartbeats 4000000 in
theorem c_X9_isIn (E : gE) (S : gS) (p0 : Int32) (p1 : Int32) (p2 : Int32) : gC gI E M_X9_isIn [.int p0, .int p1, .int p2] S (f_X9_isIn S p0 p1 p2) := by
  refine gC.of (by decide) (Nat.le_of_ble_eq_true rfl) ?_
  unfold f_X9_isIn
  show gJ gI E M_X9_isIn _ _ 0 [(0, .int p0), (1, .int p1), (2, .int p2)] [] S _
  refine X_iload_n 0 dX9_isIn_0 rfl rfl ?_
  refine X_iload_n 1 dX9_isIn_1 rfl rfl ?_
  refine X_jn (fun (j : gS → Option (Int32 × gS)) => ∀ (S1 : gS), gJ gI E M_X9_isIn (gn S) (gsl S) 14 [(0, .int p0), (1, .int p1), (2, .int p2)] [] S1 (j S1)) ?_ (fun jb2 hjb2 => ?_)
  · intro S1
    refine X_iconst (v := (0 : Int32)) dX9_isIn_14 (by decide) ?_
    exact X_z0 rfl dX9_isIn_15
  · skip
    refine X_icmp_lt (tgt := 14) dX9_isIn_2 (by decide) ?_ ?_
    · skip
      exact (hjb2 _)
    · skip
      refine X_iload_n 0 dX9_isIn_5 rfl rfl ?_
      refine X_iload_n 2 dX9_isIn_6 rfl rfl ?_
      refine X_icmp_gt (tgt := 14) dX9_isIn_7 (by decide) ?_ ?_
      · skip
        exact (hjb2 _)
      · skip
        refine X_iconst (v := (1 : Int32)) dX9_isIn_10 (by decide) ?_
        refine X_goto (tgt := 15) dX9_isIn_11 (by decide) ?_
        exact X_z1 rfl dX9_isIn_15
set_option maxRecDepth 100000 in
theorem kC_X9_isIn : g_okC M_X9_isIn 3 := And.intro (g_t (i := 705) rfl (by decide +kernel)) (And.intro (g_nd nd_10_ok (k := 19) rfl) (And.intro (by decide) (And.intro (by decide) (by decide +kernel))))
def M_X9_told : gM := (yX9_told, cX9_told, 8, some .long, 1, 22)
def l_X9_told_51 (u0 : Nat) (u1 : Int32) (u2 : Int32) (u3 : Int32) : Nat → gS → Int64 → Int32 → (gS → Int64 → Int32 → Option (Int64 × gS)) → Option (Int64 × gS)
  | 0, _, _, _, _ => none
  | n + 1, S, u4, u6, K1 =>
    if u2 ≤ u6 then (
    K1 S u4 u6)
    else (
    g_getR S 9 2 u0 fun a8 =>
    g_ldI S 10 a8 (((24 : Int32) * u1) + u6) fun x9 =>
    g_lt (x9 - (48 : Int32)) fun x10 =>
    g_cI (f_X9_isIn S x10 (0 : Int32) (9 : Int32)) fun x12 S11 =>
    if x12 = 0 then (
    some ((0 : Int64), S11))
    else (
    g_lt (((10 : Int64) * u4) + (x10).toInt64) fun x13 =>
    l_X9_told_51 u0 u1 u2 u3 n S11 x13 (u6 + (1 : Int32)) K1))
def f_X9_told (S : gS) (a0 : Nat) (p1 : Int32) : Option (Int64 × gS) :=
g_getR S 9 1 a0 fun a1 =>
g_ldI S 10 a1 p1 fun x2 =>
g_jn (fun (S3 : gS) (w4 : Int32) => (
g_cI (f_X9_isIn S3 (x2 - w4) (1 : Int32) (18 : Int32)) fun x7 S6 =>
if x7 = 0 then (
some ((0 : Int64), S6))
else (
l_X9_told_51 a0 p1 x2 w4 100 S6 (0 : Int64) w4 (fun S14 v15 v16 => (
if w4 = (1 : Int32) then (
some ((-v15), S14))
else (
some (v15, S14))))))) fun jb5 => (
g_jn (fun (S17 : gS) => (
jb5 S17 (0 : Int32))) fun jb18 => (
if x2 ≤ 0 then (
jb18 S)
else (
g_getR S 9 2 a0 fun a19 =>
g_ldI S 10 a19 ((24 : Int32) * p1) fun x20 =>
if x20 = (45 : Int32) then (
jb5 S (1 : Int32))
else (
jb18 S))))
set_option maxRecDepth 100000 in
set_option maxHeartbeats 4000000 in
theorem j_X9_told_51 (E : gE) {n0 s0 : Nat} (u0 : Nat) (u1 : Int32) (u2 : Int32) (u3 : Int32) : ∀ (n : Nat) (S : gS) (u4 : Int64) (u6 : Int32) (K1 : (gS → Int64 → Int32 → Option (Int64 × gS))), (∀ (S : gS) (u4 : Int64) (u6 : Int32), gJ gL E M_X9_told n0 s0 105 [(0, .ref u0), (1, .int u1), (2, .int u2), (3, .int u3), (4, .long u4), (6, .int u6)] [] S (K1 S u4 u6)) → gJ gL E M_X9_told n0 s0 51 [(0, .ref u0), (1, .int u1), (2, .int u2), (3, .int u3), (4, .long u4), (6, .int u6)] [] S (l_X9_told_51 u0 u1 u2 u3 n S u4 u6 K1) := by
  intro n
  induction n with
  | zero =>
    intros
    rw [l_X9_told_51]
    exact gJ.none
  | succ n ih =>
    intro S u4 u6 K1 hK1
    rw [l_X9_told_51]
    refine X_iload 5 dX9_told_51 rfl ?_
    refine X_iload_n 2 dX9_told_53 rfl rfl ?_
    refine X_icmp_ge (tgt := 105) dX9_told_54 (by decide) ?_ ?_
    · skip
      exact (hK1 _ _ _)
    · skip
      refine X_aload_n 0 dX9_told_57 rfl rfl ?_
      refine X_getR kF_X9_17 rfl dX9_told_58 (fun a8 => ?_)
      refine X_bipush (v := (24 : Int32)) dX9_told_61 (by decide) ?_
      refine X_iload_n 1 dX9_told_63 rfl rfl ?_
      refine X_imul dX9_told_64 ?_
      refine X_iload 5 dX9_told_65 rfl ?_
      refine X_iadd dX9_told_67 ?_
      refine X_iald dX9_told_68 (fun x9 => ?_)
      refine X_bipush (v := (48 : Int32)) dX9_told_69 (by decide) ?_
      refine X_isub dX9_told_71 ?_
      refine X_topI (fun x10 => ?_)
      refine X_istore (lv2 := [(7, .int x10), (0, .ref u0), (1, .int u1), (2, .int u2), (3, .int u3), (4, .long u4), (6, .int u6)]) dX9_told_72 (by decide) rfl ?_
      refine X_iload 0 dX9_told_74 rfl ?_
      refine X_iconst (v := (0 : Int32)) dX9_told_76 (by decide) ?_
      refine X_bipush (v := (9 : Int32)) dX9_told_77 (by decide) ?_
      refine X_callSI (As := [.int x10, .int (0 : Int32), .int (9 : Int32)]) (st := []) (c_X9_isIn E S x10 (0 : Int32) (9 : Int32)) kC_X9_isIn kL_X9_110 kS_X9_isIn (by unfold g_okR; decide) rfl (Nat.le_of_ble_eq_true rfl) dX9_told_79 (fun x12 S11 => ?_)
      refine X_if_ne (tgt := 87) dX9_told_82 (by decide) ?_ ?_
      · skip
        refine X_lconst (v := (0 : Int64)) dX9_told_85 (by decide) ?_
        exact X_lret rfl dX9_told_86
      · skip
        refine X_ldc2 (v := (10 : Int64)) kK_X9_114 dX9_told_87 ?_
        refine X_lload 5 dX9_told_90 rfl ?_
        refine X_lmul dX9_told_92 ?_
        refine X_iload 0 dX9_told_93 rfl ?_
        refine X_i2l dX9_told_95 ?_
        refine X_ladd dX9_told_96 ?_
        refine X_topL (fun x13 => ?_)
        refine X_lstore (lv2 := [(4, .long x13), (7, .int x10), (0, .ref u0), (1, .int u1), (2, .int u2), (3, .int u3), (6, .int u6)]) dX9_told_97 (by decide) rfl ?_
        refine X_iinc (k := 6) (x := u6) (v := (1 : Int32)) (lv2 := [(6, .int (u6 + (1 : Int32))), (4, .long x13), (7, .int x10), (0, .ref u0), (1, .int u1), (2, .int u2), (3, .int u3)]) dX9_told_99 rfl (by decide) (by decide) rfl ?_
        refine X_goto (tgt := 51) dX9_told_102 (by decide) ?_
        exact X_sub [3, 4, 5, 6, 1, 0] rfl (ih _ _ _ _ hK1)
set_option maxRecDepth 100000 in
set_option maxHeartbeats 4000000 in
theorem c_X9_told (E : gE) (S : gS) (a0 : Nat) (p1 : Int32) : gC gL E M_X9_told [.ref a0, .int p1] S (f_X9_told S a0 p1) := by
  refine gC.of (by decide) (Nat.le_of_ble_eq_true rfl) ?_
  unfold f_X9_told
  show gJ gL E M_X9_told _ _ 0 [(0, .ref a0), (1, .int p1)] [] S _
  refine X_aload_n 0 dX9_told_0 rfl rfl ?_
  refine X_getR kF_X9_13 rfl dX9_told_1 (fun a1 => ?_)
  refine X_iload_n 1 dX9_told_4 rfl rfl ?_
  refine X_iald dX9_told_5 (fun x2 => ?_)
  refine X_istore_n (lv2 := [(2, .int x2), (0, .ref a0), (1, .int p1)]) dX9_told_6 rfl (by decide) rfl ?_
  refine X_iload_n 0 dX9_told_7 rfl rfl ?_
  refine X_jn (fun (j : gS → Int32 → Option (Int64 × gS)) => ∀ (S3 : gS) (w4 : Int32), gJ gL E M_X9_told (gn S) (gsl S) 30 [(0, .ref a0), (1, .int p1), (2, .int x2)] [.int w4] S3 (j S3 w4)) ?_ (fun jb5 hjb5 => ?_)
  · intro S3 w4
    refine X_istore_n (lv2 := [(3, .int w4), (0, .ref a0), (1, .int p1), (2, .int x2)]) dX9_told_30 rfl (by decide) rfl ?_
    refine X_iload_n 3 dX9_told_31 rfl rfl ?_
    refine X_iload_n 0 dX9_told_32 rfl rfl ?_
    refine X_isub dX9_told_33 ?_
    refine X_iconst (v := (1 : Int32)) dX9_told_34 (by decide) ?_
    refine X_bipush (v := (18 : Int32)) dX9_told_35 (by decide) ?_
    refine X_callSI (As := [.int (x2 - w4), .int (1 : Int32), .int (18 : Int32)]) (st := []) (c_X9_isIn E S3 (x2 - w4) (1 : Int32) (18 : Int32)) kC_X9_isIn kL_X9_110 kS_X9_isIn (by unfold g_okR; decide) rfl (Nat.le_of_ble_eq_true rfl) dX9_told_37 (fun x7 S6 => ?_)
    refine X_if_ne (tgt := 45) dX9_told_40 (by decide) ?_ ?_
    · skip
      refine X_lconst (v := (0 : Int64)) dX9_told_43 (by decide) ?_
      exact X_lret rfl dX9_told_44
    · skip
      refine X_lconst (v := (0 : Int64)) dX9_told_45 (by decide) ?_
      refine X_lstore (lv2 := [(4, .long (0 : Int64)), (3, .int w4), (0, .ref a0), (1, .int p1), (2, .int x2)]) dX9_told_46 (by decide) rfl ?_
      refine X_iload_n 1 dX9_told_48 rfl rfl ?_
      refine X_istore (lv2 := [(6, .int w4), (4, .long (0 : Int64)), (3, .int w4), (0, .ref a0), (1, .int p1), (2, .int x2)]) dX9_told_49 (by decide) rfl ?_
      refine X_sub [3, 4, 5, 2, 1, 0] rfl (j_X9_told_51 E a0 p1 x2 w4 100 _ _ _ _ (fun S14 v15 v16 => ?_))
      refine X_iload_n 3 dX9_told_105 rfl rfl ?_
      refine X_iconst (v := (1 : Int32)) dX9_told_106 (by decide) ?_
      refine X_icmp_ne (tgt := 116) dX9_told_107 (by decide) ?_ ?_
      · skip
        refine X_lload 4 dX9_told_110 rfl ?_
        refine X_lneg dX9_told_112 ?_
        refine X_goto (tgt := 118) dX9_told_113 (by decide) ?_
        exact X_lret rfl dX9_told_118
      · skip
        refine X_lload 4 dX9_told_116 rfl ?_
        exact X_lret rfl dX9_told_118
  · skip
    refine X_jn (fun (j : gS → Option (Int64 × gS)) => ∀ (S17 : gS), gJ gL E M_X9_told (gn S) (gsl S) 29 [(0, .ref a0), (1, .int p1), (2, .int x2)] [] S17 (j S17)) ?_ (fun jb18 hjb18 => ?_)
    · intro S17
      refine X_iconst (v := (0 : Int32)) dX9_told_29 (by decide) ?_
      exact (hjb5 _ _)
    · skip
      refine X_if_le (tgt := 29) dX9_told_8 (by decide) ?_ ?_
      · skip
        exact X_sub [1, 2, 0] rfl (hjb18 _)
      · skip
        refine X_aload_n 1 dX9_told_11 rfl rfl ?_
        refine X_getR kF_X9_17 rfl dX9_told_12 (fun a19 => ?_)
        refine X_bipush (v := (24 : Int32)) dX9_told_15 (by decide) ?_
        refine X_iload_n 2 dX9_told_17 rfl rfl ?_
        refine X_imul dX9_told_18 ?_
        refine X_iald dX9_told_19 (fun x20 => ?_)
        refine X_bipush (v := (45 : Int32)) dX9_told_20 (by decide) ?_
        refine X_icmp_ne (tgt := 29) dX9_told_22 (by decide) ?_ ?_
        · skip
          refine X_iconst (v := (1 : Int32)) dX9_told_25 (by decide) ?_
          refine X_goto (tgt := 30) dX9_told_26 (by decide) ?_
          exact X_sub [1, 2, 0] rfl (hjb5 _ _)
        · skip
          exact X_sub [1, 2, 0] rfl (hjb18 _)
set_option maxRecDepth 100000 in
theorem kC_X9_told : g_okC M_X9_told 1 := And.intro (g_t (i := 794) rfl (by decide +kernel)) (And.intro (g_nd nd_10_ok (k := 19) rfl) (And.intro (by decide) (And.intro (by decide) (by decide +kernel))))
def M_X9_become : gM := (yX9_become, cX9_become, 6, none, 2, 49)
def f_X9_become (S : gS) (a0 : Nat) (p1 : Int32) (p2 : Int32) (p3 : Int32) : Option (gS) :=
g_jn (fun (S1 : gS) (w2 : Int64) => (
g_cVV S1 9 a0 (f_X9_clear S1 a0 p1) fun S4 =>
if p3 = (0 : Int32) then (
g_getR S4 9 0 a0 fun a6 =>
g_jn (fun (S7 : gS) (w8 : Int64) (w9 : Int32) (w10 : Nat) => (
g_stL S7 w10 w9 w8 fun S12 =>
some S12)) fun jb11 => (
if (lg_cmp w2 (0 : Int64)) = 0 then (
jb11 S4 (0 : Int64) p1 a6)
else (
jb11 S4 (1 : Int64) p1 a6)))
else (
if p3 = (1 : Int32) then (
g_getR S4 9 0 a0 fun a14 =>
g_cL (f_X9_nearest S4 w2 (-32768 : Int64) (32767 : Int64)) fun x16 S15 =>
g_stL S15 a14 p1 x16 fun S17 =>
some S17)
else (
if p3 = (2 : Int32) then (
g_getR S4 9 0 a0 fun a19 =>
g_cL (f_X9_nearest S4 w2 (-2147483648 : Int64) (2147483647 : Int64)) fun x21 S20 =>
g_stL S20 a19 p1 x21 fun S22 =>
some S22)
else (
if p3 = (3 : Int32) then (
g_getR S4 9 0 a0 fun a24 =>
g_stL S4 a24 p1 w2 fun S25 =>
some S25)
else (
g_cVV S4 9 a0 (f_X9_putDigits S4 a0 p1 w2) fun S26 =>
some S26)))))) fun jb3 => (
if p2 = (4 : Int32) then (
g_cVL S 9 a0 (f_X9_told S a0 p1) fun x28 S27 =>
jb3 S27 x28)
else (
g_getR S 9 0 a0 fun a29 =>
g_ldL S a29 p1 fun x30 =>
jb3 S x30))
set_option maxRecDepth 100000 in
set_option maxHeartbeats 4000000 in
theorem c_X9_become (E : gE) (S : gS) (a0 : Nat) (p1 : Int32) (p2 : Int32) (p3 : Int32) : gC gV E M_X9_become [.ref a0, .int p1, .int p2, .int p3] S (f_X9_become S a0 p1 p2 p3) := by
  refine gC.of (by decide) (Nat.le_of_ble_eq_true rfl) ?_
  unfold f_X9_become
  show gJ gV E M_X9_become _ _ 0 [(0, .ref a0), (1, .int p1), (2, .int p2), (3, .int p3)] [] S _
  refine X_iload_n 2 dX9_become_0 rfl rfl ?_
  refine X_iconst (v := (4 : Int32)) dX9_become_1 (by decide) ?_
  refine X_jn (fun (j : gS → Int64 → Option (gS)) => ∀ (S1 : gS) (w2 : Int64), gJ gV E M_X9_become (gn S) (gsl S) 19 [(0, .ref a0), (1, .int p1), (2, .int p2), (3, .int p3)] [.long w2] S1 (j S1 w2)) ?_ (fun jb3 hjb3 => ?_)
  · intro S1 w2
    refine X_lstore (lv2 := [(4, .long w2), (0, .ref a0), (1, .int p1), (2, .int p2), (3, .int p3)]) dX9_become_19 (by decide) rfl ?_
    refine X_aload_n 1 dX9_become_21 rfl rfl ?_
    refine X_iload_n 2 dX9_become_22 rfl rfl ?_
    refine X_callVV (ci := 9) (As := [.int p1]) (st := []) (c_X9_clear E S1 a0 p1) (by decide) rfl kC_X9_clear kL_X9_101 kI_X9_clear kE_X9_clear (by unfold g_okR; decide) rfl (Nat.le_of_ble_eq_true rfl) dX9_become_23 (fun S4 => ?_)
    refine X_iload_n 4 dX9_become_26 rfl rfl ?_
    by_cases h5 : p3 = (0 : Int32)
    · refine X_eq (if_pos h5) ?_
      refine X_tin (tgt := 56) dX9_become_27 (by rw [h5]; decide) (by rw [h5]; decide) (by rw [h5]; rfl) (by decide) ?_
      refine X_aload_n 1 dX9_become_56 rfl rfl ?_
      refine X_getR kF_X9_7 rfl dX9_become_57 (fun a6 => ?_)
      refine X_iload_n 2 dX9_become_60 rfl rfl ?_
      refine X_lload 0 dX9_become_61 rfl ?_
      refine X_lconst (v := (0 : Int64)) dX9_become_63 (by decide) ?_
      refine X_lcmp dX9_become_64 ?_
      refine X_jn (fun (j : gS → Int64 → Int32 → Nat → Option (gS)) => ∀ (S7 : gS) (w8 : Int64) (w9 : Int32) (w10 : Nat), gJ gV E M_X9_become (gn S) (gsl S) 73 [(0, .ref a0), (1, .int p1), (2, .int p2), (3, .int p3), (4, .long w2)] [.long w8, .int w9, .ref w10] S7 (j S7 w8 w9 w10)) ?_ (fun jb11 hjb11 => ?_)
      · intro S7 w8 w9 w10
        refine X_last dX9_become_73 (fun S12 => ?_)
        refine X_goto (tgt := 135) dX9_become_74 (by decide) ?_
        exact X_vret rfl dX9_become_135
      · skip
        refine X_if_eq (tgt := 72) dX9_become_65 (by decide) ?_ ?_
        · skip
          refine X_lconst (v := (0 : Int64)) dX9_become_72 (by decide) ?_
          exact X_sub [1, 2, 3, 4, 0] rfl (hjb11 _ _ _ _)
        · skip
          refine X_lconst (v := (1 : Int64)) dX9_become_68 (by decide) ?_
          refine X_goto (tgt := 73) dX9_become_69 (by decide) ?_
          exact X_sub [1, 2, 3, 4, 0] rfl (hjb11 _ _ _ _)
    · refine X_eq (if_neg h5) ?_
      by_cases h13 : p3 = (1 : Int32)
      · refine X_eq (if_pos h13) ?_
        refine X_tin (tgt := 77) dX9_become_27 (by rw [h13]; decide) (by rw [h13]; decide) (by rw [h13]; rfl) (by decide) ?_
        refine X_aload_n 1 dX9_become_77 rfl rfl ?_
        refine X_getR kF_X9_7 rfl dX9_become_78 (fun a14 => ?_)
        refine X_iload_n 2 dX9_become_81 rfl rfl ?_
        refine X_lload 0 dX9_become_82 rfl ?_
        refine X_ldc2 (v := (-32768 : Int64)) kK_X9_120 dX9_become_84 ?_
        refine X_ldc2 (v := (32767 : Int64)) kK_X9_122 dX9_become_87 ?_
        refine X_callSL (As := [.long w2, .long (-32768 : Int64), .long (32767 : Int64)]) (st := [.int p1, .ref a14]) (c_X9_nearest E S4 w2 (-32768 : Int64) (32767 : Int64)) kC_X9_nearest kL_X9_124 kS_X9_nearest (by unfold g_okR; decide) rfl (Nat.le_of_ble_eq_true rfl) dX9_become_90 (fun x16 S15 => ?_)
        refine X_last dX9_become_93 (fun S17 => ?_)
        refine X_goto (tgt := 135) dX9_become_94 (by decide) ?_
        exact X_vret rfl dX9_become_135
      · refine X_eq (if_neg h13) ?_
        by_cases h18 : p3 = (2 : Int32)
        · refine X_eq (if_pos h18) ?_
          refine X_tin (tgt := 97) dX9_become_27 (by rw [h18]; decide) (by rw [h18]; decide) (by rw [h18]; rfl) (by decide) ?_
          refine X_aload_n 1 dX9_become_97 rfl rfl ?_
          refine X_getR kF_X9_7 rfl dX9_become_98 (fun a19 => ?_)
          refine X_iload_n 2 dX9_become_101 rfl rfl ?_
          refine X_lload 0 dX9_become_102 rfl ?_
          refine X_ldc2 (v := (-2147483648 : Int64)) kK_X9_128 dX9_become_104 ?_
          refine X_ldc2 (v := (2147483647 : Int64)) kK_X9_130 dX9_become_107 ?_
          refine X_callSL (As := [.long w2, .long (-2147483648 : Int64), .long (2147483647 : Int64)]) (st := [.int p1, .ref a19]) (c_X9_nearest E S4 w2 (-2147483648 : Int64) (2147483647 : Int64)) kC_X9_nearest kL_X9_124 kS_X9_nearest (by unfold g_okR; decide) rfl (Nat.le_of_ble_eq_true rfl) dX9_become_110 (fun x21 S20 => ?_)
          refine X_last dX9_become_113 (fun S22 => ?_)
          refine X_goto (tgt := 135) dX9_become_114 (by decide) ?_
          exact X_vret rfl dX9_become_135
        · refine X_eq (if_neg h18) ?_
          by_cases h23 : p3 = (3 : Int32)
          · refine X_eq (if_pos h23) ?_
            refine X_tin (tgt := 117) dX9_become_27 (by rw [h23]; decide) (by rw [h23]; decide) (by rw [h23]; rfl) (by decide) ?_
            refine X_aload_n 1 dX9_become_117 rfl rfl ?_
            refine X_getR kF_X9_7 rfl dX9_become_118 (fun a24 => ?_)
            refine X_iload_n 2 dX9_become_121 rfl rfl ?_
            refine X_lload 0 dX9_become_122 rfl ?_
            refine X_last dX9_become_124 (fun S25 => ?_)
            refine X_goto (tgt := 135) dX9_become_125 (by decide) ?_
            exact X_vret rfl dX9_become_135
          · refine X_eq (if_neg h23) ?_
            have eh5 : (p3).toInt ≠ 0 := fun q => h5 ((g_i32 q).trans (by decide))
            have eh13 : (p3).toInt ≠ 1 := fun q => h13 ((g_i32 q).trans (by decide))
            have eh18 : (p3).toInt ≠ 2 := fun q => h18 ((g_i32 q).trans (by decide))
            have eh23 : (p3).toInt ≠ 3 := fun q => h23 ((g_i32 q).trans (by decide))
            refine X_tout (tgt := 128) dX9_become_27 (by omega) (by decide) ?_
            refine X_aload_n 1 dX9_become_128 rfl rfl ?_
            refine X_iload_n 2 dX9_become_129 rfl rfl ?_
            refine X_lload 0 dX9_become_130 rfl ?_
            refine X_callVV (ci := 9) (As := [.int p1, .long w2]) (st := []) (c_X9_putDigits E S4 a0 p1 w2) (by decide) rfl kC_X9_putDigits kL_X9_132 kI_X9_putDigits kE_X9_putDigits (by unfold g_okR; decide) rfl (Nat.le_of_ble_eq_true rfl) dX9_become_132 (fun S26 => ?_)
            exact X_vret rfl dX9_become_135
  · skip
    refine X_icmp_ne (tgt := 13) dX9_become_2 (by decide) ?_ ?_
    · skip
      refine X_aload_n 0 dX9_become_5 rfl rfl ?_
      refine X_iload_n 1 dX9_become_6 rfl rfl ?_
      refine X_callVL (ci := 9) (As := [.int p1]) (st := []) (c_X9_told E S a0 p1) (by decide) rfl kC_X9_told kL_X9_116 kI_X9_told kE_X9_told (by unfold g_okR; decide) rfl (Nat.le_of_ble_eq_true rfl) dX9_become_7 (fun x28 S27 => ?_)
      refine X_goto (tgt := 19) dX9_become_10 (by decide) ?_
      exact (hjb3 _ _)
    · skip
      refine X_aload_n 0 dX9_become_13 rfl rfl ?_
      refine X_getR kF_X9_7 rfl dX9_become_14 (fun a29 => ?_)
      refine X_iload_n 1 dX9_become_17 rfl rfl ?_
      refine X_lald dX9_become_18 (fun x30 => ?_)
      exact (hjb3 _ _)
set_option maxRecDepth 100000 in
theorem kC_X9_become : g_okC M_X9_become 3 := And.intro (g_t (i := 790) rfl (by decide +kernel)) (And.intro (g_nd nd_10_ok (k := 19) rfl) (And.intro (by decide) (And.intro (by decide) (by decide +kernel))))
def M_X9_copy : gM := (yX9_copy, cX9_copy, 4, none, 0, 0)
def l_X9_copy_26 (u0 : Nat) (u1 : Int32) (u2 : Int32) : Nat → gS → Int32 → Option (gS)
  | 0, _, _ => none
  | n + 1, S, u3 =>
    if (24 : Int32) ≤ u3 then (
    some S)
    else (
    g_getR S 9 2 u0 fun a9 =>
    g_getR S 9 2 u0 fun a10 =>
    g_ldI S 10 a10 (((24 : Int32) * u1) + u3) fun x11 =>
    g_stI S a9 (((24 : Int32) * u2) + u3) x11 fun S12 =>
    l_X9_copy_26 u0 u1 u2 n S12 (u3 + (1 : Int32)) )
def f_X9_copy (S : gS) (a0 : Nat) (p1 : Int32) (p2 : Int32) : Option (gS) :=
g_getR S 9 0 a0 fun a1 =>
g_getR S 9 0 a0 fun a2 =>
g_ldL S a2 p1 fun x3 =>
g_stL S a1 p2 x3 fun S4 =>
g_getR S4 9 1 a0 fun a5 =>
g_getR S4 9 1 a0 fun a6 =>
g_ldI S4 10 a6 p1 fun x7 =>
g_stI S4 a5 p2 x7 fun S8 =>
l_X9_copy_26 a0 p1 p2 100 S8 (0 : Int32) 
set_option maxRecDepth 100000 in
set_option maxHeartbeats 4000000 in
theorem j_X9_copy_26 (E : gE) {n0 s0 : Nat} (u0 : Nat) (u1 : Int32) (u2 : Int32) : ∀ (n : Nat) (S : gS) (u3 : Int32), gJ gV E M_X9_copy n0 s0 26 [(0, .ref u0), (1, .int u1), (2, .int u2), (3, .int u3)] [] S (l_X9_copy_26 u0 u1 u2 n S u3 ) := by
  intro n
  induction n with
  | zero =>
    intros
    rw [l_X9_copy_26]
    exact gJ.none
  | succ n ih =>
    intro S u3  
    rw [l_X9_copy_26]
    refine X_iload_n 3 dX9_copy_26 rfl rfl ?_
    refine X_bipush (v := (24 : Int32)) dX9_copy_27 (by decide) ?_
    refine X_icmp_ge (tgt := 60) dX9_copy_29 (by decide) ?_ ?_
    · skip
      exact X_vret rfl dX9_copy_60
    · skip
      refine X_aload_n 0 dX9_copy_32 rfl rfl ?_
      refine X_getR kF_X9_17 rfl dX9_copy_33 (fun a9 => ?_)
      refine X_bipush (v := (24 : Int32)) dX9_copy_36 (by decide) ?_
      refine X_iload_n 2 dX9_copy_38 rfl rfl ?_
      refine X_imul dX9_copy_39 ?_
      refine X_iload_n 3 dX9_copy_40 rfl rfl ?_
      refine X_iadd dX9_copy_41 ?_
      refine X_aload_n 0 dX9_copy_42 rfl rfl ?_
      refine X_getR kF_X9_17 rfl dX9_copy_43 (fun a10 => ?_)
      refine X_bipush (v := (24 : Int32)) dX9_copy_46 (by decide) ?_
      refine X_iload_n 1 dX9_copy_48 rfl rfl ?_
      refine X_imul dX9_copy_49 ?_
      refine X_iload_n 3 dX9_copy_50 rfl rfl ?_
      refine X_iadd dX9_copy_51 ?_
      refine X_iald dX9_copy_52 (fun x11 => ?_)
      refine X_iast dX9_copy_53 (fun S12 => ?_)
      refine X_iinc (k := 3) (x := u3) (v := (1 : Int32)) (lv2 := [(3, .int (u3 + (1 : Int32))), (0, .ref u0), (1, .int u1), (2, .int u2)]) dX9_copy_54 rfl (by decide) (by decide) rfl ?_
      refine X_goto (tgt := 26) dX9_copy_57 (by decide) ?_
      exact X_sub [1, 2, 3, 0] rfl (ih _ _)
set_option maxRecDepth 100000 in
set_option maxHeartbeats 4000000 in
theorem c_X9_copy (E : gE) (S : gS) (a0 : Nat) (p1 : Int32) (p2 : Int32) : gC gV E M_X9_copy [.ref a0, .int p1, .int p2] S (f_X9_copy S a0 p1 p2) := by
  refine gC.of (by decide) (Nat.le_of_ble_eq_true rfl) ?_
  unfold f_X9_copy
  show gJ gV E M_X9_copy _ _ 0 [(0, .ref a0), (1, .int p1), (2, .int p2)] [] S _
  refine X_aload_n 0 dX9_copy_0 rfl rfl ?_
  refine X_getR kF_X9_7 rfl dX9_copy_1 (fun a1 => ?_)
  refine X_iload_n 2 dX9_copy_4 rfl rfl ?_
  refine X_aload_n 0 dX9_copy_5 rfl rfl ?_
  refine X_getR kF_X9_7 rfl dX9_copy_6 (fun a2 => ?_)
  refine X_iload_n 1 dX9_copy_9 rfl rfl ?_
  refine X_lald dX9_copy_10 (fun x3 => ?_)
  refine X_last dX9_copy_11 (fun S4 => ?_)
  refine X_aload_n 0 dX9_copy_12 rfl rfl ?_
  refine X_getR kF_X9_13 rfl dX9_copy_13 (fun a5 => ?_)
  refine X_iload_n 2 dX9_copy_16 rfl rfl ?_
  refine X_aload_n 0 dX9_copy_17 rfl rfl ?_
  refine X_getR kF_X9_13 rfl dX9_copy_18 (fun a6 => ?_)
  refine X_iload_n 1 dX9_copy_21 rfl rfl ?_
  refine X_iald dX9_copy_22 (fun x7 => ?_)
  refine X_iast dX9_copy_23 (fun S8 => ?_)
  refine X_iconst (v := (0 : Int32)) dX9_copy_24 (by decide) ?_
  refine X_istore_n (lv2 := [(3, .int (0 : Int32)), (0, .ref a0), (1, .int p1), (2, .int p2)]) dX9_copy_25 rfl (by decide) rfl ?_
  exact X_sub [1, 2, 3, 0] rfl (j_X9_copy_26 E a0 p1 p2 100 _ _)
set_option maxRecDepth 100000 in
theorem kC_X9_copy : g_okC M_X9_copy 2 := And.intro (g_t (i := 786) rfl (by decide +kernel)) (And.intro (g_nd nd_10_ok (k := 19) rfl) (And.intro (by decide) (And.intro (by decide) (by decide +kernel))))
def M_X9_copyForm : gM := (yX9_copyForm, cX9_copyForm, 4, none, 1, 23)
def l_X9_copyForm_2 (u0 : Nat) (u1 : Int32) (u2 : Int32) : Nat → gS → Int32 → Option (gS)
  | 0, _, _ => none
  | n + 1, S, u3 =>
    if (8 : Int32) ≤ u3 then (
    some S)
    else (
    g_cVV S 9 u0 (f_X9_copy S u0 (u1 + u3) (u2 + u3)) fun S1 =>
    l_X9_copyForm_2 u0 u1 u2 n S1 (u3 + (1 : Int32)) )
def f_X9_copyForm (S : gS) (a0 : Nat) (p1 : Int32) (p2 : Int32) : Option (gS) :=
l_X9_copyForm_2 a0 p1 p2 100 S (0 : Int32) 
set_option maxRecDepth 100000 in
set_option maxHeartbeats 4000000 in
theorem j_X9_copyForm_2 (E : gE) {n0 s0 : Nat} (u0 : Nat) (u1 : Int32) (u2 : Int32) : ∀ (n : Nat) (S : gS) (u3 : Int32), gJ gV E M_X9_copyForm n0 s0 2 [(0, .ref u0), (1, .int u1), (2, .int u2), (3, .int u3)] [] S (l_X9_copyForm_2 u0 u1 u2 n S u3 ) := by
  intro n
  induction n with
  | zero =>
    intros
    rw [l_X9_copyForm_2]
    exact gJ.none
  | succ n ih =>
    intro S u3  
    rw [l_X9_copyForm_2]
    refine X_iload_n 3 dX9_copyForm_2 rfl rfl ?_
    refine X_bipush (v := (8 : Int32)) dX9_copyForm_3 (by decide) ?_
    refine X_icmp_ge (tgt := 24) dX9_copyForm_5 (by decide) ?_ ?_
    · skip
      exact X_vret rfl dX9_copyForm_24
    · skip
      refine X_aload_n 0 dX9_copyForm_8 rfl rfl ?_
      refine X_iload_n 1 dX9_copyForm_9 rfl rfl ?_
      refine X_iload_n 3 dX9_copyForm_10 rfl rfl ?_
      refine X_iadd dX9_copyForm_11 ?_
      refine X_iload_n 2 dX9_copyForm_12 rfl rfl ?_
      refine X_iload_n 3 dX9_copyForm_13 rfl rfl ?_
      refine X_iadd dX9_copyForm_14 ?_
      refine X_callVV (ci := 9) (As := [.int (u1 + u3), .int (u2 + u3)]) (st := []) (c_X9_copy E S u0 (u1 + u3) (u2 + u3)) (by decide) rfl kC_X9_copy kL_X9_97 kI_X9_copy kE_X9_copy (by unfold g_okR; decide) rfl (Nat.le_of_ble_eq_true rfl) dX9_copyForm_15 (fun S1 => ?_)
      refine X_iinc (k := 3) (x := u3) (v := (1 : Int32)) (lv2 := [(3, .int (u3 + (1 : Int32))), (0, .ref u0), (1, .int u1), (2, .int u2)]) dX9_copyForm_18 rfl (by decide) (by decide) rfl ?_
      refine X_goto (tgt := 2) dX9_copyForm_21 (by decide) ?_
      exact X_sub [1, 2, 3, 0] rfl (ih _ _)
set_option maxRecDepth 100000 in
set_option maxHeartbeats 4000000 in
theorem c_X9_copyForm (E : gE) (S : gS) (a0 : Nat) (p1 : Int32) (p2 : Int32) : gC gV E M_X9_copyForm [.ref a0, .int p1, .int p2] S (f_X9_copyForm S a0 p1 p2) := by
  refine gC.of (by decide) (Nat.le_of_ble_eq_true rfl) ?_
  unfold f_X9_copyForm
  show gJ gV E M_X9_copyForm _ _ 0 [(0, .ref a0), (1, .int p1), (2, .int p2)] [] S _
  refine X_iconst (v := (0 : Int32)) dX9_copyForm_0 (by decide) ?_
  refine X_istore_n (lv2 := [(3, .int (0 : Int32)), (0, .ref a0), (1, .int p1), (2, .int p2)]) dX9_copyForm_1 rfl (by decide) rfl ?_
  exact X_sub [1, 2, 3, 0] rfl (j_X9_copyForm_2 E a0 p1 p2 100 _ _)
set_option maxRecDepth 100000 in
theorem kC_X9_copyForm : g_okC M_X9_copyForm 2 := And.intro (g_t (i := 814) rfl (by decide +kernel)) (And.intro (g_nd nd_10_ok (k := 19) rfl) (And.intro (by decide) (And.intro (by decide) (by decide +kernel))))
def M_X9_tell : gM := (yX9_tell, cX9_tell, 8, none, 1, 22)
def l_X9_tell_107 (u0 : Nat) (u1 : Int32) (u2 : Int32) (u3 : Int32) (u4 : Int32) (u5 : Int64) : Nat → gS → Int32 → Option (gS)
  | 0, _, _ => none
  | n + 1, S, u7 =>
    if u7 < 0 then (
    some S)
    else (
    g_cVV S 9 u0 (f_X9_addChar S u0 u1 (((u5 >>> ((u7).toInt64 &&& 63))).toInt32 &&& (255 : Int32))) fun S15 =>
    l_X9_tell_107 u0 u1 u2 u3 u4 u5 n S15 (u7 + (-8 : Int32)) )
def f_X9_tell (S : gS) (a0 : Nat) (p1 : Int32) (p2 : Int32) (p3 : Int32) (p4 : Int32) : Option (gS) :=
g_cVV S 9 a0 (f_X9_clear S a0 p1) fun S1 =>
g_lt (((p3).toInt64 <<< (((32 : Int32)).toInt64 &&& 63)) ||| ((p4).toInt64 &&& (4294967295 : Int64))) fun x2 =>
if p2 = (0 : Int32) then (
g_getR S1 9 0 a0 fun a4 =>
g_stL S1 a4 p1 (x2 &&& (1 : Int64)) fun S5 =>
some S5)
else (
if p2 = (1 : Int32) then (
g_getR S1 9 0 a0 fun a7 =>
g_stL S1 a7 p1 (((x2).toInt32).toInt16.toInt32).toInt64 fun S8 =>
some S8)
else (
if p2 = (2 : Int32) then (
g_getR S1 9 0 a0 fun a10 =>
g_stL S1 a10 p1 ((x2).toInt32).toInt64 fun S11 =>
some S11)
else (
if p2 = (3 : Int32) then (
g_getR S1 9 0 a0 fun a13 =>
g_stL S1 a13 p1 x2 fun S14 =>
some S14)
else (
l_X9_tell_107 a0 p1 p2 p3 p4 x2 100 S1 (56 : Int32) ))))
set_option maxRecDepth 100000 in
set_option maxHeartbeats 4000000 in
theorem j_X9_tell_107 (E : gE) {n0 s0 : Nat} (u0 : Nat) (u1 : Int32) (u2 : Int32) (u3 : Int32) (u4 : Int32) (u5 : Int64) : ∀ (n : Nat) (S : gS) (u7 : Int32), gJ gV E M_X9_tell n0 s0 107 [(0, .ref u0), (1, .int u1), (2, .int u2), (3, .int u3), (4, .int u4), (5, .long u5), (7, .int u7)] [] S (l_X9_tell_107 u0 u1 u2 u3 u4 u5 n S u7 ) := by
  intro n
  induction n with
  | zero =>
    intros
    rw [l_X9_tell_107]
    exact gJ.none
  | succ n ih =>
    intro S u7  
    rw [l_X9_tell_107]
    refine X_iload 6 dX9_tell_107 rfl ?_
    refine X_if_lt (tgt := 133) dX9_tell_109 (by decide) ?_ ?_
    · skip
      exact X_vret rfl dX9_tell_133
    · skip
      refine X_aload_n 0 dX9_tell_112 rfl rfl ?_
      refine X_iload_n 1 dX9_tell_113 rfl rfl ?_
      refine X_lload 5 dX9_tell_114 rfl ?_
      refine X_iload 6 dX9_tell_116 rfl ?_
      refine X_lshr dX9_tell_118 ?_
      refine X_l2i dX9_tell_119 ?_
      refine X_sipush (v := (255 : Int32)) dX9_tell_120 (by decide) ?_
      refine X_iand dX9_tell_123 ?_
      refine X_callVV (ci := 9) (As := [.int u1, .int (((u5 >>> ((u7).toInt64 &&& 63))).toInt32 &&& (255 : Int32))]) (st := []) (c_X9_addChar E S u0 u1 (((u5 >>> ((u7).toInt64 &&& 63))).toInt32 &&& (255 : Int32))) (by decide) rfl kC_X9_addChar kL_X9_107 kI_X9_addChar kE_X9_addChar (by unfold g_okR; decide) rfl (Nat.le_of_ble_eq_true rfl) dX9_tell_124 (fun S15 => ?_)
      refine X_iinc (k := 6) (x := u7) (v := (-8 : Int32)) (lv2 := [(7, .int (u7 + (-8 : Int32))), (0, .ref u0), (1, .int u1), (2, .int u2), (3, .int u3), (4, .int u4), (5, .long u5)]) dX9_tell_127 rfl (by decide) (by decide) rfl ?_
      refine X_goto (tgt := 107) dX9_tell_130 (by decide) ?_
      exact X_sub [1, 2, 3, 4, 5, 6, 0] rfl (ih _ _)
set_option maxRecDepth 100000 in
set_option maxHeartbeats 4000000 in
theorem c_X9_tell (E : gE) (S : gS) (a0 : Nat) (p1 : Int32) (p2 : Int32) (p3 : Int32) (p4 : Int32) : gC gV E M_X9_tell [.ref a0, .int p1, .int p2, .int p3, .int p4] S (f_X9_tell S a0 p1 p2 p3 p4) := by
  refine gC.of (by decide) (Nat.le_of_ble_eq_true rfl) ?_
  unfold f_X9_tell
  show gJ gV E M_X9_tell _ _ 0 [(0, .ref a0), (1, .int p1), (2, .int p2), (3, .int p3), (4, .int p4)] [] S _
  refine X_aload_n 0 dX9_tell_0 rfl rfl ?_
  refine X_iload_n 1 dX9_tell_1 rfl rfl ?_
  refine X_callVV (ci := 9) (As := [.int p1]) (st := []) (c_X9_clear E S a0 p1) (by decide) rfl kC_X9_clear kL_X9_101 kI_X9_clear kE_X9_clear (by unfold g_okR; decide) rfl (Nat.le_of_ble_eq_true rfl) dX9_tell_2 (fun S1 => ?_)
  refine X_iload_n 3 dX9_tell_5 rfl rfl ?_
  refine X_i2l dX9_tell_6 ?_
  refine X_bipush (v := (32 : Int32)) dX9_tell_7 (by decide) ?_
  refine X_lshl dX9_tell_9 ?_
  refine X_iload 4 dX9_tell_10 rfl ?_
  refine X_i2l dX9_tell_12 ?_
  refine X_ldc2 (v := (4294967295 : Int64)) kK_X9_105 dX9_tell_13 ?_
  refine X_land dX9_tell_16 ?_
  refine X_lor dX9_tell_17 ?_
  refine X_topL (fun x2 => ?_)
  refine X_lstore (lv2 := [(5, .long x2), (0, .ref a0), (1, .int p1), (2, .int p2), (3, .int p3), (4, .int p4)]) dX9_tell_18 (by decide) rfl ?_
  refine X_iload_n 3 dX9_tell_20 rfl rfl ?_
  by_cases h3 : p2 = (0 : Int32)
  · refine X_eq (if_pos h3) ?_
    refine X_tin (tgt := 52) dX9_tell_21 (by rw [h3]; decide) (by rw [h3]; decide) (by rw [h3]; rfl) (by decide) ?_
    refine X_aload_n 1 dX9_tell_52 rfl rfl ?_
    refine X_getR kF_X9_7 rfl dX9_tell_53 (fun a4 => ?_)
    refine X_iload_n 2 dX9_tell_56 rfl rfl ?_
    refine X_lload 0 dX9_tell_57 rfl ?_
    refine X_lconst (v := (1 : Int64)) dX9_tell_59 (by decide) ?_
    refine X_land dX9_tell_60 ?_
    refine X_last dX9_tell_61 (fun S5 => ?_)
    refine X_goto (tgt := 133) dX9_tell_62 (by decide) ?_
    exact X_vret rfl dX9_tell_133
  · refine X_eq (if_neg h3) ?_
    by_cases h6 : p2 = (1 : Int32)
    · refine X_eq (if_pos h6) ?_
      refine X_tin (tgt := 65) dX9_tell_21 (by rw [h6]; decide) (by rw [h6]; decide) (by rw [h6]; rfl) (by decide) ?_
      refine X_aload_n 1 dX9_tell_65 rfl rfl ?_
      refine X_getR kF_X9_7 rfl dX9_tell_66 (fun a7 => ?_)
      refine X_iload_n 2 dX9_tell_69 rfl rfl ?_
      refine X_lload 0 dX9_tell_70 rfl ?_
      refine X_l2i dX9_tell_72 ?_
      refine X_i2s dX9_tell_73 ?_
      refine X_i2l dX9_tell_74 ?_
      refine X_last dX9_tell_75 (fun S8 => ?_)
      refine X_goto (tgt := 133) dX9_tell_76 (by decide) ?_
      exact X_vret rfl dX9_tell_133
    · refine X_eq (if_neg h6) ?_
      by_cases h9 : p2 = (2 : Int32)
      · refine X_eq (if_pos h9) ?_
        refine X_tin (tgt := 79) dX9_tell_21 (by rw [h9]; decide) (by rw [h9]; decide) (by rw [h9]; rfl) (by decide) ?_
        refine X_aload_n 1 dX9_tell_79 rfl rfl ?_
        refine X_getR kF_X9_7 rfl dX9_tell_80 (fun a10 => ?_)
        refine X_iload_n 2 dX9_tell_83 rfl rfl ?_
        refine X_lload 0 dX9_tell_84 rfl ?_
        refine X_l2i dX9_tell_86 ?_
        refine X_i2l dX9_tell_87 ?_
        refine X_last dX9_tell_88 (fun S11 => ?_)
        refine X_goto (tgt := 133) dX9_tell_89 (by decide) ?_
        exact X_vret rfl dX9_tell_133
      · refine X_eq (if_neg h9) ?_
        by_cases h12 : p2 = (3 : Int32)
        · refine X_eq (if_pos h12) ?_
          refine X_tin (tgt := 92) dX9_tell_21 (by rw [h12]; decide) (by rw [h12]; decide) (by rw [h12]; rfl) (by decide) ?_
          refine X_aload_n 1 dX9_tell_92 rfl rfl ?_
          refine X_getR kF_X9_7 rfl dX9_tell_93 (fun a13 => ?_)
          refine X_iload_n 2 dX9_tell_96 rfl rfl ?_
          refine X_lload 0 dX9_tell_97 rfl ?_
          refine X_last dX9_tell_99 (fun S14 => ?_)
          refine X_goto (tgt := 133) dX9_tell_100 (by decide) ?_
          exact X_vret rfl dX9_tell_133
        · refine X_eq (if_neg h12) ?_
          have eh3 : (p2).toInt ≠ 0 := fun q => h3 ((g_i32 q).trans (by decide))
          have eh6 : (p2).toInt ≠ 1 := fun q => h6 ((g_i32 q).trans (by decide))
          have eh9 : (p2).toInt ≠ 2 := fun q => h9 ((g_i32 q).trans (by decide))
          have eh12 : (p2).toInt ≠ 3 := fun q => h12 ((g_i32 q).trans (by decide))
          refine X_tout (tgt := 103) dX9_tell_21 (by omega) (by decide) ?_
          refine X_bipush (v := (56 : Int32)) dX9_tell_103 (by decide) ?_
          refine X_istore (lv2 := [(7, .int (56 : Int32)), (5, .long x2), (0, .ref a0), (1, .int p1), (2, .int p2), (3, .int p3), (4, .int p4)]) dX9_tell_105 (by decide) rfl ?_
          exact X_sub [2, 3, 4, 5, 6, 1, 0] rfl (j_X9_tell_107 E a0 p1 p2 p3 p4 x2 100 _ _)
set_option maxRecDepth 100000 in
theorem kC_X9_tell : g_okC M_X9_tell 4 := And.intro (g_t (i := 721) rfl (by decide +kernel)) (And.intro (g_nd nd_10_ok (k := 19) rfl) (And.intro (by decide) (And.intro (by decide) (by decide +kernel))))
def M_X9_up : gM := (yX9_up, cX9_up, 6, none, 3, 74)
def l_X9_up_113 (u0 : Nat) (u1 : Int32) (u2 : Int32) (u3 : Int32) (u4 : Int32) : Nat → gS → Int32 → (gS → Int32 → Option (gS)) → Option (gS)
  | 0, _, _, _ => none
  | n + 1, S, u5, K1 =>
    g_getR S 9 13 u0 fun a24 =>
    g_ldI S 10 a24 (2 : Int32) fun x25 =>
    if x25 ≤ (u5 + (1 : Int32)) then (
    K1 S u5)
    else (
    g_cVV S 9 u0 (f_X9_copy S u0 ((u2 + u5) + (1 : Int32)) (u2 + u5)) fun S26 =>
    l_X9_up_113 u0 u1 u2 u3 u4 n S26 (u5 + (1 : Int32)) K1)
def l_X9_up_15 (u0 : Nat) (u1 : Int32) (u2 : Int32) : Nat → gS → Int32 → Option (gS)
  | 0, _, _ => none
  | n + 1, S, u3 =>
    g_getI S 9 22 u0 fun x3 =>
    if ((6 : Int32) + x3) ≤ u3 then (
    some S)
    else (
    g_getR S 9 17 u0 fun a4 =>
    g_ldI S 10 a4 u3 fun x5 =>
    g_cVI S 9 u0 (f_X9_place S u0 x5) fun x7 S6 =>
    g_getR S6 9 16 u0 fun a8 =>
    g_ldI S6 10 a8 u3 fun x9 =>
    g_jn (fun (S10 : gS) => (
    g_cVV S10 9 u0 (f_X9_step S10 u0 u3) fun S12 =>
    l_X9_up_15 u0 u1 u2 n S12 (u3 + (1 : Int32)) )) fun jb11 => (
    if x9 = (0 : Int32) then (
    g_getR S6 9 13 u0 fun a14 =>
    g_ldI S6 10 a14 (2 : Int32) fun x15 =>
    g_getR S6 9 18 u0 fun a16 =>
    g_ldI S6 10 a16 u3 fun x17 =>
    g_getR S6 9 19 u0 fun a18 =>
    g_ldI S6 10 a18 u3 fun x19 =>
    g_getR S6 9 20 u0 fun a20 =>
    g_ldI S6 10 a20 u3 fun x21 =>
    g_cVV S6 9 u0 (f_X9_tell S6 u0 (u2 + x15) x17 x19 x21) fun S22 =>
    jb11 S22)
    else (
    if x9 = (1 : Int32) then (
    l_X9_up_113 u0 u1 u2 u3 x7 100 S6 x7 (fun S27 v28 => (
    jb11 S27)))
    else (
    if x9 = (2 : Int32) then (
    jb11 S6)
    else (
    if x9 = (3 : Int32) then (
    g_getR S6 9 12 u0 fun a31 =>
    g_ldI S6 10 a31 ((16 : Int32) + x7) fun x32 =>
    g_getR S6 9 18 u0 fun a33 =>
    g_ldI S6 10 a33 u3 fun x34 =>
    g_cVV S6 9 u0 (f_X9_become S6 u0 (u2 + x7) x32 x34) fun S35 =>
    jb11 S35)
    else (
    jb11 S6))))))
def f_X9_up (S : gS) (a0 : Nat) (p1 : Int32) (p2 : Int32) : Option (gS) :=
g_cVV S 9 a0 (f_X9_copyForm S a0 p1 p2) fun S1 =>
g_cVV S1 9 a0 (f_X9_copySchema S1 a0 (0 : Int32) (2 : Int32)) fun S2 =>
l_X9_up_15 a0 p1 p2 100 S2 (6 : Int32) 
set_option maxRecDepth 100000 in
set_option maxHeartbeats 4000000 in
theorem j_X9_up_113 (E : gE) {n0 s0 : Nat} (u0 : Nat) (u1 : Int32) (u2 : Int32) (u3 : Int32) (u4 : Int32) : ∀ (n : Nat) (S : gS) (u5 : Int32) (K1 : (gS → Int32 → Option (gS))), (∀ (S : gS) (u5 : Int32), gJ gV E M_X9_up n0 s0 146 [(0, .ref u0), (1, .int u1), (2, .int u2), (3, .int u3), (4, .int u4), (5, .int u5)] [] S (K1 S u5)) → gJ gV E M_X9_up n0 s0 113 [(0, .ref u0), (1, .int u1), (2, .int u2), (3, .int u3), (4, .int u4), (5, .int u5)] [] S (l_X9_up_113 u0 u1 u2 u3 u4 n S u5 K1) := by
  intro n
  induction n with
  | zero =>
    intros
    rw [l_X9_up_113]
    exact gJ.none
  | succ n ih =>
    intro S u5 K1 hK1
    rw [l_X9_up_113]
    refine X_iload 5 dX9_up_113 rfl ?_
    refine X_iconst (v := (1 : Int32)) dX9_up_115 (by decide) ?_
    refine X_iadd dX9_up_116 ?_
    refine X_aload_n 0 dX9_up_117 rfl rfl ?_
    refine X_getR kF_X9_48 rfl dX9_up_118 (fun a24 => ?_)
    refine X_iconst (v := (2 : Int32)) dX9_up_121 (by decide) ?_
    refine X_iald dX9_up_122 (fun x25 => ?_)
    refine X_icmp_ge (tgt := 146) dX9_up_123 (by decide) ?_ ?_
    · skip
      exact (hK1 _ _)
    · skip
      refine X_aload_n 0 dX9_up_126 rfl rfl ?_
      refine X_iload_n 2 dX9_up_127 rfl rfl ?_
      refine X_iload 5 dX9_up_128 rfl ?_
      refine X_iadd dX9_up_130 ?_
      refine X_iconst (v := (1 : Int32)) dX9_up_131 (by decide) ?_
      refine X_iadd dX9_up_132 ?_
      refine X_iload_n 2 dX9_up_133 rfl rfl ?_
      refine X_iload 5 dX9_up_134 rfl ?_
      refine X_iadd dX9_up_136 ?_
      refine X_callVV (ci := 9) (As := [.int ((u2 + u5) + (1 : Int32)), .int (u2 + u5)]) (st := []) (c_X9_copy E S u0 ((u2 + u5) + (1 : Int32)) (u2 + u5)) (by decide) rfl kC_X9_copy kL_X9_97 kI_X9_copy kE_X9_copy (by unfold g_okR; decide) rfl (Nat.le_of_ble_eq_true rfl) dX9_up_137 (fun S26 => ?_)
      refine X_iinc (k := 5) (x := u5) (v := (1 : Int32)) (lv2 := [(5, .int (u5 + (1 : Int32))), (0, .ref u0), (1, .int u1), (2, .int u2), (3, .int u3), (4, .int u4)]) dX9_up_140 rfl (by decide) (by decide) rfl ?_
      refine X_goto (tgt := 113) dX9_up_143 (by decide) ?_
      exact X_sub [1, 2, 3, 4, 5, 0] rfl (ih _ _ _ hK1)
set_option maxRecDepth 100000 in
set_option maxHeartbeats 4000000 in
theorem j_X9_up_15 (E : gE) {n0 s0 : Nat} (u0 : Nat) (u1 : Int32) (u2 : Int32) : ∀ (n : Nat) (S : gS) (u3 : Int32), gJ gV E M_X9_up n0 s0 15 [(0, .ref u0), (1, .int u1), (2, .int u2), (3, .int u3)] [] S (l_X9_up_15 u0 u1 u2 n S u3 ) := by
  intro n
  induction n with
  | zero =>
    intros
    rw [l_X9_up_15]
    exact gJ.none
  | succ n ih =>
    intro S u3  
    rw [l_X9_up_15]
    refine X_iload_n 3 dX9_up_15 rfl rfl ?_
    refine X_bipush (v := (6 : Int32)) dX9_up_16 (by decide) ?_
    refine X_aload_n 0 dX9_up_18 rfl rfl ?_
    refine X_getI kF_X9_150 rfl dX9_up_19 (fun x3 => ?_)
    refine X_iadd dX9_up_22 ?_
    refine X_icmp_ge (tgt := 187) dX9_up_23 (by decide) ?_ ?_
    · skip
      exact X_vret rfl dX9_up_187
    · skip
      refine X_aload_n 0 dX9_up_26 rfl rfl ?_
      refine X_aload_n 0 dX9_up_27 rfl rfl ?_
      refine X_getR kF_X9_54 rfl dX9_up_28 (fun a4 => ?_)
      refine X_iload_n 3 dX9_up_31 rfl rfl ?_
      refine X_iald dX9_up_32 (fun x5 => ?_)
      refine X_callVI (ci := 9) (As := [.int x5]) (st := []) (c_X9_place E S u0 x5) (by decide) rfl kC_X9_place kL_X9_136 kI_X9_place kE_X9_place (by unfold g_okR; decide) rfl (Nat.le_of_ble_eq_true rfl) dX9_up_33 (fun x7 S6 => ?_)
      refine X_istore (lv2 := [(4, .int x7), (0, .ref u0), (1, .int u1), (2, .int u2), (3, .int u3)]) dX9_up_36 (by decide) rfl ?_
      refine X_aload_n 1 dX9_up_38 rfl rfl ?_
      refine X_getR kF_X9_51 rfl dX9_up_39 (fun a8 => ?_)
      refine X_iload_n 4 dX9_up_42 rfl rfl ?_
      refine X_iald dX9_up_43 (fun x9 => ?_)
      refine X_jn (fun (j : gS → Option (gS)) => ∀ (S10 : gS), gJ gV E M_X9_up n0 s0 176 [(0, .ref u0), (1, .int u1), (2, .int u2), (3, .int u3), (4, .int x7)] [] S10 (j S10)) ?_ (fun jb11 hjb11 => ?_)
      · intro S10
        refine X_aload_n 0 dX9_up_176 rfl rfl ?_
        refine X_iload_n 3 dX9_up_177 rfl rfl ?_
        refine X_callVV (ci := 9) (As := [.int u3]) (st := []) (c_X9_step E S10 u0 u3) (by decide) rfl kC_X9_step kL_X9_161 kI_X9_step kE_X9_step (by unfold g_okR; decide) rfl (Nat.le_of_ble_eq_true rfl) dX9_up_178 (fun S12 => ?_)
        refine X_iinc (k := 3) (x := u3) (v := (1 : Int32)) (lv2 := [(3, .int (u3 + (1 : Int32))), (0, .ref u0), (1, .int u1), (2, .int u2), (4, .int x7)]) dX9_up_181 rfl (by decide) (by decide) rfl ?_
        refine X_goto (tgt := 15) dX9_up_184 (by decide) ?_
        exact X_sub [1, 2, 3, 0] rfl (ih _ _)
      · skip
        by_cases h13 : x9 = (0 : Int32)
        · refine X_eq (if_pos h13) ?_
          refine X_tin (tgt := 76) dX9_up_44 (by rw [h13]; decide) (by rw [h13]; decide) (by rw [h13]; rfl) (by decide) ?_
          refine X_aload_n 1 dX9_up_76 rfl rfl ?_
          refine X_iload_n 3 dX9_up_77 rfl rfl ?_
          refine X_aload_n 1 dX9_up_78 rfl rfl ?_
          refine X_getR kF_X9_48 rfl dX9_up_79 (fun a14 => ?_)
          refine X_iconst (v := (2 : Int32)) dX9_up_82 (by decide) ?_
          refine X_iald dX9_up_83 (fun x15 => ?_)
          refine X_iadd dX9_up_84 ?_
          refine X_aload_n 1 dX9_up_85 rfl rfl ?_
          refine X_getR kF_X9_57 rfl dX9_up_86 (fun a16 => ?_)
          refine X_iload_n 4 dX9_up_89 rfl rfl ?_
          refine X_iald dX9_up_90 (fun x17 => ?_)
          refine X_aload_n 1 dX9_up_91 rfl rfl ?_
          refine X_getR kF_X9_60 rfl dX9_up_92 (fun a18 => ?_)
          refine X_iload_n 4 dX9_up_95 rfl rfl ?_
          refine X_iald dX9_up_96 (fun x19 => ?_)
          refine X_aload_n 1 dX9_up_97 rfl rfl ?_
          refine X_getR kF_X9_63 rfl dX9_up_98 (fun a20 => ?_)
          refine X_iload_n 4 dX9_up_101 rfl rfl ?_
          refine X_iald dX9_up_102 (fun x21 => ?_)
          refine X_callVV (ci := 9) (As := [.int (u2 + x15), .int x17, .int x19, .int x21]) (st := []) (c_X9_tell E S6 u0 (u2 + x15) x17 x19 x21) (by decide) rfl kC_X9_tell kL_X9_153 kI_X9_tell kE_X9_tell (by unfold g_okR; decide) rfl (Nat.le_of_ble_eq_true rfl) dX9_up_103 (fun S22 => ?_)
          refine X_goto (tgt := 176) dX9_up_106 (by decide) ?_
          exact X_sub [1, 2, 3, 4, 0] rfl (hjb11 _)
        · refine X_eq (if_neg h13) ?_
          by_cases h23 : x9 = (1 : Int32)
          · refine X_eq (if_pos h23) ?_
            refine X_tin (tgt := 109) dX9_up_44 (by rw [h23]; decide) (by rw [h23]; decide) (by rw [h23]; rfl) (by decide) ?_
            refine X_iload 0 dX9_up_109 rfl ?_
            refine X_istore (lv2 := [(5, .int x7), (4, .int x7), (0, .ref u0), (1, .int u1), (2, .int u2), (3, .int u3)]) dX9_up_111 (by decide) rfl ?_
            refine X_sub [2, 3, 4, 5, 1, 0] rfl (j_X9_up_113 E u0 u1 u2 u3 x7 100 _ _ _ (fun S27 v28 => ?_))
            refine X_goto (tgt := 176) dX9_up_146 (by decide) ?_
            exact X_sub [0, 1, 2, 3, 4] rfl (hjb11 _)
          · refine X_eq (if_neg h23) ?_
            by_cases h29 : x9 = (2 : Int32)
            · refine X_eq (if_pos h29) ?_
              refine X_tin (tgt := 176) dX9_up_44 (by rw [h29]; decide) (by rw [h29]; decide) (by rw [h29]; rfl) (by decide) ?_
              exact X_sub [1, 2, 3, 4, 0] rfl (hjb11 _)
            · refine X_eq (if_neg h29) ?_
              by_cases h30 : x9 = (3 : Int32)
              · refine X_eq (if_pos h30) ?_
                refine X_tin (tgt := 149) dX9_up_44 (by rw [h30]; decide) (by rw [h30]; decide) (by rw [h30]; rfl) (by decide) ?_
                refine X_aload_n 1 dX9_up_149 rfl rfl ?_
                refine X_iload_n 3 dX9_up_150 rfl rfl ?_
                refine X_iload 0 dX9_up_151 rfl ?_
                refine X_iadd dX9_up_153 ?_
                refine X_aload_n 1 dX9_up_154 rfl rfl ?_
                refine X_getR kF_X9_45 rfl dX9_up_155 (fun a31 => ?_)
                refine X_bipush (v := (16 : Int32)) dX9_up_158 (by decide) ?_
                refine X_iload 0 dX9_up_160 rfl ?_
                refine X_iadd dX9_up_162 ?_
                refine X_iald dX9_up_163 (fun x32 => ?_)
                refine X_aload_n 1 dX9_up_164 rfl rfl ?_
                refine X_getR kF_X9_57 rfl dX9_up_165 (fun a33 => ?_)
                refine X_iload_n 4 dX9_up_168 rfl rfl ?_
                refine X_iald dX9_up_169 (fun x34 => ?_)
                refine X_callVV (ci := 9) (As := [.int (u2 + x7), .int x32, .int x34]) (st := []) (c_X9_become E S6 u0 (u2 + x7) x32 x34) (by decide) rfl kC_X9_become kL_X9_157 kI_X9_become kE_X9_become (by unfold g_okR; decide) rfl (Nat.le_of_ble_eq_true rfl) dX9_up_170 (fun S35 => ?_)
                refine X_goto (tgt := 176) dX9_up_173 (by decide) ?_
                exact X_sub [1, 2, 3, 4, 0] rfl (hjb11 _)
              · refine X_eq (if_neg h30) ?_
                have eh13 : (x9).toInt ≠ 0 := fun q => h13 ((g_i32 q).trans (by decide))
                have eh23 : (x9).toInt ≠ 1 := fun q => h23 ((g_i32 q).trans (by decide))
                have eh29 : (x9).toInt ≠ 2 := fun q => h29 ((g_i32 q).trans (by decide))
                have eh30 : (x9).toInt ≠ 3 := fun q => h30 ((g_i32 q).trans (by decide))
                refine X_tout (tgt := 176) dX9_up_44 (by omega) (by decide) ?_
                exact X_sub [1, 2, 3, 4, 0] rfl (hjb11 _)
set_option maxRecDepth 100000 in
set_option maxHeartbeats 4000000 in
theorem c_X9_up (E : gE) (S : gS) (a0 : Nat) (p1 : Int32) (p2 : Int32) : gC gV E M_X9_up [.ref a0, .int p1, .int p2] S (f_X9_up S a0 p1 p2) := by
  refine gC.of (by decide) (Nat.le_of_ble_eq_true rfl) ?_
  unfold f_X9_up
  show gJ gV E M_X9_up _ _ 0 [(0, .ref a0), (1, .int p1), (2, .int p2)] [] S _
  refine X_aload_n 0 dX9_up_0 rfl rfl ?_
  refine X_iload_n 1 dX9_up_1 rfl rfl ?_
  refine X_iload_n 2 dX9_up_2 rfl rfl ?_
  refine X_callVV (ci := 9) (As := [.int p1, .int p2]) (st := []) (c_X9_copyForm E S a0 p1 p2) (by decide) rfl kC_X9_copyForm kL_X9_144 kI_X9_copyForm kE_X9_copyForm (by unfold g_okR; decide) rfl (Nat.le_of_ble_eq_true rfl) dX9_up_3 (fun S1 => ?_)
  refine X_aload_n 0 dX9_up_6 rfl rfl ?_
  refine X_iconst (v := (0 : Int32)) dX9_up_7 (by decide) ?_
  refine X_iconst (v := (2 : Int32)) dX9_up_8 (by decide) ?_
  refine X_callVV (ci := 9) (As := [.int (0 : Int32), .int (2 : Int32)]) (st := []) (c_X9_copySchema E S1 a0 (0 : Int32) (2 : Int32)) (by decide) rfl kC_X9_copySchema kL_X9_147 kI_X9_copySchema kE_X9_copySchema (by unfold g_okR; decide) rfl (Nat.le_of_ble_eq_true rfl) dX9_up_9 (fun S2 => ?_)
  refine X_bipush (v := (6 : Int32)) dX9_up_12 (by decide) ?_
  refine X_istore_n (lv2 := [(3, .int (6 : Int32)), (0, .ref a0), (1, .int p1), (2, .int p2)]) dX9_up_14 rfl (by decide) rfl ?_
  exact X_sub [1, 2, 3, 0] rfl (j_X9_up_15 E a0 p1 p2 100 _ _)
set_option maxRecDepth 100000 in
theorem kC_X9_up : g_okC M_X9_up 2 := And.intro (g_t (i := 810) rfl (by decide +kernel)) (And.intro (g_nd nd_10_ok (k := 19) rfl) (And.intro (by decide) (And.intro (by decide) (by decide +kernel))))
def M_X9_begin : gM := (yX9_begin, cX9_begin, 2, some .int, 4, 99)
def l_X9_begin_59 (u0 : Nat) : Nat → gS → Int32 → (gS → Int32 → Option (Int32 × gS)) → (gS → Int32 → Option (Int32 × gS)) → Option (Int32 × gS)
  | 0, _, _, _, _ => none
  | n + 1, S, u1, K1, K2 =>
    g_getI S 9 21 u0 fun x9 =>
    if x9 ≤ u1 then (
    K1 S u1)
    else (
    g_cVI S 9 u0 (f_X9_isWrong S u0 u1) fun x11 S10 =>
    if x11 = 0 then (
    g_cVV S10 9 u0 (f_X9_step S10 u0 u1) fun S12 =>
    l_X9_begin_59 u0 n S12 (u1 + (1 : Int32)) K1 K2)
    else (
    K2 S10 u1))
def l_X9_begin_109 (u0 : Nat) : Nat → gS → Int32 → (gS → Int32 → Option (Int32 × gS)) → Option (Int32 × gS)
  | 0, _, _, _ => none
  | n + 1, S, u1, K1 =>
    g_getI S 9 21 u0 fun x18 =>
    if x18 ≤ u1 then (
    K1 S u1)
    else (
    g_getR S 9 16 u0 fun a19 =>
    g_getR S 9 16 u0 fun a20 =>
    g_ldI S 10 a20 u1 fun x21 =>
    g_stI S a19 ((6 : Int32) + u1) x21 fun S22 =>
    g_getR S22 9 17 u0 fun a23 =>
    g_getR S22 9 17 u0 fun a24 =>
    g_ldI S22 10 a24 u1 fun x25 =>
    g_stI S22 a23 ((6 : Int32) + u1) x25 fun S26 =>
    g_getR S26 9 18 u0 fun a27 =>
    g_getR S26 9 18 u0 fun a28 =>
    g_ldI S26 10 a28 u1 fun x29 =>
    g_stI S26 a27 ((6 : Int32) + u1) x29 fun S30 =>
    g_getR S30 9 19 u0 fun a31 =>
    g_getR S30 9 19 u0 fun a32 =>
    g_ldI S30 10 a32 u1 fun x33 =>
    g_stI S30 a31 ((6 : Int32) + u1) x33 fun S34 =>
    g_getR S34 9 20 u0 fun a35 =>
    g_getR S34 9 20 u0 fun a36 =>
    g_ldI S34 10 a36 u1 fun x37 =>
    g_stI S34 a35 ((6 : Int32) + u1) x37 fun S38 =>
    l_X9_begin_109 u0 n S38 (u1 + (1 : Int32)) K1)
def l_X9_begin_218 (u0 : Nat) : Nat → gS → Int32 → (gS → Int32 → Option (Int32 × gS)) → Option (Int32 × gS)
  | 0, _, _, _ => none
  | n + 1, S, u1, K1 =>
    g_getI S 9 6 u0 fun x45 =>
    if x45 ≤ u1 then (
    K1 S u1)
    else (
    g_cVI S 9 u0 (f_X9_form S u0 u1 (0 : Int32)) fun x47 S46 =>
    g_cVI S46 9 u0 (f_X9_form S46 u0 u1 (1 : Int32)) fun x49 S48 =>
    g_cVV S48 9 u0 (f_X9_up S48 u0 x47 x49) fun S50 =>
    g_getR S50 9 8 u0 fun a51 =>
    g_stZ S50 a51 u1 (1 : Int32) fun S52 =>
    g_getR S52 9 9 u0 fun a53 =>
    g_getR S52 9 7 u0 fun a54 =>
    g_ldI S52 10 a54 u1 fun x55 =>
    g_jn (fun (S56 : gS) (w57 : Int32) (w58 : Int32) (w59 : Nat) => (
    g_stZ S56 w59 w58 w57 fun S61 =>
    g_getR S61 9 7 u0 fun a62 =>
    g_stI S61 a62 u1 (0 : Int32) fun S63 =>
    l_X9_begin_218 u0 n S63 (u1 + (1 : Int32)) K1)) fun jb60 => (
    if x55 = (1 : Int32) then (
    jb60 S52 (1 : Int32) u1 a53)
    else (
    jb60 S52 (0 : Int32) u1 a53)))
def f_X9_begin (S : gS) (a0 : Nat) : Option (Int32 × gS) :=
g_putI S 9 30 a0 (0 : Int32) fun S1 =>
g_getI S1 9 32 a0 fun x2 =>
if x2 = 0 then (
g_getI S1 9 15 a0 fun x3 =>
if x3 = 0 then (
g_getI S1 9 21 a0 fun x4 =>
if x4 = 0 then (
some ((-2 : Int32), S1))
else (
g_cVI S1 9 a0 (f_X9_shadowed S1 a0) fun x6 S5 =>
if x6 ≤ 0 then (
g_getI S5 9 14 a0 fun x7 =>
if x7 = (30 : Int32) then (
some ((-4 : Int32), S5))
else (
g_cVV S5 9 a0 (f_X9_copySchema S5 a0 (0 : Int32) (2 : Int32)) fun S8 =>
l_X9_begin_59 a0 100 S8 (0 : Int32) (fun S13 v14 => (
g_cVI S13 9 a0 (f_X9_act S13 a0) fun x16 S15 =>
if x16 = 0 then (
some ((-9 : Int32), S15))
else (
g_cVV S15 9 a0 (f_X9_copySchema S15 a0 (2 : Int32) (1 : Int32)) fun S17 =>
l_X9_begin_109 a0 100 S17 (0 : Int32) (fun S39 v40 => (
g_getI S39 9 21 a0 fun x41 =>
g_putI S39 9 22 a0 x41 fun S42 =>
g_putI S42 9 21 a0 (0 : Int32) fun S43 =>
g_putZ S43 9 15 a0 (1 : Int32) fun S44 =>
l_X9_begin_218 a0 100 S44 (0 : Int32) (fun S64 v65 => (
g_getR S64 9 13 a0 fun a66 =>
g_ldI S64 10 a66 (1 : Int32) fun x67 =>
some (x67, S64)))))))) (fun S68 v69 => (
some (((-10 : Int32) - v69), S68)))))
else (
some ((-2 : Int32), S5))))
else (
some ((-2 : Int32), S1)))
else (
some ((-8 : Int32), S1))
set_option maxRecDepth 100000 in
set_option maxHeartbeats 4000000 in
theorem j_X9_begin_59 (E : gE) {n0 s0 : Nat} (u0 : Nat) : ∀ (n : Nat) (S : gS) (u1 : Int32) (K1 : (gS → Int32 → Option (Int32 × gS))) (K2 : (gS → Int32 → Option (Int32 × gS))), (∀ (S : gS) (u1 : Int32), gJ gI E M_X9_begin n0 s0 91 [(0, .ref u0), (1, .int u1)] [] S (K1 S u1)) → (∀ (S : gS) (u1 : Int32), gJ gI E M_X9_begin n0 s0 75 [(0, .ref u0), (1, .int u1)] [] S (K2 S u1)) → gJ gI E M_X9_begin n0 s0 59 [(0, .ref u0), (1, .int u1)] [] S (l_X9_begin_59 u0 n S u1 K1 K2) := by
  intro n
  induction n with
  | zero =>
    intros
    rw [l_X9_begin_59]
    exact gJ.none
  | succ n ih =>
    intro S u1 K1 K2 hK1 hK2
    rw [l_X9_begin_59]
    refine X_iload_n 1 dX9_begin_59 rfl rfl ?_
    refine X_aload_n 0 dX9_begin_60 rfl rfl ?_
    refine X_getI kF_X9_184 rfl dX9_begin_61 (fun x9 => ?_)
    refine X_icmp_ge (tgt := 91) dX9_begin_64 (by decide) ?_ ?_
    · skip
      exact (hK1 _ _)
    · skip
      refine X_aload_n 0 dX9_begin_67 rfl rfl ?_
      refine X_iload_n 1 dX9_begin_68 rfl rfl ?_
      refine X_callVI (ci := 9) (As := [.int u1]) (st := []) (c_X9_isWrong E S u0 u1) (by decide) rfl kC_X9_isWrong kL_X9_230 kI_X9_isWrong kE_X9_isWrong (by unfold g_okR; decide) rfl (Nat.le_of_ble_eq_true rfl) dX9_begin_69 (fun x11 S10 => ?_)
      refine X_if_eq (tgt := 80) dX9_begin_72 (by decide) ?_ ?_
      · skip
        refine X_aload_n 0 dX9_begin_80 rfl rfl ?_
        refine X_iload_n 1 dX9_begin_81 rfl rfl ?_
        refine X_callVV (ci := 9) (As := [.int u1]) (st := []) (c_X9_step E S10 u0 u1) (by decide) rfl kC_X9_step kL_X9_161 kI_X9_step kE_X9_step (by unfold g_okR; decide) rfl (Nat.le_of_ble_eq_true rfl) dX9_begin_82 (fun S12 => ?_)
        refine X_iinc (k := 1) (x := u1) (v := (1 : Int32)) (lv2 := [(1, .int (u1 + (1 : Int32))), (0, .ref u0)]) dX9_begin_85 rfl (by decide) (by decide) rfl ?_
        refine X_goto (tgt := 59) dX9_begin_88 (by decide) ?_
        exact X_sub [1, 0] rfl (ih _ _ _ _ hK1 hK2)
      · skip
        exact (hK2 _ _)
set_option maxRecDepth 100000 in
set_option maxHeartbeats 4000000 in
theorem j_X9_begin_109 (E : gE) {n0 s0 : Nat} (u0 : Nat) : ∀ (n : Nat) (S : gS) (u1 : Int32) (K1 : (gS → Int32 → Option (Int32 × gS))), (∀ (S : gS) (u1 : Int32), gJ gI E M_X9_begin n0 s0 198 [(0, .ref u0), (1, .int u1)] [] S (K1 S u1)) → gJ gI E M_X9_begin n0 s0 109 [(0, .ref u0), (1, .int u1)] [] S (l_X9_begin_109 u0 n S u1 K1) := by
  intro n
  induction n with
  | zero =>
    intros
    rw [l_X9_begin_109]
    exact gJ.none
  | succ n ih =>
    intro S u1 K1 hK1
    rw [l_X9_begin_109]
    refine X_iload_n 1 dX9_begin_109 rfl rfl ?_
    refine X_aload_n 0 dX9_begin_110 rfl rfl ?_
    refine X_getI kF_X9_184 rfl dX9_begin_111 (fun x18 => ?_)
    refine X_icmp_ge (tgt := 198) dX9_begin_114 (by decide) ?_ ?_
    · skip
      exact (hK1 _ _)
    · skip
      refine X_aload_n 0 dX9_begin_117 rfl rfl ?_
      refine X_getR kF_X9_51 rfl dX9_begin_118 (fun a19 => ?_)
      refine X_bipush (v := (6 : Int32)) dX9_begin_121 (by decide) ?_
      refine X_iload_n 1 dX9_begin_123 rfl rfl ?_
      refine X_iadd dX9_begin_124 ?_
      refine X_aload_n 0 dX9_begin_125 rfl rfl ?_
      refine X_getR kF_X9_51 rfl dX9_begin_126 (fun a20 => ?_)
      refine X_iload_n 1 dX9_begin_129 rfl rfl ?_
      refine X_iald dX9_begin_130 (fun x21 => ?_)
      refine X_iast dX9_begin_131 (fun S22 => ?_)
      refine X_aload_n 0 dX9_begin_132 rfl rfl ?_
      refine X_getR kF_X9_54 rfl dX9_begin_133 (fun a23 => ?_)
      refine X_bipush (v := (6 : Int32)) dX9_begin_136 (by decide) ?_
      refine X_iload_n 1 dX9_begin_138 rfl rfl ?_
      refine X_iadd dX9_begin_139 ?_
      refine X_aload_n 0 dX9_begin_140 rfl rfl ?_
      refine X_getR kF_X9_54 rfl dX9_begin_141 (fun a24 => ?_)
      refine X_iload_n 1 dX9_begin_144 rfl rfl ?_
      refine X_iald dX9_begin_145 (fun x25 => ?_)
      refine X_iast dX9_begin_146 (fun S26 => ?_)
      refine X_aload_n 0 dX9_begin_147 rfl rfl ?_
      refine X_getR kF_X9_57 rfl dX9_begin_148 (fun a27 => ?_)
      refine X_bipush (v := (6 : Int32)) dX9_begin_151 (by decide) ?_
      refine X_iload_n 1 dX9_begin_153 rfl rfl ?_
      refine X_iadd dX9_begin_154 ?_
      refine X_aload_n 0 dX9_begin_155 rfl rfl ?_
      refine X_getR kF_X9_57 rfl dX9_begin_156 (fun a28 => ?_)
      refine X_iload_n 1 dX9_begin_159 rfl rfl ?_
      refine X_iald dX9_begin_160 (fun x29 => ?_)
      refine X_iast dX9_begin_161 (fun S30 => ?_)
      refine X_aload_n 0 dX9_begin_162 rfl rfl ?_
      refine X_getR kF_X9_60 rfl dX9_begin_163 (fun a31 => ?_)
      refine X_bipush (v := (6 : Int32)) dX9_begin_166 (by decide) ?_
      refine X_iload_n 1 dX9_begin_168 rfl rfl ?_
      refine X_iadd dX9_begin_169 ?_
      refine X_aload_n 0 dX9_begin_170 rfl rfl ?_
      refine X_getR kF_X9_60 rfl dX9_begin_171 (fun a32 => ?_)
      refine X_iload_n 1 dX9_begin_174 rfl rfl ?_
      refine X_iald dX9_begin_175 (fun x33 => ?_)
      refine X_iast dX9_begin_176 (fun S34 => ?_)
      refine X_aload_n 0 dX9_begin_177 rfl rfl ?_
      refine X_getR kF_X9_63 rfl dX9_begin_178 (fun a35 => ?_)
      refine X_bipush (v := (6 : Int32)) dX9_begin_181 (by decide) ?_
      refine X_iload_n 1 dX9_begin_183 rfl rfl ?_
      refine X_iadd dX9_begin_184 ?_
      refine X_aload_n 0 dX9_begin_185 rfl rfl ?_
      refine X_getR kF_X9_63 rfl dX9_begin_186 (fun a36 => ?_)
      refine X_iload_n 1 dX9_begin_189 rfl rfl ?_
      refine X_iald dX9_begin_190 (fun x37 => ?_)
      refine X_iast dX9_begin_191 (fun S38 => ?_)
      refine X_iinc (k := 1) (x := u1) (v := (1 : Int32)) (lv2 := [(1, .int (u1 + (1 : Int32))), (0, .ref u0)]) dX9_begin_192 rfl (by decide) (by decide) rfl ?_
      refine X_goto (tgt := 109) dX9_begin_195 (by decide) ?_
      exact X_sub [1, 0] rfl (ih _ _ _ hK1)
set_option maxRecDepth 100000 in
set_option maxHeartbeats 4000000 in
theorem j_X9_begin_218 (E : gE) {n0 s0 : Nat} (u0 : Nat) : ∀ (n : Nat) (S : gS) (u1 : Int32) (K1 : (gS → Int32 → Option (Int32 × gS))), (∀ (S : gS) (u1 : Int32), gJ gI E M_X9_begin n0 s0 283 [(0, .ref u0), (1, .int u1)] [] S (K1 S u1)) → gJ gI E M_X9_begin n0 s0 218 [(0, .ref u0), (1, .int u1)] [] S (l_X9_begin_218 u0 n S u1 K1) := by
  intro n
  induction n with
  | zero =>
    intros
    rw [l_X9_begin_218]
    exact gJ.none
  | succ n ih =>
    intro S u1 K1 hK1
    rw [l_X9_begin_218]
    refine X_iload_n 1 dX9_begin_218 rfl rfl ?_
    refine X_aload_n 0 dX9_begin_219 rfl rfl ?_
    refine X_getI kF_X9_187 rfl dX9_begin_220 (fun x45 => ?_)
    refine X_icmp_ge (tgt := 283) dX9_begin_223 (by decide) ?_ ?_
    · skip
      exact (hK1 _ _)
    · skip
      refine X_aload_n 0 dX9_begin_226 rfl rfl ?_
      refine X_aload_n 0 dX9_begin_227 rfl rfl ?_
      refine X_iload_n 1 dX9_begin_228 rfl rfl ?_
      refine X_iconst (v := (0 : Int32)) dX9_begin_229 (by decide) ?_
      refine X_callVI (ci := 9) (As := [.int u1, .int (0 : Int32)]) (st := [.ref u0]) (c_X9_form E S u0 u1 (0 : Int32)) (by decide) rfl kC_X9_form kL_X9_205 kI_X9_form kE_X9_form (by unfold g_okR; decide) rfl (Nat.le_of_ble_eq_true rfl) dX9_begin_230 (fun x47 S46 => ?_)
      refine X_aload_n 0 dX9_begin_233 rfl rfl ?_
      refine X_iload_n 1 dX9_begin_234 rfl rfl ?_
      refine X_iconst (v := (1 : Int32)) dX9_begin_235 (by decide) ?_
      refine X_callVI (ci := 9) (As := [.int u1, .int (1 : Int32)]) (st := [.int x47, .ref u0]) (c_X9_form E S46 u0 u1 (1 : Int32)) (by decide) rfl kC_X9_form kL_X9_205 kI_X9_form kE_X9_form (by unfold g_okR; decide) rfl (Nat.le_of_ble_eq_true rfl) dX9_begin_236 (fun x49 S48 => ?_)
      refine X_callVV (ci := 9) (As := [.int x47, .int x49]) (st := []) (c_X9_up E S48 u0 x47 x49) (by decide) rfl kC_X9_up kL_X9_214 kI_X9_up kE_X9_up (by unfold g_okR; decide) rfl (Nat.le_of_ble_eq_true rfl) dX9_begin_239 (fun S50 => ?_)
      refine X_aload_n 0 dX9_begin_242 rfl rfl ?_
      refine X_getR kF_X9_32 rfl dX9_begin_243 (fun a51 => ?_)
      refine X_iload_n 1 dX9_begin_246 rfl rfl ?_
      refine X_iconst (v := (1 : Int32)) dX9_begin_247 (by decide) ?_
      refine X_zast dX9_begin_248 (fun S52 => ?_)
      refine X_aload_n 0 dX9_begin_249 rfl rfl ?_
      refine X_getR kF_X9_36 rfl dX9_begin_250 (fun a53 => ?_)
      refine X_iload_n 1 dX9_begin_253 rfl rfl ?_
      refine X_aload_n 0 dX9_begin_254 rfl rfl ?_
      refine X_getR kF_X9_29 rfl dX9_begin_255 (fun a54 => ?_)
      refine X_iload_n 1 dX9_begin_258 rfl rfl ?_
      refine X_iald dX9_begin_259 (fun x55 => ?_)
      refine X_iconst (v := (1 : Int32)) dX9_begin_260 (by decide) ?_
      refine X_jn (fun (j : gS → Int32 → Int32 → Nat → Option (Int32 × gS)) => ∀ (S56 : gS) (w57 : Int32) (w58 : Int32) (w59 : Nat), gJ gI E M_X9_begin n0 s0 269 [(0, .ref u0), (1, .int u1)] [.int w57, .int w58, .ref w59] S56 (j S56 w57 w58 w59)) ?_ (fun jb60 hjb60 => ?_)
      · intro S56 w57 w58 w59
        refine X_zast dX9_begin_269 (fun S61 => ?_)
        refine X_aload_n 0 dX9_begin_270 rfl rfl ?_
        refine X_getR kF_X9_29 rfl dX9_begin_271 (fun a62 => ?_)
        refine X_iload_n 1 dX9_begin_274 rfl rfl ?_
        refine X_iconst (v := (0 : Int32)) dX9_begin_275 (by decide) ?_
        refine X_iast dX9_begin_276 (fun S63 => ?_)
        refine X_iinc (k := 1) (x := u1) (v := (1 : Int32)) (lv2 := [(1, .int (u1 + (1 : Int32))), (0, .ref u0)]) dX9_begin_277 rfl (by decide) (by decide) rfl ?_
        refine X_goto (tgt := 218) dX9_begin_280 (by decide) ?_
        exact X_sub [1, 0] rfl (ih _ _ _ hK1)
      · skip
        refine X_icmp_ne (tgt := 268) dX9_begin_261 (by decide) ?_ ?_
        · skip
          refine X_iconst (v := (1 : Int32)) dX9_begin_264 (by decide) ?_
          refine X_goto (tgt := 269) dX9_begin_265 (by decide) ?_
          exact (hjb60 _ _ _ _)
        · skip
          refine X_iconst (v := (0 : Int32)) dX9_begin_268 (by decide) ?_
          exact (hjb60 _ _ _ _)
set_option maxRecDepth 100000 in
set_option maxHeartbeats 4000000 in
theorem c_X9_begin (E : gE) (S : gS) (a0 : Nat) : gC gI E M_X9_begin [.ref a0] S (f_X9_begin S a0) := by
  refine gC.of (by decide) (Nat.le_of_ble_eq_true rfl) ?_
  unfold f_X9_begin
  show gJ gI E M_X9_begin _ _ 0 [(0, .ref a0)] [] S _
  refine X_aload_n 0 dX9_begin_0 rfl rfl ?_
  refine X_iconst (v := (0 : Int32)) dX9_begin_1 (by decide) ?_
  refine X_putI kF_X9_177 rfl rfl dX9_begin_2 (fun S1 => ?_)
  refine X_aload_n 0 dX9_begin_5 rfl rfl ?_
  refine X_getI kF_X9_170 rfl dX9_begin_6 (fun x2 => ?_)
  refine X_if_eq (tgt := 15) dX9_begin_9 (by decide) ?_ ?_
  · skip
    refine X_aload_n 0 dX9_begin_15 rfl rfl ?_
    refine X_getI kF_X9_193 rfl dX9_begin_16 (fun x3 => ?_)
    refine X_if_ne (tgt := 36) dX9_begin_19 (by decide) ?_ ?_
    · skip
      refine X_aload_n 0 dX9_begin_22 rfl rfl ?_
      refine X_getI kF_X9_184 rfl dX9_begin_23 (fun x4 => ?_)
      refine X_if_eq (tgt := 36) dX9_begin_26 (by decide) ?_ ?_
      · skip
        refine X_bipush (v := (-2 : Int32)) dX9_begin_36 (by decide) ?_
        exact X_iret rfl dX9_begin_38
      · skip
        refine X_aload_n 0 dX9_begin_29 rfl rfl ?_
        refine X_callVI (ci := 9) (As := []) (st := []) (c_X9_shadowed E S1 a0) (by decide) rfl kC_X9_shadowed kL_X9_223 kI_X9_shadowed kE_X9_shadowed (by unfold g_okR; decide) rfl (Nat.le_of_ble_eq_true rfl) dX9_begin_30 (fun x6 S5 => ?_)
        refine X_if_le (tgt := 39) dX9_begin_33 (by decide) ?_ ?_
        · skip
          refine X_aload_n 0 dX9_begin_39 rfl rfl ?_
          refine X_getI kF_X9_227 rfl dX9_begin_40 (fun x7 => ?_)
          refine X_bipush (v := (30 : Int32)) dX9_begin_43 (by decide) ?_
          refine X_icmp_ne (tgt := 51) dX9_begin_45 (by decide) ?_ ?_
          · skip
            refine X_bipush (v := (-4 : Int32)) dX9_begin_48 (by decide) ?_
            exact X_iret rfl dX9_begin_50
          · skip
            refine X_aload_n 0 dX9_begin_51 rfl rfl ?_
            refine X_iconst (v := (0 : Int32)) dX9_begin_52 (by decide) ?_
            refine X_iconst (v := (2 : Int32)) dX9_begin_53 (by decide) ?_
            refine X_callVV (ci := 9) (As := [.int (0 : Int32), .int (2 : Int32)]) (st := []) (c_X9_copySchema E S5 a0 (0 : Int32) (2 : Int32)) (by decide) rfl kC_X9_copySchema kL_X9_147 kI_X9_copySchema kE_X9_copySchema (by unfold g_okR; decide) rfl (Nat.le_of_ble_eq_true rfl) dX9_begin_54 (fun S8 => ?_)
            refine X_iconst (v := (0 : Int32)) dX9_begin_57 (by decide) ?_
            refine X_istore_n (lv2 := [(1, .int (0 : Int32)), (0, .ref a0)]) dX9_begin_58 rfl (by decide) rfl ?_
            refine X_sub [1, 0] rfl (j_X9_begin_59 E a0 100 _ _ _ _ (fun S13 v14 => ?_) (fun S68 v69 => ?_))
            · skip
              refine X_aload_n 0 dX9_begin_91 rfl rfl ?_
              refine X_callVI (ci := 9) (As := []) (st := []) (c_X9_act E S13 a0) (by decide) rfl kC_X9_act kL_X9_180 kI_X9_act kE_X9_act (by unfold g_okR; decide) rfl (Nat.le_of_ble_eq_true rfl) dX9_begin_92 (fun x16 S15 => ?_)
              refine X_if_ne (tgt := 101) dX9_begin_95 (by decide) ?_ ?_
              · skip
                refine X_bipush (v := (-9 : Int32)) dX9_begin_98 (by decide) ?_
                exact X_iret rfl dX9_begin_100
              · skip
                refine X_aload_n 0 dX9_begin_101 rfl rfl ?_
                refine X_iconst (v := (2 : Int32)) dX9_begin_102 (by decide) ?_
                refine X_iconst (v := (1 : Int32)) dX9_begin_103 (by decide) ?_
                refine X_callVV (ci := 9) (As := [.int (2 : Int32), .int (1 : Int32)]) (st := []) (c_X9_copySchema E S15 a0 (2 : Int32) (1 : Int32)) (by decide) rfl kC_X9_copySchema kL_X9_147 kI_X9_copySchema kE_X9_copySchema (by unfold g_okR; decide) rfl (Nat.le_of_ble_eq_true rfl) dX9_begin_104 (fun S17 => ?_)
                refine X_iconst (v := (0 : Int32)) dX9_begin_107 (by decide) ?_
                refine X_istore_n (lv2 := [(1, .int (0 : Int32)), (0, .ref a0)]) dX9_begin_108 rfl (by decide) rfl ?_
                refine X_sub [1, 0] rfl (j_X9_begin_109 E a0 100 _ _ _ (fun S39 v40 => ?_))
                refine X_aload_n 0 dX9_begin_198 rfl rfl ?_
                refine X_aload_n 0 dX9_begin_199 rfl rfl ?_
                refine X_getI kF_X9_184 rfl dX9_begin_200 (fun x41 => ?_)
                refine X_putI kF_X9_150 rfl rfl dX9_begin_203 (fun S42 => ?_)
                refine X_aload_n 0 dX9_begin_206 rfl rfl ?_
                refine X_iconst (v := (0 : Int32)) dX9_begin_207 (by decide) ?_
                refine X_putI kF_X9_184 rfl rfl dX9_begin_208 (fun S43 => ?_)
                refine X_aload_n 0 dX9_begin_211 rfl rfl ?_
                refine X_iconst (v := (1 : Int32)) dX9_begin_212 (by decide) ?_
                refine X_putZ kF_X9_193 rfl rfl dX9_begin_213 (fun S44 => ?_)
                refine X_iconst (v := (0 : Int32)) dX9_begin_216 (by decide) ?_
                refine X_istore_n (lv2 := [(1, .int (0 : Int32)), (0, .ref a0)]) dX9_begin_217 rfl (by decide) rfl ?_
                refine X_sub [1, 0] rfl (j_X9_begin_218 E a0 100 _ _ _ (fun S64 v65 => ?_))
                refine X_aload_n 0 dX9_begin_283 rfl rfl ?_
                refine X_getR kF_X9_48 rfl dX9_begin_284 (fun a66 => ?_)
                refine X_iconst (v := (1 : Int32)) dX9_begin_287 (by decide) ?_
                refine X_iald dX9_begin_288 (fun x67 => ?_)
                exact X_iret rfl dX9_begin_289
            · skip
              refine X_bipush (v := (-10 : Int32)) dX9_begin_75 (by decide) ?_
              refine X_iload_n 1 dX9_begin_77 rfl rfl ?_
              refine X_isub dX9_begin_78 ?_
              exact X_iret rfl dX9_begin_79
        · skip
          refine X_bipush (v := (-2 : Int32)) dX9_begin_36 (by decide) ?_
          exact X_iret rfl dX9_begin_38
    · skip
      refine X_bipush (v := (-2 : Int32)) dX9_begin_36 (by decide) ?_
      exact X_iret rfl dX9_begin_38
  · skip
    refine X_bipush (v := (-8 : Int32)) dX9_begin_12 (by decide) ?_
    exact X_iret rfl dX9_begin_14
set_option maxRecDepth 100000 in
theorem kC_X9_begin : g_okC M_X9_begin 0 := And.intro (g_t (i := 850) rfl (by decide +kernel)) (And.intro (g_nd nd_10_ok (k := 19) rfl) (And.intro (by decide) (And.intro (by decide) (by decide +kernel))))
def M_X9_column : gM := (yX9_column, cX9_column, 4, some .int, 1, 22)
def f_X9_column (S : gS) (a0 : Nat) (p1 : Int32) (p2 : Int32) : Option (Int32 × gS) :=
g_getI S 9 32 a0 fun x1 =>
if x1 = 0 then (
g_jn (fun (S2 : gS) => (
g_jn (fun (S4 : gS) (w5 : Int32) => (
g_getR S4 9 13 a0 fun a7 =>
g_ldI S4 10 a7 w5 fun x8 =>
g_cI (f_X9_isIn S4 p1 (0 : Int32) (x8 - (1 : Int32))) fun x10 S9 =>
if x10 = 0 then (
some ((-1 : Int32), S9))
else (
g_getR S9 9 11 a0 fun a11 =>
g_ldI S9 10 a11 (((8 : Int32) * w5) + p1) fun x12 =>
g_getR S9 9 12 a0 fun a13 =>
g_ldI S9 10 a13 (((8 : Int32) * w5) + p1) fun x14 =>
some ((((8 : Int32) * x12) + x14), S9)))) fun jb6 => (
if p2 = 0 then (
jb6 S2 (0 : Int32))
else (
jb6 S2 (1 : Int32))))) fun jb3 => (
if p2 = 0 then (
jb3 S)
else (
g_getI S 9 15 a0 fun x15 =>
if x15 = 0 then (
some ((-2 : Int32), S))
else (
jb3 S))))
else (
some ((-8 : Int32), S))
set_option maxRecDepth 100000 in
set_option maxHeartbeats 4000000 in
theorem c_X9_column (E : gE) (S : gS) (a0 : Nat) (p1 : Int32) (p2 : Int32) : gC gI E M_X9_column [.ref a0, .int p1, .int p2] S (f_X9_column S a0 p1 p2) := by
  refine gC.of (by decide) (Nat.le_of_ble_eq_true rfl) ?_
  unfold f_X9_column
  show gJ gI E M_X9_column _ _ 0 [(0, .ref a0), (1, .int p1), (2, .int p2)] [] S _
  refine X_aload_n 0 dX9_column_0 rfl rfl ?_
  refine X_getI kF_X9_170 rfl dX9_column_1 (fun x1 => ?_)
  refine X_if_eq (tgt := 10) dX9_column_4 (by decide) ?_ ?_
  · skip
    refine X_iload_n 2 dX9_column_10 rfl rfl ?_
    refine X_jn (fun (j : gS → Option (Int32 × gS)) => ∀ (S2 : gS), gJ gI E M_X9_column (gn S) (gsl S) 24 [(0, .ref a0), (1, .int p1), (2, .int p2)] [] S2 (j S2)) ?_ (fun jb3 hjb3 => ?_)
    · intro S2
      refine X_iload_n 2 dX9_column_24 rfl rfl ?_
      refine X_jn (fun (j : gS → Int32 → Option (Int32 × gS)) => ∀ (S4 : gS) (w5 : Int32), gJ gI E M_X9_column (gn S) (gsl S) 33 [(0, .ref a0), (1, .int p1), (2, .int p2)] [.int w5] S4 (j S4 w5)) ?_ (fun jb6 hjb6 => ?_)
      · intro S4 w5
        refine X_istore_n (lv2 := [(3, .int w5), (0, .ref a0), (1, .int p1), (2, .int p2)]) dX9_column_33 rfl (by decide) rfl ?_
        refine X_iload_n 2 dX9_column_34 rfl rfl ?_
        refine X_iconst (v := (0 : Int32)) dX9_column_35 (by decide) ?_
        refine X_aload_n 1 dX9_column_36 rfl rfl ?_
        refine X_getR kF_X9_48 rfl dX9_column_37 (fun a7 => ?_)
        refine X_iload_n 0 dX9_column_40 rfl rfl ?_
        refine X_iald dX9_column_41 (fun x8 => ?_)
        refine X_iconst (v := (1 : Int32)) dX9_column_42 (by decide) ?_
        refine X_isub dX9_column_43 ?_
        refine X_callSI (As := [.int p1, .int (0 : Int32), .int (x8 - (1 : Int32))]) (st := []) (c_X9_isIn E S4 p1 (0 : Int32) (x8 - (1 : Int32))) kC_X9_isIn kL_X9_110 kS_X9_isIn (by unfold g_okR; decide) rfl (Nat.le_of_ble_eq_true rfl) dX9_column_44 (fun x10 S9 => ?_)
        refine X_if_ne (tgt := 52) dX9_column_47 (by decide) ?_ ?_
        · skip
          refine X_iconst (v := (-1 : Int32)) dX9_column_50 (by decide) ?_
          exact X_iret rfl dX9_column_51
        · skip
          refine X_bipush (v := (8 : Int32)) dX9_column_52 (by decide) ?_
          refine X_aload_n 1 dX9_column_54 rfl rfl ?_
          refine X_getR kF_X9_42 rfl dX9_column_55 (fun a11 => ?_)
          refine X_bipush (v := (8 : Int32)) dX9_column_58 (by decide) ?_
          refine X_iload_n 0 dX9_column_60 rfl rfl ?_
          refine X_imul dX9_column_61 ?_
          refine X_iload_n 2 dX9_column_62 rfl rfl ?_
          refine X_iadd dX9_column_63 ?_
          refine X_iald dX9_column_64 (fun x12 => ?_)
          refine X_imul dX9_column_65 ?_
          refine X_aload_n 1 dX9_column_66 rfl rfl ?_
          refine X_getR kF_X9_45 rfl dX9_column_67 (fun a13 => ?_)
          refine X_bipush (v := (8 : Int32)) dX9_column_70 (by decide) ?_
          refine X_iload_n 0 dX9_column_72 rfl rfl ?_
          refine X_imul dX9_column_73 ?_
          refine X_iload_n 2 dX9_column_74 rfl rfl ?_
          refine X_iadd dX9_column_75 ?_
          refine X_iald dX9_column_76 (fun x14 => ?_)
          refine X_iadd dX9_column_77 ?_
          exact X_iret rfl dX9_column_78
      · skip
        refine X_if_eq (tgt := 32) dX9_column_25 (by decide) ?_ ?_
        · skip
          refine X_iconst (v := (0 : Int32)) dX9_column_32 (by decide) ?_
          exact (hjb6 _ _)
        · skip
          refine X_iconst (v := (1 : Int32)) dX9_column_28 (by decide) ?_
          refine X_goto (tgt := 33) dX9_column_29 (by decide) ?_
          exact (hjb6 _ _)
    · skip
      refine X_if_eq (tgt := 24) dX9_column_11 (by decide) ?_ ?_
      · skip
        exact (hjb3 _)
      · skip
        refine X_aload_n 0 dX9_column_14 rfl rfl ?_
        refine X_getI kF_X9_193 rfl dX9_column_15 (fun x15 => ?_)
        refine X_if_ne (tgt := 24) dX9_column_18 (by decide) ?_ ?_
        · skip
          refine X_bipush (v := (-2 : Int32)) dX9_column_21 (by decide) ?_
          exact X_iret rfl dX9_column_23
        · skip
          exact (hjb3 _)
  · skip
    refine X_bipush (v := (-8 : Int32)) dX9_column_7 (by decide) ?_
    exact X_iret rfl dX9_column_9
set_option maxRecDepth 100000 in
theorem kC_X9_column : g_okC M_X9_column 2 := And.intro (g_t (i := 901) rfl (by decide +kernel)) (And.intro (g_nd nd_10_ok (k := 19) rfl) (And.intro (by decide) (And.intro (by decide) (by decide +kernel))))
def M_X9_lagging : gM := (yX9_lagging, cX9_lagging, 3, some .int, 1, 21)
def l_X9_lagging_4 (u0 : Nat) : Nat → gS → Int32 → Int32 → Option (Int32 × gS)
  | 0, _, _, _ => none
  | n + 1, S, u1, u2 =>
    g_getI S 9 6 u0 fun x1 =>
    if x1 ≤ u2 then (
    some (u1, S))
    else (
    g_cVI S 9 u0 (f_X9_isLagging S u0 u2) fun x3 S2 =>
    g_jn (fun (S4 : gS) (w5 : Int32) (w6 : Int32) => (
    g_lt (w6 + w5) fun x8 =>
    l_X9_lagging_4 u0 n S4 x8 (u2 + (1 : Int32)) )) fun jb7 => (
    if x3 = 0 then (
    jb7 S2 (0 : Int32) u1)
    else (
    jb7 S2 (1 : Int32) u1)))
def f_X9_lagging (S : gS) (a0 : Nat) : Option (Int32 × gS) :=
l_X9_lagging_4 a0 100 S (0 : Int32) (0 : Int32) 
set_option maxRecDepth 100000 in
set_option maxHeartbeats 4000000 in
theorem j_X9_lagging_4 (E : gE) {n0 s0 : Nat} (u0 : Nat) : ∀ (n : Nat) (S : gS) (u1 : Int32) (u2 : Int32), gJ gI E M_X9_lagging n0 s0 4 [(0, .ref u0), (1, .int u1), (2, .int u2)] [] S (l_X9_lagging_4 u0 n S u1 u2 ) := by
  intro n
  induction n with
  | zero =>
    intros
    rw [l_X9_lagging_4]
    exact gJ.none
  | succ n ih =>
    intro S u1 u2  
    rw [l_X9_lagging_4]
    refine X_iload_n 2 dX9_lagging_4 rfl rfl ?_
    refine X_aload_n 0 dX9_lagging_5 rfl rfl ?_
    refine X_getI kF_X9_187 rfl dX9_lagging_6 (fun x1 => ?_)
    refine X_icmp_ge (tgt := 34) dX9_lagging_9 (by decide) ?_ ?_
    · skip
      refine X_iload_n 1 dX9_lagging_34 rfl rfl ?_
      exact X_iret rfl dX9_lagging_35
    · skip
      refine X_iload_n 1 dX9_lagging_12 rfl rfl ?_
      refine X_aload_n 0 dX9_lagging_13 rfl rfl ?_
      refine X_iload_n 2 dX9_lagging_14 rfl rfl ?_
      refine X_callVI (ci := 9) (As := [.int u2]) (st := [.int u1]) (c_X9_isLagging E S u0 u2) (by decide) rfl kC_X9_isLagging kL_X9_234 kI_X9_isLagging kE_X9_isLagging (by unfold g_okR; decide) rfl (Nat.le_of_ble_eq_true rfl) dX9_lagging_15 (fun x3 S2 => ?_)
      refine X_jn (fun (j : gS → Int32 → Int32 → Option (Int32 × gS)) => ∀ (S4 : gS) (w5 : Int32) (w6 : Int32), gJ gI E M_X9_lagging n0 s0 26 [(0, .ref u0), (1, .int u1), (2, .int u2)] [.int w5, .int w6] S4 (j S4 w5 w6)) ?_ (fun jb7 hjb7 => ?_)
      · intro S4 w5 w6
        refine X_iadd dX9_lagging_26 ?_
        refine X_topI (fun x8 => ?_)
        refine X_istore_n (lv2 := [(1, .int x8), (0, .ref u0), (2, .int u2)]) dX9_lagging_27 rfl (by decide) rfl ?_
        refine X_iinc (k := 2) (x := u2) (v := (1 : Int32)) (lv2 := [(2, .int (u2 + (1 : Int32))), (1, .int x8), (0, .ref u0)]) dX9_lagging_28 rfl (by decide) (by decide) rfl ?_
        refine X_goto (tgt := 4) dX9_lagging_31 (by decide) ?_
        exact X_sub [2, 1, 0] rfl (ih _ _ _)
      · skip
        refine X_if_eq (tgt := 25) dX9_lagging_18 (by decide) ?_ ?_
        · skip
          refine X_iconst (v := (0 : Int32)) dX9_lagging_25 (by decide) ?_
          exact (hjb7 _ _ _)
        · skip
          refine X_iconst (v := (1 : Int32)) dX9_lagging_21 (by decide) ?_
          refine X_goto (tgt := 26) dX9_lagging_22 (by decide) ?_
          exact (hjb7 _ _ _)
set_option maxRecDepth 100000 in
set_option maxHeartbeats 4000000 in
theorem c_X9_lagging (E : gE) (S : gS) (a0 : Nat) : gC gI E M_X9_lagging [.ref a0] S (f_X9_lagging S a0) := by
  refine gC.of (by decide) (Nat.le_of_ble_eq_true rfl) ?_
  unfold f_X9_lagging
  show gJ gI E M_X9_lagging _ _ 0 [(0, .ref a0)] [] S _
  refine X_iconst (v := (0 : Int32)) dX9_lagging_0 (by decide) ?_
  refine X_istore_n (lv2 := [(1, .int (0 : Int32)), (0, .ref a0)]) dX9_lagging_1 rfl (by decide) rfl ?_
  refine X_iconst (v := (0 : Int32)) dX9_lagging_2 (by decide) ?_
  refine X_istore_n (lv2 := [(2, .int (0 : Int32)), (1, .int (0 : Int32)), (0, .ref a0)]) dX9_lagging_3 rfl (by decide) rfl ?_
  exact X_sub [2, 1, 0] rfl (j_X9_lagging_4 E a0 100 _ _ _)
set_option maxRecDepth 100000 in
theorem kC_X9_lagging : g_okC M_X9_lagging 0 := And.intro (g_t (i := 897) rfl (by decide +kernel)) (And.intro (g_nd nd_10_ok (k := 19) rfl) (And.intro (by decide) (And.intro (by decide) (by decide +kernel))))
def M_X9_count : gM := (yX9_count, cX9_count, 2, some .int, 2, 43)
def f_X9_count (S : gS) (a0 : Nat) (p1 : Int32) : Option (Int32 × gS) :=
g_cI (f_X9_isIn S p1 (0 : Int32) (9 : Int32)) fun x2 S1 =>
if x2 = 0 then (
some ((-1 : Int32), S1))
else (
if p1 = (7 : Int32) then (
g_getI S1 9 29 a0 fun x3 =>
some (x3, S1))
else (
if p1 = (8 : Int32) then (
g_getI S1 9 21 a0 fun x4 =>
some (x4, S1))
else (
if p1 = (9 : Int32) then (
g_getI S1 9 30 a0 fun x5 =>
some (x5, S1))
else (
g_getI S1 9 32 a0 fun x6 =>
if x6 = 0 then (
if p1 = (0 : Int32) then (
g_getI S1 9 14 a0 fun x8 =>
some (x8, S1))
else (
if p1 = (1 : Int32) then (
g_getI S1 9 15 a0 fun x10 =>
if x10 = 0 then (
some ((0 : Int32), S1))
else (
some ((1 : Int32), S1)))
else (
if p1 = (2 : Int32) then (
g_getR S1 9 13 a0 fun a12 =>
g_ldI S1 10 a12 (0 : Int32) fun x13 =>
some (x13, S1))
else (
if p1 = (3 : Int32) then (
g_getI S1 9 15 a0 fun x15 =>
if x15 = 0 then (
some ((0 : Int32), S1))
else (
g_getR S1 9 13 a0 fun a16 =>
g_ldI S1 10 a16 (1 : Int32) fun x17 =>
some (x17, S1)))
else (
if p1 = (4 : Int32) then (
g_getI S1 9 6 a0 fun x19 =>
some (x19, S1))
else (
if p1 = (5 : Int32) then (
g_cVI S1 9 a0 (f_X9_lagging S1 a0) fun x22 S21 =>
some (x22, S21))
else (
g_getI S1 9 15 a0 fun x23 =>
if x23 = 0 then (
g_cVI S1 9 a0 (f_X9_shadowed S1 a0) fun x25 S24 =>
some (x25, S24))
else (
some ((0 : Int32), S1)))))))))
else (
some ((-8 : Int32), S1))))))
set_option maxRecDepth 100000 in
set_option maxHeartbeats 4000000 in
theorem c_X9_count (E : gE) (S : gS) (a0 : Nat) (p1 : Int32) : gC gI E M_X9_count [.ref a0, .int p1] S (f_X9_count S a0 p1) := by
  refine gC.of (by decide) (Nat.le_of_ble_eq_true rfl) ?_
  unfold f_X9_count
  show gJ gI E M_X9_count _ _ 0 [(0, .ref a0), (1, .int p1)] [] S _
  refine X_iload_n 1 dX9_count_0 rfl rfl ?_
  refine X_iconst (v := (0 : Int32)) dX9_count_1 (by decide) ?_
  refine X_bipush (v := (9 : Int32)) dX9_count_2 (by decide) ?_
  refine X_callSI (As := [.int p1, .int (0 : Int32), .int (9 : Int32)]) (st := []) (c_X9_isIn E S p1 (0 : Int32) (9 : Int32)) kC_X9_isIn kL_X9_110 kS_X9_isIn (by unfold g_okR; decide) rfl (Nat.le_of_ble_eq_true rfl) dX9_count_4 (fun x2 S1 => ?_)
  refine X_if_ne (tgt := 12) dX9_count_7 (by decide) ?_ ?_
  · skip
    refine X_iconst (v := (-1 : Int32)) dX9_count_10 (by decide) ?_
    exact X_iret rfl dX9_count_11
  · skip
    refine X_iload_n 1 dX9_count_12 rfl rfl ?_
    refine X_bipush (v := (7 : Int32)) dX9_count_13 (by decide) ?_
    refine X_icmp_ne (tgt := 23) dX9_count_15 (by decide) ?_ ?_
    · skip
      refine X_aload_n 0 dX9_count_18 rfl rfl ?_
      refine X_getI kF_X9_174 rfl dX9_count_19 (fun x3 => ?_)
      exact X_iret rfl dX9_count_22
    · skip
      refine X_iload_n 1 dX9_count_23 rfl rfl ?_
      refine X_bipush (v := (8 : Int32)) dX9_count_24 (by decide) ?_
      refine X_icmp_ne (tgt := 34) dX9_count_26 (by decide) ?_ ?_
      · skip
        refine X_aload_n 0 dX9_count_29 rfl rfl ?_
        refine X_getI kF_X9_184 rfl dX9_count_30 (fun x4 => ?_)
        exact X_iret rfl dX9_count_33
      · skip
        refine X_iload_n 1 dX9_count_34 rfl rfl ?_
        refine X_bipush (v := (9 : Int32)) dX9_count_35 (by decide) ?_
        refine X_icmp_ne (tgt := 45) dX9_count_37 (by decide) ?_ ?_
        · skip
          refine X_aload_n 0 dX9_count_40 rfl rfl ?_
          refine X_getI kF_X9_177 rfl dX9_count_41 (fun x5 => ?_)
          exact X_iret rfl dX9_count_44
        · skip
          refine X_aload_n 0 dX9_count_45 rfl rfl ?_
          refine X_getI kF_X9_170 rfl dX9_count_46 (fun x6 => ?_)
          refine X_if_eq (tgt := 55) dX9_count_49 (by decide) ?_ ?_
          · skip
            refine X_iload_n 1 dX9_count_55 rfl rfl ?_
            by_cases h7 : p1 = (0 : Int32)
            · refine X_eq (if_pos h7) ?_
              refine X_tin (tgt := 96) dX9_count_56 (by rw [h7]; decide) (by rw [h7]; decide) (by rw [h7]; rfl) (by decide) ?_
              refine X_aload_n 0 dX9_count_96 rfl rfl ?_
              refine X_getI kF_X9_227 rfl dX9_count_97 (fun x8 => ?_)
              exact X_iret rfl dX9_count_100
            · refine X_eq (if_neg h7) ?_
              by_cases h9 : p1 = (1 : Int32)
              · refine X_eq (if_pos h9) ?_
                refine X_tin (tgt := 101) dX9_count_56 (by rw [h9]; decide) (by rw [h9]; decide) (by rw [h9]; rfl) (by decide) ?_
                refine X_aload_n 0 dX9_count_101 rfl rfl ?_
                refine X_getI kF_X9_193 rfl dX9_count_102 (fun x10 => ?_)
                refine X_if_eq (tgt := 112) dX9_count_105 (by decide) ?_ ?_
                · skip
                  refine X_iconst (v := (0 : Int32)) dX9_count_112 (by decide) ?_
                  exact X_iret rfl dX9_count_113
                · skip
                  refine X_iconst (v := (1 : Int32)) dX9_count_108 (by decide) ?_
                  refine X_goto (tgt := 113) dX9_count_109 (by decide) ?_
                  exact X_iret rfl dX9_count_113
              · refine X_eq (if_neg h9) ?_
                by_cases h11 : p1 = (2 : Int32)
                · refine X_eq (if_pos h11) ?_
                  refine X_tin (tgt := 114) dX9_count_56 (by rw [h11]; decide) (by rw [h11]; decide) (by rw [h11]; rfl) (by decide) ?_
                  refine X_aload_n 0 dX9_count_114 rfl rfl ?_
                  refine X_getR kF_X9_48 rfl dX9_count_115 (fun a12 => ?_)
                  refine X_iconst (v := (0 : Int32)) dX9_count_118 (by decide) ?_
                  refine X_iald dX9_count_119 (fun x13 => ?_)
                  exact X_iret rfl dX9_count_120
                · refine X_eq (if_neg h11) ?_
                  by_cases h14 : p1 = (3 : Int32)
                  · refine X_eq (if_pos h14) ?_
                    refine X_tin (tgt := 121) dX9_count_56 (by rw [h14]; decide) (by rw [h14]; decide) (by rw [h14]; rfl) (by decide) ?_
                    refine X_aload_n 0 dX9_count_121 rfl rfl ?_
                    refine X_getI kF_X9_193 rfl dX9_count_122 (fun x15 => ?_)
                    refine X_if_eq (tgt := 137) dX9_count_125 (by decide) ?_ ?_
                    · skip
                      refine X_iconst (v := (0 : Int32)) dX9_count_137 (by decide) ?_
                      exact X_iret rfl dX9_count_138
                    · skip
                      refine X_aload_n 0 dX9_count_128 rfl rfl ?_
                      refine X_getR kF_X9_48 rfl dX9_count_129 (fun a16 => ?_)
                      refine X_iconst (v := (1 : Int32)) dX9_count_132 (by decide) ?_
                      refine X_iald dX9_count_133 (fun x17 => ?_)
                      refine X_goto (tgt := 138) dX9_count_134 (by decide) ?_
                      exact X_iret rfl dX9_count_138
                  · refine X_eq (if_neg h14) ?_
                    by_cases h18 : p1 = (4 : Int32)
                    · refine X_eq (if_pos h18) ?_
                      refine X_tin (tgt := 139) dX9_count_56 (by rw [h18]; decide) (by rw [h18]; decide) (by rw [h18]; rfl) (by decide) ?_
                      refine X_aload_n 0 dX9_count_139 rfl rfl ?_
                      refine X_getI kF_X9_187 rfl dX9_count_140 (fun x19 => ?_)
                      exact X_iret rfl dX9_count_143
                    · refine X_eq (if_neg h18) ?_
                      by_cases h20 : p1 = (5 : Int32)
                      · refine X_eq (if_pos h20) ?_
                        refine X_tin (tgt := 144) dX9_count_56 (by rw [h20]; decide) (by rw [h20]; decide) (by rw [h20]; rfl) (by decide) ?_
                        refine X_aload_n 0 dX9_count_144 rfl rfl ?_
                        refine X_callVI (ci := 9) (As := []) (st := []) (c_X9_lagging E S1 a0) (by decide) rfl kC_X9_lagging kL_X9_237 kI_X9_lagging kE_X9_lagging (by unfold g_okR; decide) rfl (Nat.le_of_ble_eq_true rfl) dX9_count_145 (fun x22 S21 => ?_)
                        exact X_iret rfl dX9_count_148
                      · refine X_eq (if_neg h20) ?_
                        have eh7 : (p1).toInt ≠ 0 := fun q => h7 ((g_i32 q).trans (by decide))
                        have eh9 : (p1).toInt ≠ 1 := fun q => h9 ((g_i32 q).trans (by decide))
                        have eh11 : (p1).toInt ≠ 2 := fun q => h11 ((g_i32 q).trans (by decide))
                        have eh14 : (p1).toInt ≠ 3 := fun q => h14 ((g_i32 q).trans (by decide))
                        have eh18 : (p1).toInt ≠ 4 := fun q => h18 ((g_i32 q).trans (by decide))
                        have eh20 : (p1).toInt ≠ 5 := fun q => h20 ((g_i32 q).trans (by decide))
                        refine X_tout (tgt := 149) dX9_count_56 (by omega) (by decide) ?_
                        refine X_aload_n 0 dX9_count_149 rfl rfl ?_
                        refine X_getI kF_X9_193 rfl dX9_count_150 (fun x23 => ?_)
                        refine X_if_eq (tgt := 160) dX9_count_153 (by decide) ?_ ?_
                        · skip
                          refine X_aload_n 0 dX9_count_160 rfl rfl ?_
                          refine X_callVI (ci := 9) (As := []) (st := []) (c_X9_shadowed E S1 a0) (by decide) rfl kC_X9_shadowed kL_X9_223 kI_X9_shadowed kE_X9_shadowed (by unfold g_okR; decide) rfl (Nat.le_of_ble_eq_true rfl) dX9_count_161 (fun x25 S24 => ?_)
                          exact X_iret rfl dX9_count_164
                        · skip
                          refine X_iconst (v := (0 : Int32)) dX9_count_156 (by decide) ?_
                          refine X_goto (tgt := 164) dX9_count_157 (by decide) ?_
                          exact X_iret rfl dX9_count_164
          · skip
            refine X_bipush (v := (-8 : Int32)) dX9_count_52 (by decide) ?_
            exact X_iret rfl dX9_count_54
set_option maxRecDepth 100000 in
theorem kC_X9_count : g_okC M_X9_count 1 := And.intro (g_t (i := 893) rfl (by decide +kernel)) (And.intro (g_nd nd_10_ok (k := 19) rfl) (And.intro (by decide) (And.intro (by decide) (by decide +kernel))))
def M_X9_crash : gM := (yX9_crash, cX9_crash, 2, some .int, 1, 22)
def f_X9_crash (S : gS) (a0 : Nat) (p1 : Int32) : Option (Int32 × gS) :=
g_cI (f_X9_isIn S p1 (0 : Int32) (1000 : Int32)) fun x2 S1 =>
if x2 = 0 then (
some ((-1 : Int32), S1))
else (
g_putI S1 9 31 a0 p1 fun S3 =>
some ((1 : Int32), S3))
set_option maxRecDepth 100000 in
set_option maxHeartbeats 4000000 in
theorem c_X9_crash (E : gE) (S : gS) (a0 : Nat) (p1 : Int32) : gC gI E M_X9_crash [.ref a0, .int p1] S (f_X9_crash S a0 p1) := by
  refine gC.of (by decide) (Nat.le_of_ble_eq_true rfl) ?_
  unfold f_X9_crash
  show gJ gI E M_X9_crash _ _ 0 [(0, .ref a0), (1, .int p1)] [] S _
  refine X_iload_n 1 dX9_crash_0 rfl rfl ?_
  refine X_iconst (v := (0 : Int32)) dX9_crash_1 (by decide) ?_
  refine X_sipush (v := (1000 : Int32)) dX9_crash_2 (by decide) ?_
  refine X_callSI (As := [.int p1, .int (0 : Int32), .int (1000 : Int32)]) (st := []) (c_X9_isIn E S p1 (0 : Int32) (1000 : Int32)) kC_X9_isIn kL_X9_110 kS_X9_isIn (by unfold g_okR; decide) rfl (Nat.le_of_ble_eq_true rfl) dX9_crash_5 (fun x2 S1 => ?_)
  refine X_if_ne (tgt := 13) dX9_crash_8 (by decide) ?_ ?_
  · skip
    refine X_iconst (v := (-1 : Int32)) dX9_crash_11 (by decide) ?_
    exact X_iret rfl dX9_crash_12
  · skip
    refine X_aload_n 0 dX9_crash_13 rfl rfl ?_
    refine X_iload_n 1 dX9_crash_14 rfl rfl ?_
    refine X_putI kF_X9_167 rfl rfl dX9_crash_15 (fun S3 => ?_)
    refine X_iconst (v := (1 : Int32)) dX9_crash_18 (by decide) ?_
    exact X_iret rfl dX9_crash_19
set_option maxRecDepth 100000 in
theorem kC_X9_crash : g_okC M_X9_crash 1 := And.intro (g_t (i := 881) rfl (by decide +kernel)) (And.intro (g_nd nd_10_ok (k := 19) rfl) (And.intro (by decide) (And.intro (by decide) (by decide +kernel))))
def M_X9_draft : gM := (yX9_draft, cX9_draft, 4, some .int, 1, 22)
def f_X9_draft (S : gS) (a0 : Nat) (p1 : Int32) (p2 : Int32) (p3 : Int32) : Option (Int32 × gS) :=
g_cI (f_X9_isIn S p1 (0 : Int32) (7 : Int32)) fun x2 S1 =>
if x2 = 0 then (
some ((-1 : Int32), S1))
else (
g_getR S1 9 23 a0 fun a3 =>
g_stI S1 a3 p1 p2 fun S4 =>
g_getR S4 9 24 a0 fun a5 =>
g_stI S4 a5 p1 p3 fun S6 =>
g_getR S6 9 25 a0 fun a7 =>
g_stI S6 a7 p1 (0 : Int32) fun S8 =>
some ((1 : Int32), S8))
set_option maxRecDepth 100000 in
set_option maxHeartbeats 4000000 in
theorem c_X9_draft (E : gE) (S : gS) (a0 : Nat) (p1 : Int32) (p2 : Int32) (p3 : Int32) : gC gI E M_X9_draft [.ref a0, .int p1, .int p2, .int p3] S (f_X9_draft S a0 p1 p2 p3) := by
  refine gC.of (by decide) (Nat.le_of_ble_eq_true rfl) ?_
  unfold f_X9_draft
  show gJ gI E M_X9_draft _ _ 0 [(0, .ref a0), (1, .int p1), (2, .int p2), (3, .int p3)] [] S _
  refine X_iload_n 1 dX9_draft_0 rfl rfl ?_
  refine X_iconst (v := (0 : Int32)) dX9_draft_1 (by decide) ?_
  refine X_bipush (v := (7 : Int32)) dX9_draft_2 (by decide) ?_
  refine X_callSI (As := [.int p1, .int (0 : Int32), .int (7 : Int32)]) (st := []) (c_X9_isIn E S p1 (0 : Int32) (7 : Int32)) kC_X9_isIn kL_X9_110 kS_X9_isIn (by unfold g_okR; decide) rfl (Nat.le_of_ble_eq_true rfl) dX9_draft_4 (fun x2 S1 => ?_)
  refine X_if_ne (tgt := 12) dX9_draft_7 (by decide) ?_ ?_
  · skip
    refine X_iconst (v := (-1 : Int32)) dX9_draft_10 (by decide) ?_
    exact X_iret rfl dX9_draft_11
  · skip
    refine X_aload_n 0 dX9_draft_12 rfl rfl ?_
    refine X_getR kF_X9_66 rfl dX9_draft_13 (fun a3 => ?_)
    refine X_iload_n 1 dX9_draft_16 rfl rfl ?_
    refine X_iload_n 2 dX9_draft_17 rfl rfl ?_
    refine X_iast dX9_draft_18 (fun S4 => ?_)
    refine X_aload_n 0 dX9_draft_19 rfl rfl ?_
    refine X_getR kF_X9_69 rfl dX9_draft_20 (fun a5 => ?_)
    refine X_iload_n 1 dX9_draft_23 rfl rfl ?_
    refine X_iload_n 3 dX9_draft_24 rfl rfl ?_
    refine X_iast dX9_draft_25 (fun S6 => ?_)
    refine X_aload_n 0 dX9_draft_26 rfl rfl ?_
    refine X_getR kF_X9_72 rfl dX9_draft_27 (fun a7 => ?_)
    refine X_iload_n 1 dX9_draft_30 rfl rfl ?_
    refine X_iconst (v := (0 : Int32)) dX9_draft_31 (by decide) ?_
    refine X_iast dX9_draft_32 (fun S8 => ?_)
    refine X_iconst (v := (1 : Int32)) dX9_draft_33 (by decide) ?_
    exact X_iret rfl dX9_draft_34
set_option maxRecDepth 100000 in
theorem kC_X9_draft : g_okC M_X9_draft 3 := And.intro (g_t (i := 713) rfl (by decide +kernel)) (And.intro (g_nd nd_10_ok (k := 19) rfl) (And.intro (by decide) (And.intro (by decide) (by decide +kernel))))
def M_X9_finish : gM := (yX9_finish, cX9_finish, 2, some .int, 2, 46)
def l_X9_finish_43 (u0 : Nat) : Nat → gS → Int32 → (gS → Int32 → Option (Int32 × gS)) → Option (Int32 × gS)
  | 0, _, _, _ => none
  | n + 1, S, u1, K1 =>
    g_getI S 9 6 u0 fun x7 =>
    if x7 ≤ u1 then (
    K1 S u1)
    else (
    g_cVI S 9 u0 (f_X9_form S u0 u1 (1 : Int32)) fun x9 S8 =>
    g_cVI S8 9 u0 (f_X9_form S8 u0 u1 (0 : Int32)) fun x11 S10 =>
    g_cVV S10 9 u0 (f_X9_copyForm S10 u0 x9 x11) fun S12 =>
    g_getR S12 9 7 u0 fun a13 =>
    g_getR S12 9 8 u0 fun a14 =>
    g_ldI S12 12 a14 u1 fun x15 =>
    g_jn (fun (S16 : gS) (w17 : Int32) (w18 : Int32) (w19 : Nat) => (
    g_stI S16 w19 w18 w17 fun S21 =>
    l_X9_finish_43 u0 n S21 (u1 + (1 : Int32)) K1)) fun jb20 => (
    if x15 = 0 then (
    jb20 S12 (2 : Int32) u1 a13)
    else (
    jb20 S12 (1 : Int32) u1 a13)))
def f_X9_finish (S : gS) (a0 : Nat) : Option (Int32 × gS) :=
g_putI S 9 30 a0 (0 : Int32) fun S1 =>
g_getI S1 9 32 a0 fun x2 =>
if x2 = 0 then (
g_getI S1 9 15 a0 fun x3 =>
if x3 = 0 then (
some ((-2 : Int32), S1))
else (
g_cVI S1 9 a0 (f_X9_act S1 a0) fun x5 S4 =>
if x5 = 0 then (
some ((-9 : Int32), S4))
else (
g_cVV S4 9 a0 (f_X9_copySchema S4 a0 (1 : Int32) (0 : Int32)) fun S6 =>
l_X9_finish_43 a0 100 S6 (0 : Int32) (fun S22 v23 => (
g_putZ S22 9 15 a0 (0 : Int32) fun S24 =>
g_getI S24 9 14 a0 fun x25 =>
g_putI S24 9 14 a0 (x25 + (1 : Int32)) fun S26 =>
g_getI S26 9 14 a0 fun x27 =>
some (x27, S26))))))
else (
some ((-8 : Int32), S1))
set_option maxRecDepth 100000 in
set_option maxHeartbeats 4000000 in
theorem j_X9_finish_43 (E : gE) {n0 s0 : Nat} (u0 : Nat) : ∀ (n : Nat) (S : gS) (u1 : Int32) (K1 : (gS → Int32 → Option (Int32 × gS))), (∀ (S : gS) (u1 : Int32), gJ gI E M_X9_finish n0 s0 93 [(0, .ref u0), (1, .int u1)] [] S (K1 S u1)) → gJ gI E M_X9_finish n0 s0 43 [(0, .ref u0), (1, .int u1)] [] S (l_X9_finish_43 u0 n S u1 K1) := by
  intro n
  induction n with
  | zero =>
    intros
    rw [l_X9_finish_43]
    exact gJ.none
  | succ n ih =>
    intro S u1 K1 hK1
    rw [l_X9_finish_43]
    refine X_iload_n 1 dX9_finish_43 rfl rfl ?_
    refine X_aload_n 0 dX9_finish_44 rfl rfl ?_
    refine X_getI kF_X9_187 rfl dX9_finish_45 (fun x7 => ?_)
    refine X_icmp_ge (tgt := 93) dX9_finish_48 (by decide) ?_ ?_
    · skip
      exact (hK1 _ _)
    · skip
      refine X_aload_n 0 dX9_finish_51 rfl rfl ?_
      refine X_aload_n 0 dX9_finish_52 rfl rfl ?_
      refine X_iload_n 1 dX9_finish_53 rfl rfl ?_
      refine X_iconst (v := (1 : Int32)) dX9_finish_54 (by decide) ?_
      refine X_callVI (ci := 9) (As := [.int u1, .int (1 : Int32)]) (st := [.ref u0]) (c_X9_form E S u0 u1 (1 : Int32)) (by decide) rfl kC_X9_form kL_X9_205 kI_X9_form kE_X9_form (by unfold g_okR; decide) rfl (Nat.le_of_ble_eq_true rfl) dX9_finish_55 (fun x9 S8 => ?_)
      refine X_aload_n 0 dX9_finish_58 rfl rfl ?_
      refine X_iload_n 1 dX9_finish_59 rfl rfl ?_
      refine X_iconst (v := (0 : Int32)) dX9_finish_60 (by decide) ?_
      refine X_callVI (ci := 9) (As := [.int u1, .int (0 : Int32)]) (st := [.int x9, .ref u0]) (c_X9_form E S8 u0 u1 (0 : Int32)) (by decide) rfl kC_X9_form kL_X9_205 kI_X9_form kE_X9_form (by unfold g_okR; decide) rfl (Nat.le_of_ble_eq_true rfl) dX9_finish_61 (fun x11 S10 => ?_)
      refine X_callVV (ci := 9) (As := [.int x9, .int x11]) (st := []) (c_X9_copyForm E S10 u0 x9 x11) (by decide) rfl kC_X9_copyForm kL_X9_144 kI_X9_copyForm kE_X9_copyForm (by unfold g_okR; decide) rfl (Nat.le_of_ble_eq_true rfl) dX9_finish_64 (fun S12 => ?_)
      refine X_aload_n 0 dX9_finish_67 rfl rfl ?_
      refine X_getR kF_X9_29 rfl dX9_finish_68 (fun a13 => ?_)
      refine X_iload_n 1 dX9_finish_71 rfl rfl ?_
      refine X_aload_n 0 dX9_finish_72 rfl rfl ?_
      refine X_getR kF_X9_32 rfl dX9_finish_73 (fun a14 => ?_)
      refine X_iload_n 1 dX9_finish_76 rfl rfl ?_
      refine X_zald dX9_finish_77 (fun x15 => ?_)
      refine X_jn (fun (j : gS → Int32 → Int32 → Nat → Option (Int32 × gS)) => ∀ (S16 : gS) (w17 : Int32) (w18 : Int32) (w19 : Nat), gJ gI E M_X9_finish n0 s0 86 [(0, .ref u0), (1, .int u1)] [.int w17, .int w18, .ref w19] S16 (j S16 w17 w18 w19)) ?_ (fun jb20 hjb20 => ?_)
      · intro S16 w17 w18 w19
        refine X_iast dX9_finish_86 (fun S21 => ?_)
        refine X_iinc (k := 1) (x := u1) (v := (1 : Int32)) (lv2 := [(1, .int (u1 + (1 : Int32))), (0, .ref u0)]) dX9_finish_87 rfl (by decide) (by decide) rfl ?_
        refine X_goto (tgt := 43) dX9_finish_90 (by decide) ?_
        exact X_sub [1, 0] rfl (ih _ _ _ hK1)
      · skip
        refine X_if_eq (tgt := 85) dX9_finish_78 (by decide) ?_ ?_
        · skip
          refine X_iconst (v := (2 : Int32)) dX9_finish_85 (by decide) ?_
          exact (hjb20 _ _ _ _)
        · skip
          refine X_iconst (v := (1 : Int32)) dX9_finish_81 (by decide) ?_
          refine X_goto (tgt := 86) dX9_finish_82 (by decide) ?_
          exact (hjb20 _ _ _ _)
set_option maxRecDepth 100000 in
set_option maxHeartbeats 4000000 in
theorem c_X9_finish (E : gE) (S : gS) (a0 : Nat) : gC gI E M_X9_finish [.ref a0] S (f_X9_finish S a0) := by
  refine gC.of (by decide) (Nat.le_of_ble_eq_true rfl) ?_
  unfold f_X9_finish
  show gJ gI E M_X9_finish _ _ 0 [(0, .ref a0)] [] S _
  refine X_aload_n 0 dX9_finish_0 rfl rfl ?_
  refine X_iconst (v := (0 : Int32)) dX9_finish_1 (by decide) ?_
  refine X_putI kF_X9_177 rfl rfl dX9_finish_2 (fun S1 => ?_)
  refine X_aload_n 0 dX9_finish_5 rfl rfl ?_
  refine X_getI kF_X9_170 rfl dX9_finish_6 (fun x2 => ?_)
  refine X_if_eq (tgt := 15) dX9_finish_9 (by decide) ?_ ?_
  · skip
    refine X_aload_n 0 dX9_finish_15 rfl rfl ?_
    refine X_getI kF_X9_193 rfl dX9_finish_16 (fun x3 => ?_)
    refine X_if_ne (tgt := 25) dX9_finish_19 (by decide) ?_ ?_
    · skip
      refine X_bipush (v := (-2 : Int32)) dX9_finish_22 (by decide) ?_
      exact X_iret rfl dX9_finish_24
    · skip
      refine X_aload_n 0 dX9_finish_25 rfl rfl ?_
      refine X_callVI (ci := 9) (As := []) (st := []) (c_X9_act E S1 a0) (by decide) rfl kC_X9_act kL_X9_180 kI_X9_act kE_X9_act (by unfold g_okR; decide) rfl (Nat.le_of_ble_eq_true rfl) dX9_finish_26 (fun x5 S4 => ?_)
      refine X_if_ne (tgt := 35) dX9_finish_29 (by decide) ?_ ?_
      · skip
        refine X_bipush (v := (-9 : Int32)) dX9_finish_32 (by decide) ?_
        exact X_iret rfl dX9_finish_34
      · skip
        refine X_aload_n 0 dX9_finish_35 rfl rfl ?_
        refine X_iconst (v := (1 : Int32)) dX9_finish_36 (by decide) ?_
        refine X_iconst (v := (0 : Int32)) dX9_finish_37 (by decide) ?_
        refine X_callVV (ci := 9) (As := [.int (1 : Int32), .int (0 : Int32)]) (st := []) (c_X9_copySchema E S4 a0 (1 : Int32) (0 : Int32)) (by decide) rfl kC_X9_copySchema kL_X9_147 kI_X9_copySchema kE_X9_copySchema (by unfold g_okR; decide) rfl (Nat.le_of_ble_eq_true rfl) dX9_finish_38 (fun S6 => ?_)
        refine X_iconst (v := (0 : Int32)) dX9_finish_41 (by decide) ?_
        refine X_istore_n (lv2 := [(1, .int (0 : Int32)), (0, .ref a0)]) dX9_finish_42 rfl (by decide) rfl ?_
        refine X_sub [1, 0] rfl (j_X9_finish_43 E a0 100 _ _ _ (fun S22 v23 => ?_))
        refine X_aload_n 0 dX9_finish_93 rfl rfl ?_
        refine X_iconst (v := (0 : Int32)) dX9_finish_94 (by decide) ?_
        refine X_putZ kF_X9_193 rfl rfl dX9_finish_95 (fun S24 => ?_)
        refine X_aload_n 0 dX9_finish_98 rfl rfl ?_
        refine X_dup dX9_finish_99 rfl ?_
        refine X_getI kF_X9_227 rfl dX9_finish_100 (fun x25 => ?_)
        refine X_iconst (v := (1 : Int32)) dX9_finish_103 (by decide) ?_
        refine X_iadd dX9_finish_104 ?_
        refine X_putI kF_X9_227 rfl rfl dX9_finish_105 (fun S26 => ?_)
        refine X_aload_n 0 dX9_finish_108 rfl rfl ?_
        refine X_getI kF_X9_227 rfl dX9_finish_109 (fun x27 => ?_)
        exact X_iret rfl dX9_finish_112
  · skip
    refine X_bipush (v := (-8 : Int32)) dX9_finish_12 (by decide) ?_
    exact X_iret rfl dX9_finish_14
set_option maxRecDepth 100000 in
theorem kC_X9_finish : g_okC M_X9_finish 0 := And.intro (g_t (i := 865) rfl (by decide +kernel)) (And.intro (g_nd nd_10_ok (k := 19) rfl) (And.intro (by decide) (And.intro (by decide) (by decide +kernel))))
def M_X9_isDown : gM := (yX9_isDown, cX9_isDown, 1, some .boolean, 0, 0)
def f_X9_isDown (S : gS) (a0 : Nat) : Option (Int32 × gS) :=
g_getI S 9 32 a0 fun x1 =>
g_z x1 (some (x1, S))
set_option maxRecDepth 100000 in
set_option maxHeartbeats 4000000 in
theorem c_X9_isDown (E : gE) (S : gS) (a0 : Nat) : gC gI E M_X9_isDown [.ref a0] S (f_X9_isDown S a0) := by
  refine gC.of (by decide) (Nat.le_of_ble_eq_true rfl) ?_
  unfold f_X9_isDown
  show gJ gI E M_X9_isDown _ _ 0 [(0, .ref a0)] [] S _
  refine X_aload_n 0 dX9_isDown_0 rfl rfl ?_
  refine X_getI kF_X9_170 rfl dX9_isDown_1 (fun x1 => ?_)
  exact X_zret rfl dX9_isDown_4
set_option maxRecDepth 100000 in
theorem kC_X9_isDown : g_okC M_X9_isDown 0 := And.intro (g_t (i := 889) rfl (by decide +kernel)) (And.intro (g_nd nd_10_ok (k := 19) rfl) (And.intro (by decide) (And.intro (by decide) (by decide +kernel))))
def M_X9_letter : gM := (yX9_letter, cX9_letter, 3, some .int, 1, 22)
def f_X9_letter (S : gS) (a0 : Nat) (p1 : Int32) (p2 : Int32) : Option (Int32 × gS) :=
g_getI S 9 27 a0 fun x1 =>
g_cI (f_X9_isIn S p1 (0 : Int32) (x1 - (1 : Int32))) fun x3 S2 =>
if x3 = 0 then (
some ((0 : Int32), S2))
else (
g_getR S2 9 28 a0 fun a4 =>
g_ldI S2 10 a4 p1 fun x5 =>
if x5 = (4 : Int32) then (
g_getR S2 9 1 a0 fun a6 =>
g_ldI S2 10 a6 ((640 : Int32) + p1) fun x7 =>
g_cI (f_X9_isIn S2 p2 (0 : Int32) (x7 - (1 : Int32))) fun x9 S8 =>
if x9 = 0 then (
some ((0 : Int32), S8))
else (
g_getR S8 9 2 a0 fun a10 =>
g_ldI S8 10 a10 (((24 : Int32) * ((640 : Int32) + p1)) + p2) fun x11 =>
some (x11, S8)))
else (
some ((0 : Int32), S2)))
set_option maxRecDepth 100000 in
set_option maxHeartbeats 4000000 in
theorem c_X9_letter (E : gE) (S : gS) (a0 : Nat) (p1 : Int32) (p2 : Int32) : gC gI E M_X9_letter [.ref a0, .int p1, .int p2] S (f_X9_letter S a0 p1 p2) := by
  refine gC.of (by decide) (Nat.le_of_ble_eq_true rfl) ?_
  unfold f_X9_letter
  show gJ gI E M_X9_letter _ _ 0 [(0, .ref a0), (1, .int p1), (2, .int p2)] [] S _
  refine X_iload_n 1 dX9_letter_0 rfl rfl ?_
  refine X_iconst (v := (0 : Int32)) dX9_letter_1 (by decide) ?_
  refine X_aload_n 0 dX9_letter_2 rfl rfl ?_
  refine X_getI kF_X9_78 rfl dX9_letter_3 (fun x1 => ?_)
  refine X_iconst (v := (1 : Int32)) dX9_letter_6 (by decide) ?_
  refine X_isub dX9_letter_7 ?_
  refine X_callSI (As := [.int p1, .int (0 : Int32), .int (x1 - (1 : Int32))]) (st := []) (c_X9_isIn E S p1 (0 : Int32) (x1 - (1 : Int32))) kC_X9_isIn kL_X9_110 kS_X9_isIn (by unfold g_okR; decide) rfl (Nat.le_of_ble_eq_true rfl) dX9_letter_8 (fun x3 S2 => ?_)
  refine X_if_eq (tgt := 44) dX9_letter_11 (by decide) ?_ ?_
  · skip
    refine X_iconst (v := (0 : Int32)) dX9_letter_44 (by decide) ?_
    exact X_iret rfl dX9_letter_45
  · skip
    refine X_aload_n 0 dX9_letter_14 rfl rfl ?_
    refine X_getR kF_X9_82 rfl dX9_letter_15 (fun a4 => ?_)
    refine X_iload_n 1 dX9_letter_18 rfl rfl ?_
    refine X_iald dX9_letter_19 (fun x5 => ?_)
    refine X_iconst (v := (4 : Int32)) dX9_letter_20 (by decide) ?_
    refine X_icmp_ne (tgt := 44) dX9_letter_21 (by decide) ?_ ?_
    · skip
      refine X_iload_n 2 dX9_letter_24 rfl rfl ?_
      refine X_iconst (v := (0 : Int32)) dX9_letter_25 (by decide) ?_
      refine X_aload_n 0 dX9_letter_26 rfl rfl ?_
      refine X_getR kF_X9_13 rfl dX9_letter_27 (fun a6 => ?_)
      refine X_sipush (v := (640 : Int32)) dX9_letter_30 (by decide) ?_
      refine X_iload_n 1 dX9_letter_33 rfl rfl ?_
      refine X_iadd dX9_letter_34 ?_
      refine X_iald dX9_letter_35 (fun x7 => ?_)
      refine X_iconst (v := (1 : Int32)) dX9_letter_36 (by decide) ?_
      refine X_isub dX9_letter_37 ?_
      refine X_callSI (As := [.int p2, .int (0 : Int32), .int (x7 - (1 : Int32))]) (st := []) (c_X9_isIn E S2 p2 (0 : Int32) (x7 - (1 : Int32))) kC_X9_isIn kL_X9_110 kS_X9_isIn (by unfold g_okR; decide) rfl (Nat.le_of_ble_eq_true rfl) dX9_letter_38 (fun x9 S8 => ?_)
      refine X_if_ne (tgt := 46) dX9_letter_41 (by decide) ?_ ?_
      · skip
        refine X_iconst (v := (0 : Int32)) dX9_letter_44 (by decide) ?_
        exact X_iret rfl dX9_letter_45
      · skip
        refine X_aload_n 0 dX9_letter_46 rfl rfl ?_
        refine X_getR kF_X9_17 rfl dX9_letter_47 (fun a10 => ?_)
        refine X_bipush (v := (24 : Int32)) dX9_letter_50 (by decide) ?_
        refine X_sipush (v := (640 : Int32)) dX9_letter_52 (by decide) ?_
        refine X_iload_n 1 dX9_letter_55 rfl rfl ?_
        refine X_iadd dX9_letter_56 ?_
        refine X_imul dX9_letter_57 ?_
        refine X_iload_n 2 dX9_letter_58 rfl rfl ?_
        refine X_iadd dX9_letter_59 ?_
        refine X_iald dX9_letter_60 (fun x11 => ?_)
        exact X_iret rfl dX9_letter_61
    · skip
      refine X_iconst (v := (0 : Int32)) dX9_letter_44 (by decide) ?_
      exact X_iret rfl dX9_letter_45
set_option maxRecDepth 100000 in
theorem kC_X9_letter : g_okC M_X9_letter 2 := And.intro (g_t (i := 838) rfl (by decide +kernel)) (And.intro (g_nd nd_10_ok (k := 19) rfl) (And.intro (by decide) (And.intro (by decide) (by decide +kernel))))
def M_X9_letters : gM := (yX9_letters, cX9_letters, 6, some .int, 2, 49)
def l_X9_letters_52 (u0 : Nat) (u1 : Int32) (u2 : Int32) (u3 : Int32) (u4 : Int32) : Nat → gS → Int32 → (gS → Int32 → Option (Int32 × gS)) → Option (Int32 × gS)
  | 0, _, _, _ => none
  | n + 1, S, u5, K1 =>
    g_getR S 9 1 u0 fun a8 =>
    g_ldI S 10 a8 (648 : Int32) fun x9 =>
    if x9 ≤ u5 then (
    K1 S u5)
    else (
    g_getR S 9 26 u0 fun a10 =>
    g_getR S 9 2 u0 fun a11 =>
    g_ldI S 10 a11 ((15552 : Int32) + u5) fun x12 =>
    g_stI S a10 ((((24 : Int32) * u1) + u4) + u5) x12 fun S13 =>
    l_X9_letters_52 u0 u1 u2 u3 u4 n S13 (u5 + (1 : Int32)) K1)
def f_X9_letters (S : gS) (a0 : Nat) (p1 : Int32) (p2 : Int32) (p3 : Int32) : Option (Int32 × gS) :=
g_cI (f_X9_isIn S p1 (0 : Int32) (7 : Int32)) fun x2 S1 =>
if x2 = 0 then (
some ((-1 : Int32), S1))
else (
g_cVV S1 9 a0 (f_X9_tell S1 a0 (648 : Int32) (4 : Int32) p2 p3) fun S3 =>
g_getR S3 9 25 a0 fun a4 =>
g_ldI S3 10 a4 p1 fun x5 =>
g_getR S3 9 1 a0 fun a6 =>
g_ldI S3 10 a6 (648 : Int32) fun x7 =>
if (x5 + x7) ≤ (24 : Int32) then (
l_X9_letters_52 a0 p1 p2 p3 x5 100 S3 (0 : Int32) (fun S14 v15 => (
g_getR S14 9 25 a0 fun a16 =>
g_getR S14 9 1 a0 fun a17 =>
g_ldI S14 10 a17 (648 : Int32) fun x18 =>
g_stI S14 a16 p1 (x5 + x18) fun S19 =>
g_getR S19 9 25 a0 fun a20 =>
g_ldI S19 10 a20 p1 fun x21 =>
some (x21, S19))))
else (
some ((-4 : Int32), S3)))
set_option maxRecDepth 100000 in
set_option maxHeartbeats 4000000 in
theorem j_X9_letters_52 (E : gE) {n0 s0 : Nat} (u0 : Nat) (u1 : Int32) (u2 : Int32) (u3 : Int32) (u4 : Int32) : ∀ (n : Nat) (S : gS) (u5 : Int32) (K1 : (gS → Int32 → Option (Int32 × gS))), (∀ (S : gS) (u5 : Int32), gJ gI E M_X9_letters n0 s0 97 [(0, .ref u0), (1, .int u1), (2, .int u2), (3, .int u3), (4, .int u4), (5, .int u5)] [] S (K1 S u5)) → gJ gI E M_X9_letters n0 s0 52 [(0, .ref u0), (1, .int u1), (2, .int u2), (3, .int u3), (4, .int u4), (5, .int u5)] [] S (l_X9_letters_52 u0 u1 u2 u3 u4 n S u5 K1) := by
  intro n
  induction n with
  | zero =>
    intros
    rw [l_X9_letters_52]
    exact gJ.none
  | succ n ih =>
    intro S u5 K1 hK1
    rw [l_X9_letters_52]
    refine X_iload 5 dX9_letters_52 rfl ?_
    refine X_aload_n 0 dX9_letters_54 rfl rfl ?_
    refine X_getR kF_X9_13 rfl dX9_letters_55 (fun a8 => ?_)
    refine X_sipush (v := (648 : Int32)) dX9_letters_58 (by decide) ?_
    refine X_iald dX9_letters_61 (fun x9 => ?_)
    refine X_icmp_ge (tgt := 97) dX9_letters_62 (by decide) ?_ ?_
    · skip
      exact (hK1 _ _)
    · skip
      refine X_aload_n 0 dX9_letters_65 rfl rfl ?_
      refine X_getR kF_X9_75 rfl dX9_letters_66 (fun a10 => ?_)
      refine X_bipush (v := (24 : Int32)) dX9_letters_69 (by decide) ?_
      refine X_iload_n 1 dX9_letters_71 rfl rfl ?_
      refine X_imul dX9_letters_72 ?_
      refine X_iload 4 dX9_letters_73 rfl ?_
      refine X_iadd dX9_letters_75 ?_
      refine X_iload 5 dX9_letters_76 rfl ?_
      refine X_iadd dX9_letters_78 ?_
      refine X_aload_n 0 dX9_letters_79 rfl rfl ?_
      refine X_getR kF_X9_17 rfl dX9_letters_80 (fun a11 => ?_)
      refine X_sipush (v := (15552 : Int32)) dX9_letters_83 (by decide) ?_
      refine X_iload 5 dX9_letters_86 rfl ?_
      refine X_iadd dX9_letters_88 ?_
      refine X_iald dX9_letters_89 (fun x12 => ?_)
      refine X_iast dX9_letters_90 (fun S13 => ?_)
      refine X_iinc (k := 5) (x := u5) (v := (1 : Int32)) (lv2 := [(5, .int (u5 + (1 : Int32))), (0, .ref u0), (1, .int u1), (2, .int u2), (3, .int u3), (4, .int u4)]) dX9_letters_91 rfl (by decide) (by decide) rfl ?_
      refine X_goto (tgt := 52) dX9_letters_94 (by decide) ?_
      exact X_sub [1, 2, 3, 4, 5, 0] rfl (ih _ _ _ hK1)
set_option maxRecDepth 100000 in
set_option maxHeartbeats 4000000 in
theorem c_X9_letters (E : gE) (S : gS) (a0 : Nat) (p1 : Int32) (p2 : Int32) (p3 : Int32) : gC gI E M_X9_letters [.ref a0, .int p1, .int p2, .int p3] S (f_X9_letters S a0 p1 p2 p3) := by
  refine gC.of (by decide) (Nat.le_of_ble_eq_true rfl) ?_
  unfold f_X9_letters
  show gJ gI E M_X9_letters _ _ 0 [(0, .ref a0), (1, .int p1), (2, .int p2), (3, .int p3)] [] S _
  refine X_iload_n 1 dX9_letters_0 rfl rfl ?_
  refine X_iconst (v := (0 : Int32)) dX9_letters_1 (by decide) ?_
  refine X_bipush (v := (7 : Int32)) dX9_letters_2 (by decide) ?_
  refine X_callSI (As := [.int p1, .int (0 : Int32), .int (7 : Int32)]) (st := []) (c_X9_isIn E S p1 (0 : Int32) (7 : Int32)) kC_X9_isIn kL_X9_110 kS_X9_isIn (by unfold g_okR; decide) rfl (Nat.le_of_ble_eq_true rfl) dX9_letters_4 (fun x2 S1 => ?_)
  refine X_if_ne (tgt := 12) dX9_letters_7 (by decide) ?_ ?_
  · skip
    refine X_iconst (v := (-1 : Int32)) dX9_letters_10 (by decide) ?_
    exact X_iret rfl dX9_letters_11
  · skip
    refine X_aload_n 0 dX9_letters_12 rfl rfl ?_
    refine X_sipush (v := (648 : Int32)) dX9_letters_13 (by decide) ?_
    refine X_iconst (v := (4 : Int32)) dX9_letters_16 (by decide) ?_
    refine X_iload_n 2 dX9_letters_17 rfl rfl ?_
    refine X_iload_n 3 dX9_letters_18 rfl rfl ?_
    refine X_callVV (ci := 9) (As := [.int (648 : Int32), .int (4 : Int32), .int p2, .int p3]) (st := []) (c_X9_tell E S1 a0 (648 : Int32) (4 : Int32) p2 p3) (by decide) rfl kC_X9_tell kL_X9_153 kI_X9_tell kE_X9_tell (by unfold g_okR; decide) rfl (Nat.le_of_ble_eq_true rfl) dX9_letters_19 (fun S3 => ?_)
    refine X_aload_n 0 dX9_letters_22 rfl rfl ?_
    refine X_getR kF_X9_72 rfl dX9_letters_23 (fun a4 => ?_)
    refine X_iload_n 1 dX9_letters_26 rfl rfl ?_
    refine X_iald dX9_letters_27 (fun x5 => ?_)
    refine X_istore (lv2 := [(4, .int x5), (0, .ref a0), (1, .int p1), (2, .int p2), (3, .int p3)]) dX9_letters_28 (by decide) rfl ?_
    refine X_iload 0 dX9_letters_30 rfl ?_
    refine X_aload_n 1 dX9_letters_32 rfl rfl ?_
    refine X_getR kF_X9_13 rfl dX9_letters_33 (fun a6 => ?_)
    refine X_sipush (v := (648 : Int32)) dX9_letters_36 (by decide) ?_
    refine X_iald dX9_letters_39 (fun x7 => ?_)
    refine X_iadd dX9_letters_40 ?_
    refine X_bipush (v := (24 : Int32)) dX9_letters_41 (by decide) ?_
    refine X_icmp_le (tgt := 49) dX9_letters_43 (by decide) ?_ ?_
    · skip
      refine X_iconst (v := (0 : Int32)) dX9_letters_49 (by decide) ?_
      refine X_istore (lv2 := [(5, .int (0 : Int32)), (4, .int x5), (0, .ref a0), (1, .int p1), (2, .int p2), (3, .int p3)]) dX9_letters_50 (by decide) rfl ?_
      refine X_sub [2, 3, 4, 5, 1, 0] rfl (j_X9_letters_52 E a0 p1 p2 p3 x5 100 _ _ _ (fun S14 v15 => ?_))
      refine X_aload_n 0 dX9_letters_97 rfl rfl ?_
      refine X_getR kF_X9_72 rfl dX9_letters_98 (fun a16 => ?_)
      refine X_iload_n 1 dX9_letters_101 rfl rfl ?_
      refine X_iload 4 dX9_letters_102 rfl ?_
      refine X_aload_n 0 dX9_letters_104 rfl rfl ?_
      refine X_getR kF_X9_13 rfl dX9_letters_105 (fun a17 => ?_)
      refine X_sipush (v := (648 : Int32)) dX9_letters_108 (by decide) ?_
      refine X_iald dX9_letters_111 (fun x18 => ?_)
      refine X_iadd dX9_letters_112 ?_
      refine X_iast dX9_letters_113 (fun S19 => ?_)
      refine X_aload_n 0 dX9_letters_114 rfl rfl ?_
      refine X_getR kF_X9_72 rfl dX9_letters_115 (fun a20 => ?_)
      refine X_iload_n 1 dX9_letters_118 rfl rfl ?_
      refine X_iald dX9_letters_119 (fun x21 => ?_)
      exact X_iret rfl dX9_letters_120
    · skip
      refine X_bipush (v := (-4 : Int32)) dX9_letters_46 (by decide) ?_
      exact X_iret rfl dX9_letters_48
set_option maxRecDepth 100000 in
theorem kC_X9_letters : g_okC M_X9_letters 3 := And.intro (g_t (i := 717) rfl (by decide +kernel)) (And.intro (g_nd nd_10_ok (k := 19) rfl) (And.intro (by decide) (And.intro (by decide) (by decide +kernel))))
def M_X9_more : gM := (yX9_more, cX9_more, 5, some .int, 0, 0)
def l_X9_more_15 (u0 : Nat) (u1 : Int32) (u2 : Int32) : Nat → gS → Int32 → Int32 → Option (Int32 × gS)
  | 0, _, _, _ => none
  | n + 1, S, u3, u4 =>
    g_getI S 9 6 u0 fun x2 =>
    if x2 ≤ u4 then (
    some (u3, S))
    else (
    g_jn (fun (S3 : gS) (w4 : Int32) (w5 : Int32) => (
    g_lt (w5 + w4) fun x7 =>
    l_X9_more_15 u0 u1 u2 n S3 x7 (u4 + (1 : Int32)) )) fun jb6 => (
    g_jn (fun (S8 : gS) (w9 : Int32) => (
    jb6 S8 (1 : Int32) w9)) fun jb10 => (
    if u2 = 0 then (
    g_getR S 9 4 u0 fun a11 =>
    g_ldI S 10 a11 u4 fun x12 =>
    if x12 ≤ u1 then (
    jb6 S (0 : Int32) u3)
    else (
    jb10 S u3))
    else (
    jb10 S u3))))
def f_X9_more (S : gS) (a0 : Nat) (p1 : Int32) (p2 : Int32) : Option (Int32 × gS) :=
g_getI S 9 32 a0 fun x1 =>
if x1 = 0 then (
l_X9_more_15 a0 p1 p2 100 S (0 : Int32) (0 : Int32) )
else (
some ((-8 : Int32), S))
set_option maxRecDepth 100000 in
set_option maxHeartbeats 4000000 in
theorem j_X9_more_15 (E : gE) {n0 s0 : Nat} (u0 : Nat) (u1 : Int32) (u2 : Int32) : ∀ (n : Nat) (S : gS) (u3 : Int32) (u4 : Int32), gJ gI E M_X9_more n0 s0 15 [(0, .ref u0), (1, .int u1), (2, .int u2), (3, .int u3), (4, .int u4)] [] S (l_X9_more_15 u0 u1 u2 n S u3 u4 ) := by
  intro n
  induction n with
  | zero =>
    intros
    rw [l_X9_more_15]
    exact gJ.none
  | succ n ih =>
    intro S u3 u4  
    rw [l_X9_more_15]
    refine X_iload 4 dX9_more_15 rfl ?_
    refine X_aload_n 0 dX9_more_17 rfl rfl ?_
    refine X_getI kF_X9_187 rfl dX9_more_18 (fun x2 => ?_)
    refine X_icmp_ge (tgt := 53) dX9_more_21 (by decide) ?_ ?_
    · skip
      refine X_iload_n 3 dX9_more_53 rfl rfl ?_
      exact X_iret rfl dX9_more_54
    · skip
      refine X_iload_n 3 dX9_more_24 rfl rfl ?_
      refine X_iload_n 2 dX9_more_25 rfl rfl ?_
      refine X_jn (fun (j : gS → Int32 → Int32 → Option (Int32 × gS)) => ∀ (S3 : gS) (w4 : Int32) (w5 : Int32), gJ gI E M_X9_more n0 s0 45 [(0, .ref u0), (1, .int u1), (2, .int u2), (3, .int u3), (4, .int u4)] [.int w4, .int w5] S3 (j S3 w4 w5)) ?_ (fun jb6 hjb6 => ?_)
      · intro S3 w4 w5
        refine X_iadd dX9_more_45 ?_
        refine X_topI (fun x7 => ?_)
        refine X_istore_n (lv2 := [(3, .int x7), (0, .ref u0), (1, .int u1), (2, .int u2), (4, .int u4)]) dX9_more_46 rfl (by decide) rfl ?_
        refine X_iinc (k := 4) (x := u4) (v := (1 : Int32)) (lv2 := [(4, .int (u4 + (1 : Int32))), (3, .int x7), (0, .ref u0), (1, .int u1), (2, .int u2)]) dX9_more_47 rfl (by decide) (by decide) rfl ?_
        refine X_goto (tgt := 15) dX9_more_50 (by decide) ?_
        exact X_sub [2, 3, 4, 1, 0] rfl (ih _ _ _)
      · skip
        refine X_jn (fun (j : gS → Int32 → Option (Int32 × gS)) => ∀ (S8 : gS) (w9 : Int32), gJ gI E M_X9_more n0 s0 40 [(0, .ref u0), (1, .int u1), (2, .int u2), (3, .int u3), (4, .int u4)] [.int w9] S8 (j S8 w9)) ?_ (fun jb10 hjb10 => ?_)
        · intro S8 w9
          refine X_iconst (v := (1 : Int32)) dX9_more_40 (by decide) ?_
          refine X_goto (tgt := 45) dX9_more_41 (by decide) ?_
          exact (hjb6 _ _ _)
        · skip
          refine X_if_ne (tgt := 40) dX9_more_26 (by decide) ?_ ?_
          · skip
            refine X_aload_n 0 dX9_more_29 rfl rfl ?_
            refine X_getR kF_X9_23 rfl dX9_more_30 (fun a11 => ?_)
            refine X_iload 4 dX9_more_33 rfl ?_
            refine X_iald dX9_more_35 (fun x12 => ?_)
            refine X_iload_n 1 dX9_more_36 rfl rfl ?_
            refine X_icmp_le (tgt := 44) dX9_more_37 (by decide) ?_ ?_
            · skip
              refine X_iconst (v := (0 : Int32)) dX9_more_44 (by decide) ?_
              exact (hjb6 _ _ _)
            · skip
              exact (hjb10 _ _)
          · skip
            exact (hjb10 _ _)
set_option maxRecDepth 100000 in
set_option maxHeartbeats 4000000 in
theorem c_X9_more (E : gE) (S : gS) (a0 : Nat) (p1 : Int32) (p2 : Int32) : gC gI E M_X9_more [.ref a0, .int p1, .int p2] S (f_X9_more S a0 p1 p2) := by
  refine gC.of (by decide) (Nat.le_of_ble_eq_true rfl) ?_
  unfold f_X9_more
  show gJ gI E M_X9_more _ _ 0 [(0, .ref a0), (1, .int p1), (2, .int p2)] [] S _
  refine X_aload_n 0 dX9_more_0 rfl rfl ?_
  refine X_getI kF_X9_170 rfl dX9_more_1 (fun x1 => ?_)
  refine X_if_eq (tgt := 10) dX9_more_4 (by decide) ?_ ?_
  · skip
    refine X_iconst (v := (0 : Int32)) dX9_more_10 (by decide) ?_
    refine X_istore_n (lv2 := [(3, .int (0 : Int32)), (0, .ref a0), (1, .int p1), (2, .int p2)]) dX9_more_11 rfl (by decide) rfl ?_
    refine X_iconst (v := (0 : Int32)) dX9_more_12 (by decide) ?_
    refine X_istore (lv2 := [(4, .int (0 : Int32)), (3, .int (0 : Int32)), (0, .ref a0), (1, .int p1), (2, .int p2)]) dX9_more_13 (by decide) rfl ?_
    exact X_sub [2, 3, 4, 1, 0] rfl (j_X9_more_15 E a0 p1 p2 100 _ _ _)
  · skip
    refine X_bipush (v := (-8 : Int32)) dX9_more_7 (by decide) ?_
    exact X_iret rfl dX9_more_9
set_option maxRecDepth 100000 in
theorem kC_X9_more : g_okC M_X9_more 2 := And.intro (g_t (i := 846) rfl (by decide +kernel)) (And.intro (g_nd nd_10_ok (k := 19) rfl) (And.intro (by decide) (And.intro (by decide) (by decide +kernel))))
def M_X9_next : gM := (yX9_next, cX9_next, 4, some .int, 0, 0)
def l_X9_next_11 (u0 : Nat) (u1 : Int32) (u2 : Int32) : Nat → gS → Int32 → (gS → Int32 → Option (Int32 × gS)) → Option (Int32 × gS)
  | 0, _, _, _ => none
  | n + 1, S, u3, K1 =>
    g_getI S 9 6 u0 fun x2 =>
    if x2 ≤ u3 then (
    some (u1, S))
    else (
    if u2 = 0 then (
    g_getR S 9 4 u0 fun a3 =>
    g_ldI S 10 a3 u3 fun x4 =>
    if x4 ≤ u1 then (
    l_X9_next_11 u0 u1 u2 n S (u3 + (1 : Int32)) K1)
    else (
    K1 S u3))
    else (
    K1 S u3))
def f_X9_next (S : gS) (a0 : Nat) (p1 : Int32) (p2 : Int32) : Option (Int32 × gS) :=
g_getI S 9 32 a0 fun x1 =>
if x1 = 0 then (
l_X9_next_11 a0 p1 p2 100 S (0 : Int32) (fun S5 v6 => (
g_getR S5 9 4 a0 fun a7 =>
g_ldI S5 10 a7 v6 fun x8 =>
some (x8, S5))))
else (
some ((0 : Int32), S))
set_option maxRecDepth 100000 in
set_option maxHeartbeats 4000000 in
theorem j_X9_next_11 (E : gE) {n0 s0 : Nat} (u0 : Nat) (u1 : Int32) (u2 : Int32) : ∀ (n : Nat) (S : gS) (u3 : Int32) (K1 : (gS → Int32 → Option (Int32 × gS))), (∀ (S : gS) (u3 : Int32), gJ gI E M_X9_next n0 s0 33 [(0, .ref u0), (1, .int u1), (2, .int u2), (3, .int u3)] [] S (K1 S u3)) → gJ gI E M_X9_next n0 s0 11 [(0, .ref u0), (1, .int u1), (2, .int u2), (3, .int u3)] [] S (l_X9_next_11 u0 u1 u2 n S u3 K1) := by
  intro n
  induction n with
  | zero =>
    intros
    rw [l_X9_next_11]
    exact gJ.none
  | succ n ih =>
    intro S u3 K1 hK1
    rw [l_X9_next_11]
    refine X_iload_n 3 dX9_next_11 rfl rfl ?_
    refine X_aload_n 0 dX9_next_12 rfl rfl ?_
    refine X_getI kF_X9_187 rfl dX9_next_13 (fun x2 => ?_)
    refine X_icmp_ge (tgt := 46) dX9_next_16 (by decide) ?_ ?_
    · skip
      refine X_iload_n 1 dX9_next_46 rfl rfl ?_
      exact X_iret rfl dX9_next_47
    · skip
      refine X_iload_n 2 dX9_next_19 rfl rfl ?_
      refine X_if_ne (tgt := 33) dX9_next_20 (by decide) ?_ ?_
      · skip
        refine X_aload_n 0 dX9_next_23 rfl rfl ?_
        refine X_getR kF_X9_23 rfl dX9_next_24 (fun a3 => ?_)
        refine X_iload_n 3 dX9_next_27 rfl rfl ?_
        refine X_iald dX9_next_28 (fun x4 => ?_)
        refine X_iload_n 1 dX9_next_29 rfl rfl ?_
        refine X_icmp_le (tgt := 40) dX9_next_30 (by decide) ?_ ?_
        · skip
          refine X_iinc (k := 3) (x := u3) (v := (1 : Int32)) (lv2 := [(3, .int (u3 + (1 : Int32))), (0, .ref u0), (1, .int u1), (2, .int u2)]) dX9_next_40 rfl (by decide) (by decide) rfl ?_
          refine X_goto (tgt := 11) dX9_next_43 (by decide) ?_
          exact X_sub [1, 2, 3, 0] rfl (ih _ _ _ hK1)
        · skip
          exact (hK1 _ _)
      · skip
        exact (hK1 _ _)
set_option maxRecDepth 100000 in
set_option maxHeartbeats 4000000 in
theorem c_X9_next (E : gE) (S : gS) (a0 : Nat) (p1 : Int32) (p2 : Int32) : gC gI E M_X9_next [.ref a0, .int p1, .int p2] S (f_X9_next S a0 p1 p2) := by
  refine gC.of (by decide) (Nat.le_of_ble_eq_true rfl) ?_
  unfold f_X9_next
  show gJ gI E M_X9_next _ _ 0 [(0, .ref a0), (1, .int p1), (2, .int p2)] [] S _
  refine X_aload_n 0 dX9_next_0 rfl rfl ?_
  refine X_getI kF_X9_170 rfl dX9_next_1 (fun x1 => ?_)
  refine X_if_eq (tgt := 9) dX9_next_4 (by decide) ?_ ?_
  · skip
    refine X_iconst (v := (0 : Int32)) dX9_next_9 (by decide) ?_
    refine X_istore_n (lv2 := [(3, .int (0 : Int32)), (0, .ref a0), (1, .int p1), (2, .int p2)]) dX9_next_10 rfl (by decide) rfl ?_
    refine X_sub [1, 2, 3, 0] rfl (j_X9_next_11 E a0 p1 p2 100 _ _ _ (fun S5 v6 => ?_))
    refine X_aload_n 0 dX9_next_33 rfl rfl ?_
    refine X_getR kF_X9_23 rfl dX9_next_34 (fun a7 => ?_)
    refine X_iload_n 3 dX9_next_37 rfl rfl ?_
    refine X_iald dX9_next_38 (fun x8 => ?_)
    exact X_iret rfl dX9_next_39
  · skip
    refine X_iconst (v := (0 : Int32)) dX9_next_7 (by decide) ?_
    exact X_iret rfl dX9_next_8
set_option maxRecDepth 100000 in
theorem kC_X9_next : g_okC M_X9_next 2 := And.intro (g_t (i := 842) rfl (by decide +kernel)) (And.intro (g_nd nd_10_ok (k := 19) rfl) (And.intro (by decide) (And.intro (by decide) (by decide +kernel))))
def M_X9_plan : gM := (yX9_plan, cX9_plan, 6, some .int, 1, 22)
def f_X9_plan (S : gS) (a0 : Nat) (p1 : Int32) (p2 : Int32) (p3 : Int32) (p4 : Int32) (p5 : Int32) : Option (Int32 × gS) :=
g_cI (f_X9_isIn S p1 (0 : Int32) (3 : Int32)) fun x2 S1 =>
if x2 = 0 then (
some ((-1 : Int32), S1))
else (
g_cI (f_X9_isIn S1 p2 (0 : Int32) (63 : Int32)) fun x4 S3 =>
if x4 = 0 then (
some ((-1 : Int32), S3))
else (
g_jn (fun (S5 : gS) => (
g_jn (fun (S7 : gS) => (
g_getI S7 9 21 a0 fun x9 =>
if x9 = (6 : Int32) then (
some ((-4 : Int32), S7))
else (
g_getR S7 9 16 a0 fun a10 =>
g_getI S7 9 21 a0 fun x11 =>
g_stI S7 a10 x11 p1 fun S12 =>
g_getR S12 9 17 a0 fun a13 =>
g_getI S12 9 21 a0 fun x14 =>
g_stI S12 a13 x14 p2 fun S15 =>
g_getR S15 9 18 a0 fun a16 =>
g_getI S15 9 21 a0 fun x17 =>
g_stI S15 a16 x17 p3 fun S18 =>
g_getR S18 9 19 a0 fun a19 =>
g_getI S18 9 21 a0 fun x20 =>
g_stI S18 a19 x20 p4 fun S21 =>
g_getR S21 9 20 a0 fun a22 =>
g_getI S21 9 21 a0 fun x23 =>
g_stI S21 a22 x23 p5 fun S24 =>
g_getI S24 9 21 a0 fun x25 =>
g_putI S24 9 21 a0 (x25 + (1 : Int32)) fun S26 =>
g_getI S26 9 21 a0 fun x27 =>
some (x27, S26)))) fun jb8 => (
g_jn (fun (S28 : gS) => (
g_cI (f_X9_isIn S28 p3 (0 : Int32) (4 : Int32)) fun x31 S30 =>
if x31 = 0 then (
some ((-1 : Int32), S30))
else (
jb8 S30))) fun jb29 => (
if p1 = 0 then (
jb29 S5)
else (
if p1 = (3 : Int32) then (
jb29 S5)
else (
jb8 S5)))))) fun jb6 => (
if p1 = (2 : Int32) then (
g_cI (f_X9_isIn S3 p3 (0 : Int32) (63 : Int32)) fun x33 S32 =>
if x33 = 0 then (
some ((-1 : Int32), S32))
else (
jb6 S32))
else (
jb6 S3))))
set_option maxRecDepth 100000 in
set_option maxHeartbeats 4000000 in
theorem c_X9_plan (E : gE) (S : gS) (a0 : Nat) (p1 : Int32) (p2 : Int32) (p3 : Int32) (p4 : Int32) (p5 : Int32) : gC gI E M_X9_plan [.ref a0, .int p1, .int p2, .int p3, .int p4, .int p5] S (f_X9_plan S a0 p1 p2 p3 p4 p5) := by
  refine gC.of (by decide) (Nat.le_of_ble_eq_true rfl) ?_
  unfold f_X9_plan
  show gJ gI E M_X9_plan _ _ 0 [(0, .ref a0), (1, .int p1), (2, .int p2), (3, .int p3), (4, .int p4), (5, .int p5)] [] S _
  refine X_iload_n 1 dX9_plan_0 rfl rfl ?_
  refine X_iconst (v := (0 : Int32)) dX9_plan_1 (by decide) ?_
  refine X_iconst (v := (3 : Int32)) dX9_plan_2 (by decide) ?_
  refine X_callSI (As := [.int p1, .int (0 : Int32), .int (3 : Int32)]) (st := []) (c_X9_isIn E S p1 (0 : Int32) (3 : Int32)) kC_X9_isIn kL_X9_110 kS_X9_isIn (by unfold g_okR; decide) rfl (Nat.le_of_ble_eq_true rfl) dX9_plan_3 (fun x2 S1 => ?_)
  refine X_if_eq (tgt := 19) dX9_plan_6 (by decide) ?_ ?_
  · skip
    refine X_iconst (v := (-1 : Int32)) dX9_plan_19 (by decide) ?_
    exact X_iret rfl dX9_plan_20
  · skip
    refine X_iload_n 2 dX9_plan_9 rfl rfl ?_
    refine X_iconst (v := (0 : Int32)) dX9_plan_10 (by decide) ?_
    refine X_bipush (v := (63 : Int32)) dX9_plan_11 (by decide) ?_
    refine X_callSI (As := [.int p2, .int (0 : Int32), .int (63 : Int32)]) (st := []) (c_X9_isIn E S1 p2 (0 : Int32) (63 : Int32)) kC_X9_isIn kL_X9_110 kS_X9_isIn (by unfold g_okR; decide) rfl (Nat.le_of_ble_eq_true rfl) dX9_plan_13 (fun x4 S3 => ?_)
    refine X_if_ne (tgt := 21) dX9_plan_16 (by decide) ?_ ?_
    · skip
      refine X_iconst (v := (-1 : Int32)) dX9_plan_19 (by decide) ?_
      exact X_iret rfl dX9_plan_20
    · skip
      refine X_iload_n 1 dX9_plan_21 rfl rfl ?_
      refine X_iconst (v := (2 : Int32)) dX9_plan_22 (by decide) ?_
      refine X_jn (fun (j : gS → Option (Int32 × gS)) => ∀ (S5 : gS), gJ gI E M_X9_plan (gn S) (gsl S) 36 [(0, .ref a0), (1, .int p1), (2, .int p2), (3, .int p3), (4, .int p4), (5, .int p5)] [] S5 (j S5)) ?_ (fun jb6 hjb6 => ?_)
      · intro S5
        refine X_iload_n 1 dX9_plan_36 rfl rfl ?_
        refine X_jn (fun (j : gS → Option (Int32 × gS)) => ∀ (S7 : gS), gJ gI E M_X9_plan (gn S) (gsl S) 56 [(0, .ref a0), (1, .int p1), (2, .int p2), (3, .int p3), (4, .int p4), (5, .int p5)] [] S7 (j S7)) ?_ (fun jb8 hjb8 => ?_)
        · intro S7
          refine X_aload_n 0 dX9_plan_56 rfl rfl ?_
          refine X_getI kF_X9_184 rfl dX9_plan_57 (fun x9 => ?_)
          refine X_bipush (v := (6 : Int32)) dX9_plan_60 (by decide) ?_
          refine X_icmp_ne (tgt := 68) dX9_plan_62 (by decide) ?_ ?_
          · skip
            refine X_bipush (v := (-4 : Int32)) dX9_plan_65 (by decide) ?_
            exact X_iret rfl dX9_plan_67
          · skip
            refine X_aload_n 0 dX9_plan_68 rfl rfl ?_
            refine X_getR kF_X9_51 rfl dX9_plan_69 (fun a10 => ?_)
            refine X_aload_n 0 dX9_plan_72 rfl rfl ?_
            refine X_getI kF_X9_184 rfl dX9_plan_73 (fun x11 => ?_)
            refine X_iload_n 1 dX9_plan_76 rfl rfl ?_
            refine X_iast dX9_plan_77 (fun S12 => ?_)
            refine X_aload_n 0 dX9_plan_78 rfl rfl ?_
            refine X_getR kF_X9_54 rfl dX9_plan_79 (fun a13 => ?_)
            refine X_aload_n 0 dX9_plan_82 rfl rfl ?_
            refine X_getI kF_X9_184 rfl dX9_plan_83 (fun x14 => ?_)
            refine X_iload_n 2 dX9_plan_86 rfl rfl ?_
            refine X_iast dX9_plan_87 (fun S15 => ?_)
            refine X_aload_n 0 dX9_plan_88 rfl rfl ?_
            refine X_getR kF_X9_57 rfl dX9_plan_89 (fun a16 => ?_)
            refine X_aload_n 0 dX9_plan_92 rfl rfl ?_
            refine X_getI kF_X9_184 rfl dX9_plan_93 (fun x17 => ?_)
            refine X_iload_n 3 dX9_plan_96 rfl rfl ?_
            refine X_iast dX9_plan_97 (fun S18 => ?_)
            refine X_aload_n 0 dX9_plan_98 rfl rfl ?_
            refine X_getR kF_X9_60 rfl dX9_plan_99 (fun a19 => ?_)
            refine X_aload_n 0 dX9_plan_102 rfl rfl ?_
            refine X_getI kF_X9_184 rfl dX9_plan_103 (fun x20 => ?_)
            refine X_iload 4 dX9_plan_106 rfl ?_
            refine X_iast dX9_plan_108 (fun S21 => ?_)
            refine X_aload_n 0 dX9_plan_109 rfl rfl ?_
            refine X_getR kF_X9_63 rfl dX9_plan_110 (fun a22 => ?_)
            refine X_aload_n 0 dX9_plan_113 rfl rfl ?_
            refine X_getI kF_X9_184 rfl dX9_plan_114 (fun x23 => ?_)
            refine X_iload 5 dX9_plan_117 rfl ?_
            refine X_iast dX9_plan_119 (fun S24 => ?_)
            refine X_aload_n 0 dX9_plan_120 rfl rfl ?_
            refine X_dup dX9_plan_121 rfl ?_
            refine X_getI kF_X9_184 rfl dX9_plan_122 (fun x25 => ?_)
            refine X_iconst (v := (1 : Int32)) dX9_plan_125 (by decide) ?_
            refine X_iadd dX9_plan_126 ?_
            refine X_putI kF_X9_184 rfl rfl dX9_plan_127 (fun S26 => ?_)
            refine X_aload_n 0 dX9_plan_130 rfl rfl ?_
            refine X_getI kF_X9_184 rfl dX9_plan_131 (fun x27 => ?_)
            exact X_iret rfl dX9_plan_134
        · skip
          refine X_jn (fun (j : gS → Option (Int32 × gS)) => ∀ (S28 : gS), gJ gI E M_X9_plan (gn S) (gsl S) 45 [(0, .ref a0), (1, .int p1), (2, .int p2), (3, .int p3), (4, .int p4), (5, .int p5)] [] S28 (j S28)) ?_ (fun jb29 hjb29 => ?_)
          · intro S28
            refine X_iload_n 3 dX9_plan_45 rfl rfl ?_
            refine X_iconst (v := (0 : Int32)) dX9_plan_46 (by decide) ?_
            refine X_iconst (v := (4 : Int32)) dX9_plan_47 (by decide) ?_
            refine X_callSI (As := [.int p3, .int (0 : Int32), .int (4 : Int32)]) (st := []) (c_X9_isIn E S28 p3 (0 : Int32) (4 : Int32)) kC_X9_isIn kL_X9_110 kS_X9_isIn (by unfold g_okR; decide) rfl (Nat.le_of_ble_eq_true rfl) dX9_plan_48 (fun x31 S30 => ?_)
            refine X_if_ne (tgt := 56) dX9_plan_51 (by decide) ?_ ?_
            · skip
              refine X_iconst (v := (-1 : Int32)) dX9_plan_54 (by decide) ?_
              exact X_iret rfl dX9_plan_55
            · skip
              exact (hjb8 _)
          · skip
            refine X_if_eq (tgt := 45) dX9_plan_37 (by decide) ?_ ?_
            · skip
              exact (hjb29 _)
            · skip
              refine X_iload_n 1 dX9_plan_40 rfl rfl ?_
              refine X_iconst (v := (3 : Int32)) dX9_plan_41 (by decide) ?_
              refine X_icmp_ne (tgt := 56) dX9_plan_42 (by decide) ?_ ?_
              · skip
                exact (hjb29 _)
              · skip
                exact (hjb8 _)
      · skip
        refine X_icmp_ne (tgt := 36) dX9_plan_23 (by decide) ?_ ?_
        · skip
          refine X_iload_n 3 dX9_plan_26 rfl rfl ?_
          refine X_iconst (v := (0 : Int32)) dX9_plan_27 (by decide) ?_
          refine X_bipush (v := (63 : Int32)) dX9_plan_28 (by decide) ?_
          refine X_callSI (As := [.int p3, .int (0 : Int32), .int (63 : Int32)]) (st := []) (c_X9_isIn E S3 p3 (0 : Int32) (63 : Int32)) kC_X9_isIn kL_X9_110 kS_X9_isIn (by unfold g_okR; decide) rfl (Nat.le_of_ble_eq_true rfl) dX9_plan_30 (fun x33 S32 => ?_)
          refine X_if_eq (tgt := 54) dX9_plan_33 (by decide) ?_ ?_
          · skip
            refine X_iconst (v := (-1 : Int32)) dX9_plan_54 (by decide) ?_
            exact X_iret rfl dX9_plan_55
          · skip
            exact (hjb6 _)
        · skip
          exact (hjb6 _)
set_option maxRecDepth 100000 in
theorem kC_X9_plan : g_okC M_X9_plan 5 := And.intro (g_t (i := 702) rfl (by decide +kernel)) (And.intro (g_nd nd_10_ok (k := 19) rfl) (And.intro (by decide) (And.intro (by decide) (by decide +kernel))))
def M_X9_find : gM := (yX9_find, cX9_find, 4, some .int, 0, 0)
def l_X9_find_4 (u0 : Nat) (u1 : Int32) : Nat → gS → Int32 → Int32 → Option (Int32 × gS)
  | 0, _, _, _ => none
  | n + 1, S, u2, u3 =>
    g_getI S 9 6 u0 fun x1 =>
    if x1 ≤ u3 then (
    some (u2, S))
    else (
    g_getR S 9 4 u0 fun a2 =>
    g_ldI S 10 a2 u3 fun x3 =>
    g_jn (fun (S4 : gS) (w5 : Int32) => (
    l_X9_find_4 u0 u1 n S4 w5 (u3 + (1 : Int32)) )) fun jb6 => (
    if x3 = u1 then (
    jb6 S u3)
    else (
    jb6 S u2)))
def f_X9_find (S : gS) (a0 : Nat) (p1 : Int32) : Option (Int32 × gS) :=
l_X9_find_4 a0 p1 100 S (-1 : Int32) (0 : Int32) 
set_option maxRecDepth 100000 in
set_option maxHeartbeats 4000000 in
theorem j_X9_find_4 (E : gE) {n0 s0 : Nat} (u0 : Nat) (u1 : Int32) : ∀ (n : Nat) (S : gS) (u2 : Int32) (u3 : Int32), gJ gI E M_X9_find n0 s0 4 [(0, .ref u0), (1, .int u1), (2, .int u2), (3, .int u3)] [] S (l_X9_find_4 u0 u1 n S u2 u3 ) := by
  intro n
  induction n with
  | zero =>
    intros
    rw [l_X9_find_4]
    exact gJ.none
  | succ n ih =>
    intro S u2 u3  
    rw [l_X9_find_4]
    refine X_iload_n 3 dX9_find_4 rfl rfl ?_
    refine X_aload_n 0 dX9_find_5 rfl rfl ?_
    refine X_getI kF_X9_187 rfl dX9_find_6 (fun x1 => ?_)
    refine X_icmp_ge (tgt := 34) dX9_find_9 (by decide) ?_ ?_
    · skip
      refine X_iload_n 2 dX9_find_34 rfl rfl ?_
      exact X_iret rfl dX9_find_35
    · skip
      refine X_aload_n 0 dX9_find_12 rfl rfl ?_
      refine X_getR kF_X9_23 rfl dX9_find_13 (fun a2 => ?_)
      refine X_iload_n 3 dX9_find_16 rfl rfl ?_
      refine X_iald dX9_find_17 (fun x3 => ?_)
      refine X_iload_n 1 dX9_find_18 rfl rfl ?_
      refine X_jn (fun (j : gS → Int32 → Option (Int32 × gS)) => ∀ (S4 : gS) (w5 : Int32), gJ gI E M_X9_find n0 s0 27 [(0, .ref u0), (1, .int u1), (2, .int u2), (3, .int u3)] [.int w5] S4 (j S4 w5)) ?_ (fun jb6 hjb6 => ?_)
      · intro S4 w5
        refine X_istore_n (lv2 := [(2, .int w5), (0, .ref u0), (1, .int u1), (3, .int u3)]) dX9_find_27 rfl (by decide) rfl ?_
        refine X_iinc (k := 3) (x := u3) (v := (1 : Int32)) (lv2 := [(3, .int (u3 + (1 : Int32))), (2, .int w5), (0, .ref u0), (1, .int u1)]) dX9_find_28 rfl (by decide) (by decide) rfl ?_
        refine X_goto (tgt := 4) dX9_find_31 (by decide) ?_
        exact X_sub [2, 3, 1, 0] rfl (ih _ _ _)
      · skip
        refine X_icmp_ne (tgt := 26) dX9_find_19 (by decide) ?_ ?_
        · skip
          refine X_iload_n 3 dX9_find_22 rfl rfl ?_
          refine X_goto (tgt := 27) dX9_find_23 (by decide) ?_
          exact (hjb6 _ _)
        · skip
          refine X_iload_n 2 dX9_find_26 rfl rfl ?_
          exact (hjb6 _ _)
set_option maxRecDepth 100000 in
set_option maxHeartbeats 4000000 in
theorem c_X9_find (E : gE) (S : gS) (a0 : Nat) (p1 : Int32) : gC gI E M_X9_find [.ref a0, .int p1] S (f_X9_find S a0 p1) := by
  refine gC.of (by decide) (Nat.le_of_ble_eq_true rfl) ?_
  unfold f_X9_find
  show gJ gI E M_X9_find _ _ 0 [(0, .ref a0), (1, .int p1)] [] S _
  refine X_iconst (v := (-1 : Int32)) dX9_find_0 (by decide) ?_
  refine X_istore_n (lv2 := [(2, .int (-1 : Int32)), (0, .ref a0), (1, .int p1)]) dX9_find_1 rfl (by decide) rfl ?_
  refine X_iconst (v := (0 : Int32)) dX9_find_2 (by decide) ?_
  refine X_istore_n (lv2 := [(3, .int (0 : Int32)), (2, .int (-1 : Int32)), (0, .ref a0), (1, .int p1)]) dX9_find_3 rfl (by decide) rfl ?_
  exact X_sub [2, 3, 1, 0] rfl (j_X9_find_4 E a0 p1 100 _ _ _)
set_option maxRecDepth 100000 in
theorem kC_X9_find : g_okC M_X9_find 1 := And.intro (g_t (i := 738) rfl (by decide +kernel)) (And.intro (g_nd nd_10_ok (k := 19) rfl) (And.intro (by decide) (And.intro (by decide) (by decide +kernel))))
def M_X9_read : gM := (yX9_read, cX9_read, 6, some .int, 2, 46)
def l_X9_read_80 (u0 : Nat) (u1 : Int32) (u2 : Int32) (u3 : Int32) (u4 : Int32) : Nat → gS → Int32 → Option (Int32 × gS)
  | 0, _, _ => none
  | n + 1, S, u5 =>
    if (8 : Int32) ≤ u5 then (
    some ((1 : Int32), S))
    else (
    g_getR S 9 28 u0 fun a16 =>
    g_getR S 9 12 u0 fun a17 =>
    g_ldI S 10 a17 (((8 : Int32) * u4) + u5) fun x18 =>
    g_stI S a16 u5 x18 fun S19 =>
    l_X9_read_80 u0 u1 u2 u3 u4 n S19 (u5 + (1 : Int32)) )
def f_X9_read (S : gS) (a0 : Nat) (p1 : Int32) (p2 : Int32) : Option (Int32 × gS) :=
g_getI S 9 32 a0 fun x1 =>
if x1 = 0 then (
g_jn (fun (S2 : gS) => (
g_cVI S2 9 a0 (f_X9_find S2 a0 p1) fun x5 S4 =>
g_putI S4 9 27 a0 (-1 : Int32) fun S6 =>
if 0 ≤ x5 then (
g_jn (fun (S7 : gS) (w8 : Int32) => (
g_getR S7 9 13 a0 fun a10 =>
g_ldI S7 10 a10 w8 fun x11 =>
g_putI S7 9 27 a0 x11 fun S12 =>
g_cVI S12 9 a0 (f_X9_form S12 a0 x5 w8) fun x14 S13 =>
g_cVV S13 9 a0 (f_X9_copyForm S13 a0 x14 (640 : Int32)) fun S15 =>
l_X9_read_80 a0 p1 p2 x5 w8 100 S15 (0 : Int32) )) fun jb9 => (
if p2 = 0 then (
jb9 S6 (0 : Int32))
else (
jb9 S6 (1 : Int32))))
else (
some ((0 : Int32), S6)))) fun jb3 => (
if p2 = 0 then (
jb3 S)
else (
g_getI S 9 15 a0 fun x20 =>
if x20 = 0 then (
some ((-2 : Int32), S))
else (
jb3 S))))
else (
some ((-8 : Int32), S))
set_option maxRecDepth 100000 in
set_option maxHeartbeats 4000000 in
theorem j_X9_read_80 (E : gE) {n0 s0 : Nat} (u0 : Nat) (u1 : Int32) (u2 : Int32) (u3 : Int32) (u4 : Int32) : ∀ (n : Nat) (S : gS) (u5 : Int32), gJ gI E M_X9_read n0 s0 80 [(0, .ref u0), (1, .int u1), (2, .int u2), (3, .int u3), (4, .int u4), (5, .int u5)] [] S (l_X9_read_80 u0 u1 u2 u3 u4 n S u5 ) := by
  intro n
  induction n with
  | zero =>
    intros
    rw [l_X9_read_80]
    exact gJ.none
  | succ n ih =>
    intro S u5  
    rw [l_X9_read_80]
    refine X_iload 5 dX9_read_80 rfl ?_
    refine X_bipush (v := (8 : Int32)) dX9_read_82 (by decide) ?_
    refine X_icmp_ge (tgt := 113) dX9_read_84 (by decide) ?_ ?_
    · skip
      refine X_iconst (v := (1 : Int32)) dX9_read_113 (by decide) ?_
      exact X_iret rfl dX9_read_114
    · skip
      refine X_aload_n 0 dX9_read_87 rfl rfl ?_
      refine X_getR kF_X9_82 rfl dX9_read_88 (fun a16 => ?_)
      refine X_iload 5 dX9_read_91 rfl ?_
      refine X_aload_n 0 dX9_read_93 rfl rfl ?_
      refine X_getR kF_X9_45 rfl dX9_read_94 (fun a17 => ?_)
      refine X_bipush (v := (8 : Int32)) dX9_read_97 (by decide) ?_
      refine X_iload 4 dX9_read_99 rfl ?_
      refine X_imul dX9_read_101 ?_
      refine X_iload 5 dX9_read_102 rfl ?_
      refine X_iadd dX9_read_104 ?_
      refine X_iald dX9_read_105 (fun x18 => ?_)
      refine X_iast dX9_read_106 (fun S19 => ?_)
      refine X_iinc (k := 5) (x := u5) (v := (1 : Int32)) (lv2 := [(5, .int (u5 + (1 : Int32))), (0, .ref u0), (1, .int u1), (2, .int u2), (3, .int u3), (4, .int u4)]) dX9_read_107 rfl (by decide) (by decide) rfl ?_
      refine X_goto (tgt := 80) dX9_read_110 (by decide) ?_
      exact X_sub [1, 2, 3, 4, 5, 0] rfl (ih _ _)
set_option maxRecDepth 100000 in
set_option maxHeartbeats 4000000 in
theorem c_X9_read (E : gE) (S : gS) (a0 : Nat) (p1 : Int32) (p2 : Int32) : gC gI E M_X9_read [.ref a0, .int p1, .int p2] S (f_X9_read S a0 p1 p2) := by
  refine gC.of (by decide) (Nat.le_of_ble_eq_true rfl) ?_
  unfold f_X9_read
  show gJ gI E M_X9_read _ _ 0 [(0, .ref a0), (1, .int p1), (2, .int p2)] [] S _
  refine X_aload_n 0 dX9_read_0 rfl rfl ?_
  refine X_getI kF_X9_170 rfl dX9_read_1 (fun x1 => ?_)
  refine X_if_eq (tgt := 10) dX9_read_4 (by decide) ?_ ?_
  · skip
    refine X_iload_n 2 dX9_read_10 rfl rfl ?_
    refine X_jn (fun (j : gS → Option (Int32 × gS)) => ∀ (S2 : gS), gJ gI E M_X9_read (gn S) (gsl S) 24 [(0, .ref a0), (1, .int p1), (2, .int p2)] [] S2 (j S2)) ?_ (fun jb3 hjb3 => ?_)
    · intro S2
      refine X_aload_n 0 dX9_read_24 rfl rfl ?_
      refine X_iload_n 1 dX9_read_25 rfl rfl ?_
      refine X_callVI (ci := 9) (As := [.int p1]) (st := []) (c_X9_find E S2 a0 p1) (by decide) rfl kC_X9_find kL_X9_196 kI_X9_find kE_X9_find (by unfold g_okR; decide) rfl (Nat.le_of_ble_eq_true rfl) dX9_read_26 (fun x5 S4 => ?_)
      refine X_istore_n (lv2 := [(3, .int x5), (0, .ref a0), (1, .int p1), (2, .int p2)]) dX9_read_29 rfl (by decide) rfl ?_
      refine X_aload_n 1 dX9_read_30 rfl rfl ?_
      refine X_iconst (v := (-1 : Int32)) dX9_read_31 (by decide) ?_
      refine X_putI kF_X9_78 rfl rfl dX9_read_32 (fun S6 => ?_)
      refine X_iload_n 0 dX9_read_35 rfl rfl ?_
      refine X_if_ge (tgt := 41) dX9_read_36 (by decide) ?_ ?_
      · skip
        refine X_iload_n 3 dX9_read_41 rfl rfl ?_
        refine X_jn (fun (j : gS → Int32 → Option (Int32 × gS)) => ∀ (S7 : gS) (w8 : Int32), gJ gI E M_X9_read (gn S) (gsl S) 50 [(0, .ref a0), (1, .int p1), (2, .int p2), (3, .int x5)] [.int w8] S7 (j S7 w8)) ?_ (fun jb9 hjb9 => ?_)
        · intro S7 w8
          refine X_istore (lv2 := [(4, .int w8), (0, .ref a0), (1, .int p1), (2, .int p2), (3, .int x5)]) dX9_read_50 (by decide) rfl ?_
          refine X_aload_n 1 dX9_read_52 rfl rfl ?_
          refine X_aload_n 1 dX9_read_53 rfl rfl ?_
          refine X_getR kF_X9_48 rfl dX9_read_54 (fun a10 => ?_)
          refine X_iload 0 dX9_read_57 rfl ?_
          refine X_iald dX9_read_59 (fun x11 => ?_)
          refine X_putI kF_X9_78 rfl rfl dX9_read_60 (fun S12 => ?_)
          refine X_aload_n 1 dX9_read_63 rfl rfl ?_
          refine X_aload_n 1 dX9_read_64 rfl rfl ?_
          refine X_iload_n 4 dX9_read_65 rfl rfl ?_
          refine X_iload 0 dX9_read_66 rfl ?_
          refine X_callVI (ci := 9) (As := [.int x5, .int w8]) (st := [.ref a0]) (c_X9_form E S12 a0 x5 w8) (by decide) rfl kC_X9_form kL_X9_205 kI_X9_form kE_X9_form (by unfold g_okR; decide) rfl (Nat.le_of_ble_eq_true rfl) dX9_read_68 (fun x14 S13 => ?_)
          refine X_sipush (v := (640 : Int32)) dX9_read_71 (by decide) ?_
          refine X_callVV (ci := 9) (As := [.int x14, .int (640 : Int32)]) (st := []) (c_X9_copyForm E S13 a0 x14 (640 : Int32)) (by decide) rfl kC_X9_copyForm kL_X9_144 kI_X9_copyForm kE_X9_copyForm (by unfold g_okR; decide) rfl (Nat.le_of_ble_eq_true rfl) dX9_read_74 (fun S15 => ?_)
          refine X_iconst (v := (0 : Int32)) dX9_read_77 (by decide) ?_
          refine X_istore (lv2 := [(5, .int (0 : Int32)), (4, .int w8), (0, .ref a0), (1, .int p1), (2, .int p2), (3, .int x5)]) dX9_read_78 (by decide) rfl ?_
          exact X_sub [2, 3, 4, 5, 1, 0] rfl (j_X9_read_80 E a0 p1 p2 x5 w8 100 _ _)
        · skip
          refine X_if_eq (tgt := 49) dX9_read_42 (by decide) ?_ ?_
          · skip
            refine X_iconst (v := (0 : Int32)) dX9_read_49 (by decide) ?_
            exact X_sub [1, 2, 3, 0] rfl (hjb9 _ _)
          · skip
            refine X_iconst (v := (1 : Int32)) dX9_read_45 (by decide) ?_
            refine X_goto (tgt := 50) dX9_read_46 (by decide) ?_
            exact X_sub [1, 2, 3, 0] rfl (hjb9 _ _)
      · skip
        refine X_iconst (v := (0 : Int32)) dX9_read_39 (by decide) ?_
        exact X_iret rfl dX9_read_40
    · skip
      refine X_if_eq (tgt := 24) dX9_read_11 (by decide) ?_ ?_
      · skip
        exact (hjb3 _)
      · skip
        refine X_aload_n 0 dX9_read_14 rfl rfl ?_
        refine X_getI kF_X9_193 rfl dX9_read_15 (fun x20 => ?_)
        refine X_if_ne (tgt := 24) dX9_read_18 (by decide) ?_ ?_
        · skip
          refine X_bipush (v := (-2 : Int32)) dX9_read_21 (by decide) ?_
          exact X_iret rfl dX9_read_23
        · skip
          exact (hjb3 _)
  · skip
    refine X_bipush (v := (-8 : Int32)) dX9_read_7 (by decide) ?_
    exact X_iret rfl dX9_read_9
set_option maxRecDepth 100000 in
theorem kC_X9_read : g_okC M_X9_read 2 := And.intro (g_t (i := 826) rfl (by decide +kernel)) (And.intro (g_nd nd_10_ok (k := 19) rfl) (And.intro (by decide) (And.intro (by decide) (by decide +kernel))))
def M_X9_moveRow : gM := (yX9_moveRow, cX9_moveRow, 3, none, 0, 0)
def f_X9_moveRow (S : gS) (a0 : Nat) (p1 : Int32) (p2 : Int32) : Option (gS) :=
g_getR S 9 4 a0 fun a1 =>
g_getR S 9 4 a0 fun a2 =>
g_ldI S 10 a2 p1 fun x3 =>
g_stI S a1 p2 x3 fun S4 =>
g_getR S4 9 5 a0 fun a5 =>
g_getR S4 9 5 a0 fun a6 =>
g_ldI S4 10 a6 p1 fun x7 =>
g_stI S4 a5 p2 x7 fun S8 =>
g_getR S8 9 7 a0 fun a9 =>
g_getR S8 9 7 a0 fun a10 =>
g_ldI S8 10 a10 p1 fun x11 =>
g_stI S8 a9 p2 x11 fun S12 =>
g_getR S12 9 8 a0 fun a13 =>
g_getR S12 9 8 a0 fun a14 =>
g_ldI S12 12 a14 p1 fun x15 =>
g_stZ S12 a13 p2 x15 fun S16 =>
g_getR S16 9 9 a0 fun a17 =>
g_getR S16 9 9 a0 fun a18 =>
g_ldI S16 12 a18 p1 fun x19 =>
g_stZ S16 a17 p2 x19 fun S20 =>
some S20
set_option maxRecDepth 100000 in
set_option maxHeartbeats 4000000 in
theorem c_X9_moveRow (E : gE) (S : gS) (a0 : Nat) (p1 : Int32) (p2 : Int32) : gC gV E M_X9_moveRow [.ref a0, .int p1, .int p2] S (f_X9_moveRow S a0 p1 p2) := by
  refine gC.of (by decide) (Nat.le_of_ble_eq_true rfl) ?_
  unfold f_X9_moveRow
  show gJ gV E M_X9_moveRow _ _ 0 [(0, .ref a0), (1, .int p1), (2, .int p2)] [] S _
  refine X_aload_n 0 dX9_moveRow_0 rfl rfl ?_
  refine X_getR kF_X9_23 rfl dX9_moveRow_1 (fun a1 => ?_)
  refine X_iload_n 2 dX9_moveRow_4 rfl rfl ?_
  refine X_aload_n 0 dX9_moveRow_5 rfl rfl ?_
  refine X_getR kF_X9_23 rfl dX9_moveRow_6 (fun a2 => ?_)
  refine X_iload_n 1 dX9_moveRow_9 rfl rfl ?_
  refine X_iald dX9_moveRow_10 (fun x3 => ?_)
  refine X_iast dX9_moveRow_11 (fun S4 => ?_)
  refine X_aload_n 0 dX9_moveRow_12 rfl rfl ?_
  refine X_getR kF_X9_26 rfl dX9_moveRow_13 (fun a5 => ?_)
  refine X_iload_n 2 dX9_moveRow_16 rfl rfl ?_
  refine X_aload_n 0 dX9_moveRow_17 rfl rfl ?_
  refine X_getR kF_X9_26 rfl dX9_moveRow_18 (fun a6 => ?_)
  refine X_iload_n 1 dX9_moveRow_21 rfl rfl ?_
  refine X_iald dX9_moveRow_22 (fun x7 => ?_)
  refine X_iast dX9_moveRow_23 (fun S8 => ?_)
  refine X_aload_n 0 dX9_moveRow_24 rfl rfl ?_
  refine X_getR kF_X9_29 rfl dX9_moveRow_25 (fun a9 => ?_)
  refine X_iload_n 2 dX9_moveRow_28 rfl rfl ?_
  refine X_aload_n 0 dX9_moveRow_29 rfl rfl ?_
  refine X_getR kF_X9_29 rfl dX9_moveRow_30 (fun a10 => ?_)
  refine X_iload_n 1 dX9_moveRow_33 rfl rfl ?_
  refine X_iald dX9_moveRow_34 (fun x11 => ?_)
  refine X_iast dX9_moveRow_35 (fun S12 => ?_)
  refine X_aload_n 0 dX9_moveRow_36 rfl rfl ?_
  refine X_getR kF_X9_32 rfl dX9_moveRow_37 (fun a13 => ?_)
  refine X_iload_n 2 dX9_moveRow_40 rfl rfl ?_
  refine X_aload_n 0 dX9_moveRow_41 rfl rfl ?_
  refine X_getR kF_X9_32 rfl dX9_moveRow_42 (fun a14 => ?_)
  refine X_iload_n 1 dX9_moveRow_45 rfl rfl ?_
  refine X_zald dX9_moveRow_46 (fun x15 => ?_)
  refine X_zast dX9_moveRow_47 (fun S16 => ?_)
  refine X_aload_n 0 dX9_moveRow_48 rfl rfl ?_
  refine X_getR kF_X9_36 rfl dX9_moveRow_49 (fun a17 => ?_)
  refine X_iload_n 2 dX9_moveRow_52 rfl rfl ?_
  refine X_aload_n 0 dX9_moveRow_53 rfl rfl ?_
  refine X_getR kF_X9_36 rfl dX9_moveRow_54 (fun a18 => ?_)
  refine X_iload_n 1 dX9_moveRow_57 rfl rfl ?_
  refine X_zald dX9_moveRow_58 (fun x19 => ?_)
  refine X_zast dX9_moveRow_59 (fun S20 => ?_)
  exact X_vret rfl dX9_moveRow_60
set_option maxRecDepth 100000 in
theorem kC_X9_moveRow : g_okC M_X9_moveRow 2 := And.intro (g_t (i := 754) rfl (by decide +kernel)) (And.intro (g_nd nd_10_ok (k := 19) rfl) (And.intro (by decide) (And.intro (by decide) (by decide +kernel))))
def M_X9_drop : gM := (yX9_drop, cX9_drop, 3, none, 1, 22)
def l_X9_drop_14 (u0 : Nat) (u1 : Int32) : Nat → gS → Int32 → (gS → Int32 → Option (gS)) → Option (gS)
  | 0, _, _, _ => none
  | n + 1, S, u2, K1 =>
    g_getI S 9 6 u0 fun x5 =>
    if x5 ≤ (u2 + (1 : Int32)) then (
    K1 S u2)
    else (
    g_cVV S 9 u0 (f_X9_moveRow S u0 (u2 + (1 : Int32)) u2) fun S6 =>
    l_X9_drop_14 u0 u1 n S6 (u2 + (1 : Int32)) K1)
def f_X9_drop (S : gS) (a0 : Nat) (p1 : Int32) : Option (gS) :=
g_getR S 9 10 a0 fun a1 =>
g_getR S 9 5 a0 fun a2 =>
g_ldI S 10 a2 p1 fun x3 =>
g_stZ S a1 x3 (0 : Int32) fun S4 =>
l_X9_drop_14 a0 p1 100 S4 p1 (fun S7 v8 => (
g_getI S7 9 6 a0 fun x9 =>
g_putI S7 9 6 a0 (x9 - (1 : Int32)) fun S10 =>
some S10))
set_option maxRecDepth 100000 in
set_option maxHeartbeats 4000000 in
theorem j_X9_drop_14 (E : gE) {n0 s0 : Nat} (u0 : Nat) (u1 : Int32) : ∀ (n : Nat) (S : gS) (u2 : Int32) (K1 : (gS → Int32 → Option (gS))), (∀ (S : gS) (u2 : Int32), gJ gV E M_X9_drop n0 s0 38 [(0, .ref u0), (1, .int u1), (2, .int u2)] [] S (K1 S u2)) → gJ gV E M_X9_drop n0 s0 14 [(0, .ref u0), (1, .int u1), (2, .int u2)] [] S (l_X9_drop_14 u0 u1 n S u2 K1) := by
  intro n
  induction n with
  | zero =>
    intros
    rw [l_X9_drop_14]
    exact gJ.none
  | succ n ih =>
    intro S u2 K1 hK1
    rw [l_X9_drop_14]
    refine X_iload_n 2 dX9_drop_14 rfl rfl ?_
    refine X_iconst (v := (1 : Int32)) dX9_drop_15 (by decide) ?_
    refine X_iadd dX9_drop_16 ?_
    refine X_aload_n 0 dX9_drop_17 rfl rfl ?_
    refine X_getI kF_X9_187 rfl dX9_drop_18 (fun x5 => ?_)
    refine X_icmp_ge (tgt := 38) dX9_drop_21 (by decide) ?_ ?_
    · skip
      exact (hK1 _ _)
    · skip
      refine X_aload_n 0 dX9_drop_24 rfl rfl ?_
      refine X_iload_n 2 dX9_drop_25 rfl rfl ?_
      refine X_iconst (v := (1 : Int32)) dX9_drop_26 (by decide) ?_
      refine X_iadd dX9_drop_27 ?_
      refine X_iload_n 2 dX9_drop_28 rfl rfl ?_
      refine X_callVV (ci := 9) (As := [.int (u2 + (1 : Int32)), .int u2]) (st := []) (c_X9_moveRow E S u0 (u2 + (1 : Int32)) u2) (by decide) rfl kC_X9_moveRow kL_X9_190 kI_X9_moveRow kE_X9_moveRow (by unfold g_okR; decide) rfl (Nat.le_of_ble_eq_true rfl) dX9_drop_29 (fun S6 => ?_)
      refine X_iinc (k := 2) (x := u2) (v := (1 : Int32)) (lv2 := [(2, .int (u2 + (1 : Int32))), (0, .ref u0), (1, .int u1)]) dX9_drop_32 rfl (by decide) (by decide) rfl ?_
      refine X_goto (tgt := 14) dX9_drop_35 (by decide) ?_
      exact X_sub [1, 2, 0] rfl (ih _ _ _ hK1)
set_option maxRecDepth 100000 in
set_option maxHeartbeats 4000000 in
theorem c_X9_drop (E : gE) (S : gS) (a0 : Nat) (p1 : Int32) : gC gV E M_X9_drop [.ref a0, .int p1] S (f_X9_drop S a0 p1) := by
  refine gC.of (by decide) (Nat.le_of_ble_eq_true rfl) ?_
  unfold f_X9_drop
  show gJ gV E M_X9_drop _ _ 0 [(0, .ref a0), (1, .int p1)] [] S _
  refine X_aload_n 0 dX9_drop_0 rfl rfl ?_
  refine X_getR kF_X9_39 rfl dX9_drop_1 (fun a1 => ?_)
  refine X_aload_n 0 dX9_drop_4 rfl rfl ?_
  refine X_getR kF_X9_26 rfl dX9_drop_5 (fun a2 => ?_)
  refine X_iload_n 1 dX9_drop_8 rfl rfl ?_
  refine X_iald dX9_drop_9 (fun x3 => ?_)
  refine X_iconst (v := (0 : Int32)) dX9_drop_10 (by decide) ?_
  refine X_zast dX9_drop_11 (fun S4 => ?_)
  refine X_iload_n 1 dX9_drop_12 rfl rfl ?_
  refine X_istore_n (lv2 := [(2, .int p1), (0, .ref a0), (1, .int p1)]) dX9_drop_13 rfl (by decide) rfl ?_
  refine X_sub [1, 2, 0] rfl (j_X9_drop_14 E a0 p1 100 _ _ _ (fun S7 v8 => ?_))
  refine X_aload_n 0 dX9_drop_38 rfl rfl ?_
  refine X_dup dX9_drop_39 rfl ?_
  refine X_getI kF_X9_187 rfl dX9_drop_40 (fun x9 => ?_)
  refine X_iconst (v := (1 : Int32)) dX9_drop_43 (by decide) ?_
  refine X_isub dX9_drop_44 ?_
  refine X_putI kF_X9_187 rfl rfl dX9_drop_45 (fun S10 => ?_)
  exact X_vret rfl dX9_drop_48
set_option maxRecDepth 100000 in
theorem kC_X9_drop : g_okC M_X9_drop 1 := And.intro (g_t (i := 822) rfl (by decide +kernel)) (And.intro (g_nd nd_10_ok (k := 19) rfl) (And.intro (by decide) (And.intro (by decide) (by decide +kernel))))
def M_X9_remove : gM := (yX9_remove, cX9_remove, 5, some .int, 2, 44)
def f_X9_remove (S : gS) (a0 : Nat) (p1 : Int32) : Option (Int32 × gS) :=
g_putI S 9 30 a0 (0 : Int32) fun S1 =>
g_getI S1 9 32 a0 fun x2 =>
if x2 = 0 then (
g_cVI S1 9 a0 (f_X9_find S1 a0 p1) fun x4 S3 =>
if 0 ≤ x4 then (
g_getI S3 9 15 a0 fun x5 =>
g_jn (fun (S6 : gS) (w7 : Int32) => (
g_cVI S6 9 a0 (f_X9_acts S6 a0 w7) fun x10 S9 =>
if x10 = 0 then (
some ((-9 : Int32), S9))
else (
g_getI S9 9 15 a0 fun x11 =>
g_jn (fun (S12 : gS) => (
g_cVV S12 9 a0 (f_X9_drop S12 a0 x4) fun S14 =>
if x10 = w7 then (
some ((1 : Int32), S14))
else (
g_putZ S14 9 33 a0 (1 : Int32) fun S15 =>
some ((-9 : Int32), S15)))) fun jb13 => (
if x11 = 0 then (
if w7 ≤ x10 then (
jb13 S9)
else (
some ((-9 : Int32), S9)))
else (
jb13 S9))))) fun jb8 => (
if x5 = 0 then (
g_getR S3 9 7 a0 fun a16 =>
g_ldI S3 10 a16 x4 fun x17 =>
if x17 = (2 : Int32) then (
jb8 S3 (2 : Int32))
else (
jb8 S3 (1 : Int32)))
else (
jb8 S3 (4 : Int32))))
else (
some ((-3 : Int32), S3)))
else (
some ((-8 : Int32), S1))
set_option maxRecDepth 100000 in
set_option maxHeartbeats 4000000 in
theorem c_X9_remove (E : gE) (S : gS) (a0 : Nat) (p1 : Int32) : gC gI E M_X9_remove [.ref a0, .int p1] S (f_X9_remove S a0 p1) := by
  refine gC.of (by decide) (Nat.le_of_ble_eq_true rfl) ?_
  unfold f_X9_remove
  show gJ gI E M_X9_remove _ _ 0 [(0, .ref a0), (1, .int p1)] [] S _
  refine X_aload_n 0 dX9_remove_0 rfl rfl ?_
  refine X_iconst (v := (0 : Int32)) dX9_remove_1 (by decide) ?_
  refine X_putI kF_X9_177 rfl rfl dX9_remove_2 (fun S1 => ?_)
  refine X_aload_n 0 dX9_remove_5 rfl rfl ?_
  refine X_getI kF_X9_170 rfl dX9_remove_6 (fun x2 => ?_)
  refine X_if_eq (tgt := 15) dX9_remove_9 (by decide) ?_ ?_
  · skip
    refine X_aload_n 0 dX9_remove_15 rfl rfl ?_
    refine X_iload_n 1 dX9_remove_16 rfl rfl ?_
    refine X_callVI (ci := 9) (As := [.int p1]) (st := []) (c_X9_find E S1 a0 p1) (by decide) rfl kC_X9_find kL_X9_196 kI_X9_find kE_X9_find (by unfold g_okR; decide) rfl (Nat.le_of_ble_eq_true rfl) dX9_remove_17 (fun x4 S3 => ?_)
    refine X_istore_n (lv2 := [(2, .int x4), (0, .ref a0), (1, .int p1)]) dX9_remove_20 rfl (by decide) rfl ?_
    refine X_iload_n 0 dX9_remove_21 rfl rfl ?_
    refine X_if_ge (tgt := 28) dX9_remove_22 (by decide) ?_ ?_
    · skip
      refine X_aload_n 1 dX9_remove_28 rfl rfl ?_
      refine X_getI kF_X9_193 rfl dX9_remove_29 (fun x5 => ?_)
      refine X_jn (fun (j : gS → Int32 → Option (Int32 × gS)) => ∀ (S6 : gS) (w7 : Int32), gJ gI E M_X9_remove (gn S) (gsl S) 54 [(0, .ref a0), (1, .int p1), (2, .int x4)] [.int w7] S6 (j S6 w7)) ?_ (fun jb8 hjb8 => ?_)
      · intro S6 w7
        refine X_istore_n (lv2 := [(3, .int w7), (0, .ref a0), (1, .int p1), (2, .int x4)]) dX9_remove_54 rfl (by decide) rfl ?_
        refine X_aload_n 1 dX9_remove_55 rfl rfl ?_
        refine X_iload_n 0 dX9_remove_56 rfl rfl ?_
        refine X_callVI (ci := 9) (As := [.int w7]) (st := []) (c_X9_acts E S6 a0 w7) (by decide) rfl kC_X9_acts kL_X9_199 kI_X9_acts kE_X9_acts (by unfold g_okR; decide) rfl (Nat.le_of_ble_eq_true rfl) dX9_remove_57 (fun x10 S9 => ?_)
        refine X_istore (lv2 := [(4, .int x10), (3, .int w7), (0, .ref a0), (1, .int p1), (2, .int x4)]) dX9_remove_60 (by decide) rfl ?_
        refine X_iload 0 dX9_remove_62 rfl ?_
        refine X_if_eq (tgt := 80) dX9_remove_64 (by decide) ?_ ?_
        · skip
          refine X_bipush (v := (-9 : Int32)) dX9_remove_80 (by decide) ?_
          exact X_iret rfl dX9_remove_82
        · skip
          refine X_aload_n 2 dX9_remove_67 rfl rfl ?_
          refine X_getI kF_X9_193 rfl dX9_remove_68 (fun x11 => ?_)
          refine X_jn (fun (j : gS → Option (Int32 × gS)) => ∀ (S12 : gS), gJ gI E M_X9_remove (gn S) (gsl S) 83 [(0, .ref a0), (1, .int p1), (2, .int x4), (3, .int w7), (4, .int x10)] [] S12 (j S12)) ?_ (fun jb13 hjb13 => ?_)
          · intro S12
            refine X_aload_n 0 dX9_remove_83 rfl rfl ?_
            refine X_iload_n 2 dX9_remove_84 rfl rfl ?_
            refine X_callVV (ci := 9) (As := [.int x4]) (st := []) (c_X9_drop E S12 a0 x4) (by decide) rfl kC_X9_drop kL_X9_220 kI_X9_drop kE_X9_drop (by unfold g_okR; decide) rfl (Nat.le_of_ble_eq_true rfl) dX9_remove_85 (fun S14 => ?_)
            refine X_iload 4 dX9_remove_88 rfl ?_
            refine X_iload_n 3 dX9_remove_90 rfl rfl ?_
            refine X_icmp_ne (tgt := 96) dX9_remove_91 (by decide) ?_ ?_
            · skip
              refine X_iconst (v := (1 : Int32)) dX9_remove_94 (by decide) ?_
              exact X_iret rfl dX9_remove_95
            · skip
              refine X_aload_n 0 dX9_remove_96 rfl rfl ?_
              refine X_iconst (v := (1 : Int32)) dX9_remove_97 (by decide) ?_
              refine X_putZ kF_X9_217 rfl rfl dX9_remove_98 (fun S15 => ?_)
              refine X_bipush (v := (-9 : Int32)) dX9_remove_101 (by decide) ?_
              exact X_iret rfl dX9_remove_103
          · skip
            refine X_if_ne (tgt := 83) dX9_remove_71 (by decide) ?_ ?_
            · skip
              refine X_iload 0 dX9_remove_74 rfl ?_
              refine X_iload_n 1 dX9_remove_76 rfl rfl ?_
              refine X_icmp_ge (tgt := 83) dX9_remove_77 (by decide) ?_ ?_
              · skip
                exact X_sub [2, 3, 4, 1, 0] rfl (hjb13 _)
              · skip
                refine X_bipush (v := (-9 : Int32)) dX9_remove_80 (by decide) ?_
                exact X_iret rfl dX9_remove_82
            · skip
              exact X_sub [2, 3, 4, 1, 0] rfl (hjb13 _)
      · skip
        refine X_if_eq (tgt := 39) dX9_remove_32 (by decide) ?_ ?_
        · skip
          refine X_aload_n 1 dX9_remove_39 rfl rfl ?_
          refine X_getR kF_X9_29 rfl dX9_remove_40 (fun a16 => ?_)
          refine X_iload_n 0 dX9_remove_43 rfl rfl ?_
          refine X_iald dX9_remove_44 (fun x17 => ?_)
          refine X_iconst (v := (2 : Int32)) dX9_remove_45 (by decide) ?_
          refine X_icmp_ne (tgt := 53) dX9_remove_46 (by decide) ?_ ?_
          · skip
            refine X_iconst (v := (2 : Int32)) dX9_remove_49 (by decide) ?_
            refine X_goto (tgt := 54) dX9_remove_50 (by decide) ?_
            exact X_sub [1, 2, 0] rfl (hjb8 _ _)
          · skip
            refine X_iconst (v := (1 : Int32)) dX9_remove_53 (by decide) ?_
            exact X_sub [1, 2, 0] rfl (hjb8 _ _)
        · skip
          refine X_iconst (v := (4 : Int32)) dX9_remove_35 (by decide) ?_
          refine X_goto (tgt := 54) dX9_remove_36 (by decide) ?_
          exact X_sub [1, 2, 0] rfl (hjb8 _ _)
    · skip
      refine X_bipush (v := (-3 : Int32)) dX9_remove_25 (by decide) ?_
      exact X_iret rfl dX9_remove_27
  · skip
    refine X_bipush (v := (-8 : Int32)) dX9_remove_12 (by decide) ?_
    exact X_iret rfl dX9_remove_14
set_option maxRecDepth 100000 in
theorem kC_X9_remove : g_okC M_X9_remove 1 := And.intro (g_t (i := 818) rfl (by decide +kernel)) (And.intro (g_nd nd_10_ok (k := 19) rfl) (And.intro (by decide) (And.intro (by decide) (by decide +kernel))))
def M_X9_restart : gM := (yX9_restart, cX9_restart, 1, some .int, 2, 42)
def f_X9_restart (S : gS) (a0 : Nat) : Option (Int32 × gS) :=
g_putI S 9 30 a0 (0 : Int32) fun S1 =>
g_getI S1 9 32 a0 fun x2 =>
if x2 = 0 then (
some ((-2 : Int32), S1))
else (
g_getI S1 9 33 a0 fun x3 =>
g_jn (fun (S4 : gS) => (
g_putZ S4 9 33 a0 (0 : Int32) fun S6 =>
g_putZ S6 9 32 a0 (0 : Int32) fun S7 =>
some ((1 : Int32), S7))) fun jb5 => (
if x3 = 0 then (
jb5 S1)
else (
g_cVI S1 9 a0 (f_X9_acts S1 a0 (3 : Int32)) fun x9 S8 =>
if (3 : Int32) ≤ x9 then (
jb5 S8)
else (
some ((-9 : Int32), S8)))))
set_option maxRecDepth 100000 in
set_option maxHeartbeats 4000000 in
theorem c_X9_restart (E : gE) (S : gS) (a0 : Nat) : gC gI E M_X9_restart [.ref a0] S (f_X9_restart S a0) := by
  refine gC.of (by decide) (Nat.le_of_ble_eq_true rfl) ?_
  unfold f_X9_restart
  show gJ gI E M_X9_restart _ _ 0 [(0, .ref a0)] [] S _
  refine X_aload_n 0 dX9_restart_0 rfl rfl ?_
  refine X_iconst (v := (0 : Int32)) dX9_restart_1 (by decide) ?_
  refine X_putI kF_X9_177 rfl rfl dX9_restart_2 (fun S1 => ?_)
  refine X_aload_n 0 dX9_restart_5 rfl rfl ?_
  refine X_getI kF_X9_170 rfl dX9_restart_6 (fun x2 => ?_)
  refine X_if_ne (tgt := 15) dX9_restart_9 (by decide) ?_ ?_
  · skip
    refine X_bipush (v := (-2 : Int32)) dX9_restart_12 (by decide) ?_
    exact X_iret rfl dX9_restart_14
  · skip
    refine X_aload_n 0 dX9_restart_15 rfl rfl ?_
    refine X_getI kF_X9_217 rfl dX9_restart_16 (fun x3 => ?_)
    refine X_jn (fun (j : gS → Option (Int32 × gS)) => ∀ (S4 : gS), gJ gI E M_X9_restart (gn S) (gsl S) 34 [(0, .ref a0)] [] S4 (j S4)) ?_ (fun jb5 hjb5 => ?_)
    · intro S4
      refine X_aload_n 0 dX9_restart_34 rfl rfl ?_
      refine X_iconst (v := (0 : Int32)) dX9_restart_35 (by decide) ?_
      refine X_putZ kF_X9_217 rfl rfl dX9_restart_36 (fun S6 => ?_)
      refine X_aload_n 0 dX9_restart_39 rfl rfl ?_
      refine X_iconst (v := (0 : Int32)) dX9_restart_40 (by decide) ?_
      refine X_putZ kF_X9_170 rfl rfl dX9_restart_41 (fun S7 => ?_)
      refine X_iconst (v := (1 : Int32)) dX9_restart_44 (by decide) ?_
      exact X_iret rfl dX9_restart_45
    · skip
      refine X_if_eq (tgt := 34) dX9_restart_19 (by decide) ?_ ?_
      · skip
        exact (hjb5 _)
      · skip
        refine X_aload_n 0 dX9_restart_22 rfl rfl ?_
        refine X_iconst (v := (3 : Int32)) dX9_restart_23 (by decide) ?_
        refine X_callVI (ci := 9) (As := [.int (3 : Int32)]) (st := []) (c_X9_acts E S1 a0 (3 : Int32)) (by decide) rfl kC_X9_acts kL_X9_199 kI_X9_acts kE_X9_acts (by unfold g_okR; decide) rfl (Nat.le_of_ble_eq_true rfl) dX9_restart_24 (fun x9 S8 => ?_)
        refine X_iconst (v := (3 : Int32)) dX9_restart_27 (by decide) ?_
        refine X_icmp_ge (tgt := 34) dX9_restart_28 (by decide) ?_ ?_
        · skip
          exact (hjb5 _)
        · skip
          refine X_bipush (v := (-9 : Int32)) dX9_restart_31 (by decide) ?_
          exact X_iret rfl dX9_restart_33
set_option maxRecDepth 100000 in
theorem kC_X9_restart : g_okC M_X9_restart 0 := And.intro (g_t (i := 885) rfl (by decide +kernel)) (And.intro (g_nd nd_10_ok (k := 19) rfl) (And.intro (by decide) (And.intro (by decide) (by decide +kernel))))
def M_X9_rollback : gM := (yX9_rollback, cX9_rollback, 2, some .int, 1, 20)
def l_X9_rollback_37 (u0 : Nat) : Nat → gS → Int32 → (gS → Int32 → Option (Int32 × gS)) → Option (Int32 × gS)
  | 0, _, _, _ => none
  | n + 1, S, u1, K1 =>
    g_getI S 9 6 u0 fun x6 =>
    if x6 ≤ u1 then (
    K1 S u1)
    else (
    g_getR S 9 7 u0 fun a7 =>
    g_getR S 9 9 u0 fun a8 =>
    g_ldI S 12 a8 u1 fun x9 =>
    g_jn (fun (S10 : gS) (w11 : Int32) (w12 : Int32) (w13 : Nat) => (
    g_stI S10 w13 w12 w11 fun S15 =>
    l_X9_rollback_37 u0 n S15 (u1 + (1 : Int32)) K1)) fun jb14 => (
    if x9 = 0 then (
    jb14 S (0 : Int32) u1 a7)
    else (
    jb14 S (1 : Int32) u1 a7)))
def f_X9_rollback (S : gS) (a0 : Nat) : Option (Int32 × gS) :=
g_putI S 9 30 a0 (0 : Int32) fun S1 =>
g_getI S1 9 32 a0 fun x2 =>
if x2 = 0 then (
g_getI S1 9 15 a0 fun x3 =>
if x3 = 0 then (
some ((-2 : Int32), S1))
else (
g_cVI S1 9 a0 (f_X9_act S1 a0) fun x5 S4 =>
if x5 = 0 then (
some ((-9 : Int32), S4))
else (
l_X9_rollback_37 a0 100 S4 (0 : Int32) (fun S16 v17 => (
g_putZ S16 9 15 a0 (0 : Int32) fun S18 =>
g_getI S18 9 14 a0 fun x19 =>
some (x19, S18))))))
else (
some ((-8 : Int32), S1))
set_option maxRecDepth 100000 in
set_option maxHeartbeats 4000000 in
theorem j_X9_rollback_37 (E : gE) {n0 s0 : Nat} (u0 : Nat) : ∀ (n : Nat) (S : gS) (u1 : Int32) (K1 : (gS → Int32 → Option (Int32 × gS))), (∀ (S : gS) (u1 : Int32), gJ gI E M_X9_rollback n0 s0 71 [(0, .ref u0), (1, .int u1)] [] S (K1 S u1)) → gJ gI E M_X9_rollback n0 s0 37 [(0, .ref u0), (1, .int u1)] [] S (l_X9_rollback_37 u0 n S u1 K1) := by
  intro n
  induction n with
  | zero =>
    intros
    rw [l_X9_rollback_37]
    exact gJ.none
  | succ n ih =>
    intro S u1 K1 hK1
    rw [l_X9_rollback_37]
    refine X_iload_n 1 dX9_rollback_37 rfl rfl ?_
    refine X_aload_n 0 dX9_rollback_38 rfl rfl ?_
    refine X_getI kF_X9_187 rfl dX9_rollback_39 (fun x6 => ?_)
    refine X_icmp_ge (tgt := 71) dX9_rollback_42 (by decide) ?_ ?_
    · skip
      exact (hK1 _ _)
    · skip
      refine X_aload_n 0 dX9_rollback_45 rfl rfl ?_
      refine X_getR kF_X9_29 rfl dX9_rollback_46 (fun a7 => ?_)
      refine X_iload_n 1 dX9_rollback_49 rfl rfl ?_
      refine X_aload_n 0 dX9_rollback_50 rfl rfl ?_
      refine X_getR kF_X9_36 rfl dX9_rollback_51 (fun a8 => ?_)
      refine X_iload_n 1 dX9_rollback_54 rfl rfl ?_
      refine X_zald dX9_rollback_55 (fun x9 => ?_)
      refine X_jn (fun (j : gS → Int32 → Int32 → Nat → Option (Int32 × gS)) => ∀ (S10 : gS) (w11 : Int32) (w12 : Int32) (w13 : Nat), gJ gI E M_X9_rollback n0 s0 64 [(0, .ref u0), (1, .int u1)] [.int w11, .int w12, .ref w13] S10 (j S10 w11 w12 w13)) ?_ (fun jb14 hjb14 => ?_)
      · intro S10 w11 w12 w13
        refine X_iast dX9_rollback_64 (fun S15 => ?_)
        refine X_iinc (k := 1) (x := u1) (v := (1 : Int32)) (lv2 := [(1, .int (u1 + (1 : Int32))), (0, .ref u0)]) dX9_rollback_65 rfl (by decide) (by decide) rfl ?_
        refine X_goto (tgt := 37) dX9_rollback_68 (by decide) ?_
        exact X_sub [1, 0] rfl (ih _ _ _ hK1)
      · skip
        refine X_if_eq (tgt := 63) dX9_rollback_56 (by decide) ?_ ?_
        · skip
          refine X_iconst (v := (0 : Int32)) dX9_rollback_63 (by decide) ?_
          exact (hjb14 _ _ _ _)
        · skip
          refine X_iconst (v := (1 : Int32)) dX9_rollback_59 (by decide) ?_
          refine X_goto (tgt := 64) dX9_rollback_60 (by decide) ?_
          exact (hjb14 _ _ _ _)
set_option maxRecDepth 100000 in
set_option maxHeartbeats 4000000 in
theorem c_X9_rollback (E : gE) (S : gS) (a0 : Nat) : gC gI E M_X9_rollback [.ref a0] S (f_X9_rollback S a0) := by
  refine gC.of (by decide) (Nat.le_of_ble_eq_true rfl) ?_
  unfold f_X9_rollback
  show gJ gI E M_X9_rollback _ _ 0 [(0, .ref a0)] [] S _
  refine X_aload_n 0 dX9_rollback_0 rfl rfl ?_
  refine X_iconst (v := (0 : Int32)) dX9_rollback_1 (by decide) ?_
  refine X_putI kF_X9_177 rfl rfl dX9_rollback_2 (fun S1 => ?_)
  refine X_aload_n 0 dX9_rollback_5 rfl rfl ?_
  refine X_getI kF_X9_170 rfl dX9_rollback_6 (fun x2 => ?_)
  refine X_if_eq (tgt := 15) dX9_rollback_9 (by decide) ?_ ?_
  · skip
    refine X_aload_n 0 dX9_rollback_15 rfl rfl ?_
    refine X_getI kF_X9_193 rfl dX9_rollback_16 (fun x3 => ?_)
    refine X_if_ne (tgt := 25) dX9_rollback_19 (by decide) ?_ ?_
    · skip
      refine X_bipush (v := (-2 : Int32)) dX9_rollback_22 (by decide) ?_
      exact X_iret rfl dX9_rollback_24
    · skip
      refine X_aload_n 0 dX9_rollback_25 rfl rfl ?_
      refine X_callVI (ci := 9) (As := []) (st := []) (c_X9_act E S1 a0) (by decide) rfl kC_X9_act kL_X9_180 kI_X9_act kE_X9_act (by unfold g_okR; decide) rfl (Nat.le_of_ble_eq_true rfl) dX9_rollback_26 (fun x5 S4 => ?_)
      refine X_if_ne (tgt := 35) dX9_rollback_29 (by decide) ?_ ?_
      · skip
        refine X_bipush (v := (-9 : Int32)) dX9_rollback_32 (by decide) ?_
        exact X_iret rfl dX9_rollback_34
      · skip
        refine X_iconst (v := (0 : Int32)) dX9_rollback_35 (by decide) ?_
        refine X_istore_n (lv2 := [(1, .int (0 : Int32)), (0, .ref a0)]) dX9_rollback_36 rfl (by decide) rfl ?_
        refine X_sub [1, 0] rfl (j_X9_rollback_37 E a0 100 _ _ _ (fun S16 v17 => ?_))
        refine X_aload_n 0 dX9_rollback_71 rfl rfl ?_
        refine X_iconst (v := (0 : Int32)) dX9_rollback_72 (by decide) ?_
        refine X_putZ kF_X9_193 rfl rfl dX9_rollback_73 (fun S18 => ?_)
        refine X_aload_n 0 dX9_rollback_76 rfl rfl ?_
        refine X_getI kF_X9_227 rfl dX9_rollback_77 (fun x19 => ?_)
        exact X_iret rfl dX9_rollback_80
  · skip
    refine X_bipush (v := (-8 : Int32)) dX9_rollback_12 (by decide) ?_
    exact X_iret rfl dX9_rollback_14
set_option maxRecDepth 100000 in
theorem kC_X9_rollback : g_okC M_X9_rollback 0 := And.intro (g_t (i := 869) rfl (by decide +kernel)) (And.intro (g_nd nd_10_ok (k := 19) rfl) (And.intro (by decide) (And.intro (by decide) (by decide +kernel))))
def M_X9_scrap : gM := (yX9_scrap, cX9_scrap, 2, some .int, 0, 0)
def f_X9_scrap (S : gS) (a0 : Nat) : Option (Int32 × gS) :=
g_getI S 9 21 a0 fun x1 =>
g_putI S 9 21 a0 (0 : Int32) fun S2 =>
some (x1, S2)
set_option maxRecDepth 100000 in
set_option maxHeartbeats 4000000 in
theorem c_X9_scrap (E : gE) (S : gS) (a0 : Nat) : gC gI E M_X9_scrap [.ref a0] S (f_X9_scrap S a0) := by
  refine gC.of (by decide) (Nat.le_of_ble_eq_true rfl) ?_
  unfold f_X9_scrap
  show gJ gI E M_X9_scrap _ _ 0 [(0, .ref a0)] [] S _
  refine X_aload_n 0 dX9_scrap_0 rfl rfl ?_
  refine X_getI kF_X9_184 rfl dX9_scrap_1 (fun x1 => ?_)
  refine X_istore_n (lv2 := [(1, .int x1), (0, .ref a0)]) dX9_scrap_4 rfl (by decide) rfl ?_
  refine X_aload_n 1 dX9_scrap_5 rfl rfl ?_
  refine X_iconst (v := (0 : Int32)) dX9_scrap_6 (by decide) ?_
  refine X_putI kF_X9_184 rfl rfl dX9_scrap_7 (fun S2 => ?_)
  refine X_iload_n 0 dX9_scrap_10 rfl rfl ?_
  exact X_iret rfl dX9_scrap_11
set_option maxRecDepth 100000 in
theorem kC_X9_scrap : g_okC M_X9_scrap 0 := And.intro (g_t (i := 709) rfl (by decide +kernel)) (And.intro (g_nd nd_10_ok (k := 19) rfl) (And.intro (by decide) (And.intro (by decide) (by decide +kernel))))
def M_X9_seen : gM := (yX9_seen, cX9_seen, 1, some .int, 0, 0)
def f_X9_seen (S : gS) (a0 : Nat) : Option (Int32 × gS) :=
g_getI S 9 27 a0 fun x1 =>
some (x1, S)
set_option maxRecDepth 100000 in
set_option maxHeartbeats 4000000 in
theorem c_X9_seen (E : gE) (S : gS) (a0 : Nat) : gC gI E M_X9_seen [.ref a0] S (f_X9_seen S a0) := by
  refine gC.of (by decide) (Nat.le_of_ble_eq_true rfl) ?_
  unfold f_X9_seen
  show gJ gI E M_X9_seen _ _ 0 [(0, .ref a0)] [] S _
  refine X_aload_n 0 dX9_seen_0 rfl rfl ?_
  refine X_getI kF_X9_78 rfl dX9_seen_1 (fun x1 => ?_)
  exact X_iret rfl dX9_seen_4
set_option maxRecDepth 100000 in
theorem kC_X9_seen : g_okC M_X9_seen 0 := And.intro (g_t (i := 830) rfl (by decide +kernel)) (And.intro (g_nd nd_10_ok (k := 19) rfl) (And.intro (by decide) (And.intro (by decide) (by decide +kernel))))
def M_X9_value : gM := (yX9_value, cX9_value, 2, some .long, 1, 22)
def f_X9_value (S : gS) (a0 : Nat) (p1 : Int32) : Option (Int64 × gS) :=
g_getI S 9 27 a0 fun x1 =>
g_cI (f_X9_isIn S p1 (0 : Int32) (x1 - (1 : Int32))) fun x3 S2 =>
if x3 = 0 then (
some ((0 : Int64), S2))
else (
g_getR S2 9 28 a0 fun a4 =>
g_ldI S2 10 a4 p1 fun x5 =>
if x5 = (4 : Int32) then (
g_getR S2 9 1 a0 fun a6 =>
g_ldI S2 10 a6 ((640 : Int32) + p1) fun x7 =>
some ((x7).toInt64, S2))
else (
g_getR S2 9 0 a0 fun a8 =>
g_ldL S2 a8 ((640 : Int32) + p1) fun x9 =>
some (x9, S2)))
set_option maxRecDepth 100000 in
set_option maxHeartbeats 4000000 in
theorem c_X9_value (E : gE) (S : gS) (a0 : Nat) (p1 : Int32) : gC gL E M_X9_value [.ref a0, .int p1] S (f_X9_value S a0 p1) := by
  refine gC.of (by decide) (Nat.le_of_ble_eq_true rfl) ?_
  unfold f_X9_value
  show gJ gL E M_X9_value _ _ 0 [(0, .ref a0), (1, .int p1)] [] S _
  refine X_iload_n 1 dX9_value_0 rfl rfl ?_
  refine X_iconst (v := (0 : Int32)) dX9_value_1 (by decide) ?_
  refine X_aload_n 0 dX9_value_2 rfl rfl ?_
  refine X_getI kF_X9_78 rfl dX9_value_3 (fun x1 => ?_)
  refine X_iconst (v := (1 : Int32)) dX9_value_6 (by decide) ?_
  refine X_isub dX9_value_7 ?_
  refine X_callSI (As := [.int p1, .int (0 : Int32), .int (x1 - (1 : Int32))]) (st := []) (c_X9_isIn E S p1 (0 : Int32) (x1 - (1 : Int32))) kC_X9_isIn kL_X9_110 kS_X9_isIn (by unfold g_okR; decide) rfl (Nat.le_of_ble_eq_true rfl) dX9_value_8 (fun x3 S2 => ?_)
  refine X_if_ne (tgt := 16) dX9_value_11 (by decide) ?_ ?_
  · skip
    refine X_lconst (v := (0 : Int64)) dX9_value_14 (by decide) ?_
    exact X_lret rfl dX9_value_15
  · skip
    refine X_aload_n 0 dX9_value_16 rfl rfl ?_
    refine X_getR kF_X9_82 rfl dX9_value_17 (fun a4 => ?_)
    refine X_iload_n 1 dX9_value_20 rfl rfl ?_
    refine X_iald dX9_value_21 (fun x5 => ?_)
    refine X_iconst (v := (4 : Int32)) dX9_value_22 (by decide) ?_
    refine X_icmp_ne (tgt := 40) dX9_value_23 (by decide) ?_ ?_
    · skip
      refine X_aload_n 0 dX9_value_26 rfl rfl ?_
      refine X_getR kF_X9_13 rfl dX9_value_27 (fun a6 => ?_)
      refine X_sipush (v := (640 : Int32)) dX9_value_30 (by decide) ?_
      refine X_iload_n 1 dX9_value_33 rfl rfl ?_
      refine X_iadd dX9_value_34 ?_
      refine X_iald dX9_value_35 (fun x7 => ?_)
      refine X_i2l dX9_value_36 ?_
      refine X_goto (tgt := 50) dX9_value_37 (by decide) ?_
      exact X_lret rfl dX9_value_50
    · skip
      refine X_aload_n 0 dX9_value_40 rfl rfl ?_
      refine X_getR kF_X9_7 rfl dX9_value_41 (fun a8 => ?_)
      refine X_sipush (v := (640 : Int32)) dX9_value_44 (by decide) ?_
      refine X_iload_n 1 dX9_value_47 rfl rfl ?_
      refine X_iadd dX9_value_48 ?_
      refine X_lald dX9_value_49 (fun x9 => ?_)
      exact X_lret rfl dX9_value_50
set_option maxRecDepth 100000 in
theorem kC_X9_value : g_okC M_X9_value 1 := And.intro (g_t (i := 834) rfl (by decide +kernel)) (And.intro (g_nd nd_10_ok (k := 19) rfl) (And.intro (by decide) (And.intro (by decide) (by decide +kernel))))
def M_X9_follow : gM := (yX9_follow, cX9_follow, 4, none, 2, 46)
def l_X9_follow_8 (u0 : Nat) : Nat → gS → Int32 → (gS → Int32 → Option (gS)) → Option (gS)
  | 0, _, _, _ => none
  | n + 1, S, u1, K1 =>
    if (8 : Int32) ≤ u1 then (
    K1 S u1)
    else (
    g_getR S 9 34 u0 fun a2 =>
    g_stI S a2 u1 u1 fun S3 =>
    g_getR S3 9 35 u0 fun a4 =>
    g_stZ S3 a4 u1 (0 : Int32) fun S5 =>
    g_getR S5 9 37 u0 fun a6 =>
    g_stI S5 a6 u1 (0 : Int32) fun S7 =>
    l_X9_follow_8 u0 n S7 (u1 + (1 : Int32)) K1)
def l_X9_follow_181 (u0 : Nat) (u1 : Int32) (u2 : Int32) : Nat → gS → Int32 → (gS → Int32 → Option (gS)) → Option (gS)
  | 0, _, _, _ => none
  | n + 1, S, u3, K1 =>
    g_getR S 9 13 u0 fun a32 =>
    g_ldI S 10 a32 (2 : Int32) fun x33 =>
    if x33 ≤ (u3 + (1 : Int32)) then (
    K1 S u3)
    else (
    g_getR S 9 34 u0 fun a34 =>
    g_getR S 9 34 u0 fun a35 =>
    g_ldI S 10 a35 (u3 + (1 : Int32)) fun x36 =>
    g_stI S a34 u3 x36 fun S37 =>
    l_X9_follow_181 u0 u1 u2 n S37 (u3 + (1 : Int32)) K1)
def l_X9_follow_44 (u0 : Nat) : Nat → gS → Int32 → Option (gS)
  | 0, _, _ => none
  | n + 1, S, u1 =>
    g_getI S 9 22 u0 fun x10 =>
    if ((6 : Int32) + x10) ≤ u1 then (
    some S)
    else (
    g_getR S 9 17 u0 fun a11 =>
    g_ldI S 10 a11 u1 fun x12 =>
    g_cVI S 9 u0 (f_X9_place S u0 x12) fun x14 S13 =>
    g_getR S13 9 16 u0 fun a15 =>
    g_ldI S13 10 a15 u1 fun x16 =>
    g_jn (fun (S17 : gS) => (
    g_getR S17 9 16 u0 fun a19 =>
    g_ldI S17 10 a19 u1 fun x20 =>
    g_jn (fun (S21 : gS) => (
    g_getR S21 9 16 u0 fun a23 =>
    g_ldI S21 10 a23 u1 fun x24 =>
    g_jn (fun (S25 : gS) => (
    g_cVV S25 9 u0 (f_X9_step S25 u0 u1) fun S27 =>
    l_X9_follow_44 u0 n S27 (u1 + (1 : Int32)) )) fun jb26 => (
    if x24 = (1 : Int32) then (
    g_getR S21 9 34 u0 fun a28 =>
    g_ldI S21 10 a28 x14 fun x29 =>
    g_jn (fun (S30 : gS) => (
    l_X9_follow_181 u0 u1 x14 100 S30 x14 (fun S38 v39 => (
    jb26 S38)))) fun jb31 => (
    if x29 < 0 then (
    jb31 S21)
    else (
    g_getR S21 9 35 u0 fun a40 =>
    g_getR S21 9 34 u0 fun a41 =>
    g_ldI S21 10 a41 x14 fun x42 =>
    g_stZ S21 a40 x42 (1 : Int32) fun S43 =>
    jb31 S43)))
    else (
    jb26 S21)))) fun jb22 => (
    if x20 = (3 : Int32) then (
    g_getR S17 9 34 u0 fun a44 =>
    g_ldI S17 10 a44 x14 fun x45 =>
    if x45 < 0 then (
    jb22 S17)
    else (
    g_getR S17 9 34 u0 fun a46 =>
    g_ldI S17 10 a46 x14 fun x47 =>
    g_getR S17 9 36 u0 fun a48 =>
    g_getR S17 9 37 u0 fun a49 =>
    g_ldI S17 10 a49 x47 fun x50 =>
    g_getR S17 9 12 u0 fun a51 =>
    g_ldI S17 10 a51 ((16 : Int32) + x14) fun x52 =>
    g_stI S17 a48 (((6 : Int32) * x47) + x50) x52 fun S53 =>
    g_getR S53 9 37 u0 fun a54 =>
    g_ldI S53 10 a54 x47 fun x55 =>
    g_stI S53 a54 x47 (x55 + (1 : Int32)) fun S56 =>
    jb22 S56))
    else (
    jb22 S17)))) fun jb18 => (
    if x16 = 0 then (
    g_getR S13 9 34 u0 fun a57 =>
    g_getR S13 9 13 u0 fun a58 =>
    g_ldI S13 10 a58 (2 : Int32) fun x59 =>
    g_stI S13 a57 x59 (-1 : Int32) fun S60 =>
    jb18 S60)
    else (
    jb18 S13)))
def f_X9_follow (S : gS) (a0 : Nat) : Option (gS) :=
g_cVV S 9 a0 (f_X9_copySchema S a0 (0 : Int32) (2 : Int32)) fun S1 =>
l_X9_follow_8 a0 100 S1 (0 : Int32) (fun S8 v9 => (
l_X9_follow_44 a0 100 S8 (6 : Int32) ))
set_option maxRecDepth 100000 in
set_option maxHeartbeats 4000000 in
theorem j_X9_follow_8 (E : gE) {n0 s0 : Nat} (u0 : Nat) : ∀ (n : Nat) (S : gS) (u1 : Int32) (K1 : (gS → Int32 → Option (gS))), (∀ (S : gS) (u1 : Int32), gJ gV E M_X9_follow n0 s0 41 [(0, .ref u0), (1, .int u1)] [] S (K1 S u1)) → gJ gV E M_X9_follow n0 s0 8 [(0, .ref u0), (1, .int u1)] [] S (l_X9_follow_8 u0 n S u1 K1) := by
  intro n
  induction n with
  | zero =>
    intros
    rw [l_X9_follow_8]
    exact gJ.none
  | succ n ih =>
    intro S u1 K1 hK1
    rw [l_X9_follow_8]
    refine X_iload_n 1 dX9_follow_8 rfl rfl ?_
    refine X_bipush (v := (8 : Int32)) dX9_follow_9 (by decide) ?_
    refine X_icmp_ge (tgt := 41) dX9_follow_11 (by decide) ?_ ?_
    · skip
      exact (hK1 _ _)
    · skip
      refine X_aload_n 0 dX9_follow_14 rfl rfl ?_
      refine X_getR kF_X9_85 rfl dX9_follow_15 (fun a2 => ?_)
      refine X_iload_n 1 dX9_follow_18 rfl rfl ?_
      refine X_iload_n 1 dX9_follow_19 rfl rfl ?_
      refine X_iast dX9_follow_20 (fun S3 => ?_)
      refine X_aload_n 0 dX9_follow_21 rfl rfl ?_
      refine X_getR kF_X9_88 rfl dX9_follow_22 (fun a4 => ?_)
      refine X_iload_n 1 dX9_follow_25 rfl rfl ?_
      refine X_iconst (v := (0 : Int32)) dX9_follow_26 (by decide) ?_
      refine X_zast dX9_follow_27 (fun S5 => ?_)
      refine X_aload_n 0 dX9_follow_28 rfl rfl ?_
      refine X_getR kF_X9_94 rfl dX9_follow_29 (fun a6 => ?_)
      refine X_iload_n 1 dX9_follow_32 rfl rfl ?_
      refine X_iconst (v := (0 : Int32)) dX9_follow_33 (by decide) ?_
      refine X_iast dX9_follow_34 (fun S7 => ?_)
      refine X_iinc (k := 1) (x := u1) (v := (1 : Int32)) (lv2 := [(1, .int (u1 + (1 : Int32))), (0, .ref u0)]) dX9_follow_35 rfl (by decide) (by decide) rfl ?_
      refine X_goto (tgt := 8) dX9_follow_38 (by decide) ?_
      exact X_sub [1, 0] rfl (ih _ _ _ hK1)
set_option maxRecDepth 100000 in
set_option maxHeartbeats 4000000 in
theorem j_X9_follow_181 (E : gE) {n0 s0 : Nat} (u0 : Nat) (u1 : Int32) (u2 : Int32) : ∀ (n : Nat) (S : gS) (u3 : Int32) (K1 : (gS → Int32 → Option (gS))), (∀ (S : gS) (u3 : Int32), gJ gV E M_X9_follow n0 s0 213 [(0, .ref u0), (1, .int u1), (2, .int u2), (3, .int u3)] [] S (K1 S u3)) → gJ gV E M_X9_follow n0 s0 181 [(0, .ref u0), (1, .int u1), (2, .int u2), (3, .int u3)] [] S (l_X9_follow_181 u0 u1 u2 n S u3 K1) := by
  intro n
  induction n with
  | zero =>
    intros
    rw [l_X9_follow_181]
    exact gJ.none
  | succ n ih =>
    intro S u3 K1 hK1
    rw [l_X9_follow_181]
    refine X_iload_n 3 dX9_follow_181 rfl rfl ?_
    refine X_iconst (v := (1 : Int32)) dX9_follow_182 (by decide) ?_
    refine X_iadd dX9_follow_183 ?_
    refine X_aload_n 0 dX9_follow_184 rfl rfl ?_
    refine X_getR kF_X9_48 rfl dX9_follow_185 (fun a32 => ?_)
    refine X_iconst (v := (2 : Int32)) dX9_follow_188 (by decide) ?_
    refine X_iald dX9_follow_189 (fun x33 => ?_)
    refine X_icmp_ge (tgt := 213) dX9_follow_190 (by decide) ?_ ?_
    · skip
      exact (hK1 _ _)
    · skip
      refine X_aload_n 0 dX9_follow_193 rfl rfl ?_
      refine X_getR kF_X9_85 rfl dX9_follow_194 (fun a34 => ?_)
      refine X_iload_n 3 dX9_follow_197 rfl rfl ?_
      refine X_aload_n 0 dX9_follow_198 rfl rfl ?_
      refine X_getR kF_X9_85 rfl dX9_follow_199 (fun a35 => ?_)
      refine X_iload_n 3 dX9_follow_202 rfl rfl ?_
      refine X_iconst (v := (1 : Int32)) dX9_follow_203 (by decide) ?_
      refine X_iadd dX9_follow_204 ?_
      refine X_iald dX9_follow_205 (fun x36 => ?_)
      refine X_iast dX9_follow_206 (fun S37 => ?_)
      refine X_iinc (k := 3) (x := u3) (v := (1 : Int32)) (lv2 := [(3, .int (u3 + (1 : Int32))), (0, .ref u0), (1, .int u1), (2, .int u2)]) dX9_follow_207 rfl (by decide) (by decide) rfl ?_
      refine X_goto (tgt := 181) dX9_follow_210 (by decide) ?_
      exact X_sub [1, 2, 3, 0] rfl (ih _ _ _ hK1)
set_option maxRecDepth 100000 in
set_option maxHeartbeats 4000000 in
theorem j_X9_follow_44 (E : gE) {n0 s0 : Nat} (u0 : Nat) : ∀ (n : Nat) (S : gS) (u1 : Int32), gJ gV E M_X9_follow n0 s0 44 [(0, .ref u0), (1, .int u1)] [] S (l_X9_follow_44 u0 n S u1 ) := by
  intro n
  induction n with
  | zero =>
    intros
    rw [l_X9_follow_44]
    exact gJ.none
  | succ n ih =>
    intro S u1  
    rw [l_X9_follow_44]
    refine X_iload_n 1 dX9_follow_44 rfl rfl ?_
    refine X_bipush (v := (6 : Int32)) dX9_follow_45 (by decide) ?_
    refine X_aload_n 0 dX9_follow_47 rfl rfl ?_
    refine X_getI kF_X9_150 rfl dX9_follow_48 (fun x10 => ?_)
    refine X_iadd dX9_follow_51 ?_
    refine X_icmp_ge (tgt := 224) dX9_follow_52 (by decide) ?_ ?_
    · skip
      exact X_vret rfl dX9_follow_224
    · skip
      refine X_aload_n 0 dX9_follow_55 rfl rfl ?_
      refine X_aload_n 0 dX9_follow_56 rfl rfl ?_
      refine X_getR kF_X9_54 rfl dX9_follow_57 (fun a11 => ?_)
      refine X_iload_n 1 dX9_follow_60 rfl rfl ?_
      refine X_iald dX9_follow_61 (fun x12 => ?_)
      refine X_callVI (ci := 9) (As := [.int x12]) (st := []) (c_X9_place E S u0 x12) (by decide) rfl kC_X9_place kL_X9_136 kI_X9_place kE_X9_place (by unfold g_okR; decide) rfl (Nat.le_of_ble_eq_true rfl) dX9_follow_62 (fun x14 S13 => ?_)
      refine X_istore_n (lv2 := [(2, .int x14), (0, .ref u0), (1, .int u1)]) dX9_follow_65 rfl (by decide) rfl ?_
      refine X_aload_n 1 dX9_follow_66 rfl rfl ?_
      refine X_getR kF_X9_51 rfl dX9_follow_67 (fun a15 => ?_)
      refine X_iload_n 2 dX9_follow_70 rfl rfl ?_
      refine X_iald dX9_follow_71 (fun x16 => ?_)
      refine X_jn (fun (j : gS → Option (gS)) => ∀ (S17 : gS), gJ gV E M_X9_follow n0 s0 87 [(0, .ref u0), (1, .int u1), (2, .int x14)] [] S17 (j S17)) ?_ (fun jb18 hjb18 => ?_)
      · intro S17
        refine X_aload_n 0 dX9_follow_87 rfl rfl ?_
        refine X_getR kF_X9_51 rfl dX9_follow_88 (fun a19 => ?_)
        refine X_iload_n 1 dX9_follow_91 rfl rfl ?_
        refine X_iald dX9_follow_92 (fun x20 => ?_)
        refine X_iconst (v := (3 : Int32)) dX9_follow_93 (by decide) ?_
        refine X_jn (fun (j : gS → Option (gS)) => ∀ (S21 : gS), gJ gV E M_X9_follow n0 s0 148 [(0, .ref u0), (1, .int u1), (2, .int x14)] [] S21 (j S21)) ?_ (fun jb22 hjb22 => ?_)
        · intro S21
          refine X_aload_n 0 dX9_follow_148 rfl rfl ?_
          refine X_getR kF_X9_51 rfl dX9_follow_149 (fun a23 => ?_)
          refine X_iload_n 1 dX9_follow_152 rfl rfl ?_
          refine X_iald dX9_follow_153 (fun x24 => ?_)
          refine X_iconst (v := (1 : Int32)) dX9_follow_154 (by decide) ?_
          refine X_jn (fun (j : gS → Option (gS)) => ∀ (S25 : gS), gJ gV E M_X9_follow n0 s0 213 [(0, .ref u0), (1, .int u1), (2, .int x14)] [] S25 (j S25)) ?_ (fun jb26 hjb26 => ?_)
          · intro S25
            refine X_aload_n 0 dX9_follow_213 rfl rfl ?_
            refine X_iload_n 1 dX9_follow_214 rfl rfl ?_
            refine X_callVV (ci := 9) (As := [.int u1]) (st := []) (c_X9_step E S25 u0 u1) (by decide) rfl kC_X9_step kL_X9_161 kI_X9_step kE_X9_step (by unfold g_okR; decide) rfl (Nat.le_of_ble_eq_true rfl) dX9_follow_215 (fun S27 => ?_)
            refine X_iinc (k := 1) (x := u1) (v := (1 : Int32)) (lv2 := [(1, .int (u1 + (1 : Int32))), (0, .ref u0), (2, .int x14)]) dX9_follow_218 rfl (by decide) (by decide) rfl ?_
            refine X_goto (tgt := 44) dX9_follow_221 (by decide) ?_
            exact X_sub [1, 0] rfl (ih _ _)
          · skip
            refine X_icmp_ne (tgt := 213) dX9_follow_155 (by decide) ?_ ?_
            · skip
              refine X_aload_n 0 dX9_follow_158 rfl rfl ?_
              refine X_getR kF_X9_85 rfl dX9_follow_159 (fun a28 => ?_)
              refine X_iload_n 2 dX9_follow_162 rfl rfl ?_
              refine X_iald dX9_follow_163 (fun x29 => ?_)
              refine X_jn (fun (j : gS → Option (gS)) => ∀ (S30 : gS), gJ gV E M_X9_follow n0 s0 179 [(0, .ref u0), (1, .int u1), (2, .int x14)] [] S30 (j S30)) ?_ (fun jb31 hjb31 => ?_)
              · intro S30
                refine X_iload_n 2 dX9_follow_179 rfl rfl ?_
                refine X_istore_n (lv2 := [(3, .int x14), (0, .ref u0), (1, .int u1), (2, .int x14)]) dX9_follow_180 rfl (by decide) rfl ?_
                refine X_sub [1, 2, 3, 0] rfl (j_X9_follow_181 E u0 u1 x14 100 _ _ _ (fun S38 v39 => ?_))
                exact X_sub [0, 1, 2] rfl (hjb26 _)
              · skip
                refine X_if_lt (tgt := 179) dX9_follow_164 (by decide) ?_ ?_
                · skip
                  exact (hjb31 _)
                · skip
                  refine X_aload_n 0 dX9_follow_167 rfl rfl ?_
                  refine X_getR kF_X9_88 rfl dX9_follow_168 (fun a40 => ?_)
                  refine X_aload_n 0 dX9_follow_171 rfl rfl ?_
                  refine X_getR kF_X9_85 rfl dX9_follow_172 (fun a41 => ?_)
                  refine X_iload_n 2 dX9_follow_175 rfl rfl ?_
                  refine X_iald dX9_follow_176 (fun x42 => ?_)
                  refine X_iconst (v := (1 : Int32)) dX9_follow_177 (by decide) ?_
                  refine X_zast dX9_follow_178 (fun S43 => ?_)
                  exact (hjb31 _)
            · skip
              exact (hjb26 _)
        · skip
          refine X_icmp_ne (tgt := 148) dX9_follow_94 (by decide) ?_ ?_
          · skip
            refine X_aload_n 0 dX9_follow_97 rfl rfl ?_
            refine X_getR kF_X9_85 rfl dX9_follow_98 (fun a44 => ?_)
            refine X_iload_n 2 dX9_follow_101 rfl rfl ?_
            refine X_iald dX9_follow_102 (fun x45 => ?_)
            refine X_if_lt (tgt := 148) dX9_follow_103 (by decide) ?_ ?_
            · skip
              exact (hjb22 _)
            · skip
              refine X_aload_n 0 dX9_follow_106 rfl rfl ?_
              refine X_getR kF_X9_85 rfl dX9_follow_107 (fun a46 => ?_)
              refine X_iload_n 2 dX9_follow_110 rfl rfl ?_
              refine X_iald dX9_follow_111 (fun x47 => ?_)
              refine X_istore_n (lv2 := [(3, .int x47), (0, .ref u0), (1, .int u1), (2, .int x14)]) dX9_follow_112 rfl (by decide) rfl ?_
              refine X_aload_n 1 dX9_follow_113 rfl rfl ?_
              refine X_getR kF_X9_91 rfl dX9_follow_114 (fun a48 => ?_)
              refine X_bipush (v := (6 : Int32)) dX9_follow_117 (by decide) ?_
              refine X_iload_n 0 dX9_follow_119 rfl rfl ?_
              refine X_imul dX9_follow_120 ?_
              refine X_aload_n 1 dX9_follow_121 rfl rfl ?_
              refine X_getR kF_X9_94 rfl dX9_follow_122 (fun a49 => ?_)
              refine X_iload_n 0 dX9_follow_125 rfl rfl ?_
              refine X_iald dX9_follow_126 (fun x50 => ?_)
              refine X_iadd dX9_follow_127 ?_
              refine X_aload_n 1 dX9_follow_128 rfl rfl ?_
              refine X_getR kF_X9_45 rfl dX9_follow_129 (fun a51 => ?_)
              refine X_bipush (v := (16 : Int32)) dX9_follow_132 (by decide) ?_
              refine X_iload_n 3 dX9_follow_134 rfl rfl ?_
              refine X_iadd dX9_follow_135 ?_
              refine X_iald dX9_follow_136 (fun x52 => ?_)
              refine X_iast dX9_follow_137 (fun S53 => ?_)
              refine X_aload_n 1 dX9_follow_138 rfl rfl ?_
              refine X_getR kF_X9_94 rfl dX9_follow_139 (fun a54 => ?_)
              refine X_iload_n 0 dX9_follow_142 rfl rfl ?_
              refine X_dup2 dX9_follow_143 rfl rfl ?_
              refine X_iald dX9_follow_144 (fun x55 => ?_)
              refine X_iconst (v := (1 : Int32)) dX9_follow_145 (by decide) ?_
              refine X_iadd dX9_follow_146 ?_
              refine X_iast dX9_follow_147 (fun S56 => ?_)
              exact X_sub [1, 2, 3] rfl (hjb22 _)
          · skip
            exact (hjb22 _)
      · skip
        refine X_if_ne (tgt := 87) dX9_follow_72 (by decide) ?_ ?_
        · skip
          refine X_aload_n 1 dX9_follow_75 rfl rfl ?_
          refine X_getR kF_X9_85 rfl dX9_follow_76 (fun a57 => ?_)
          refine X_aload_n 1 dX9_follow_79 rfl rfl ?_
          refine X_getR kF_X9_48 rfl dX9_follow_80 (fun a58 => ?_)
          refine X_iconst (v := (2 : Int32)) dX9_follow_83 (by decide) ?_
          refine X_iald dX9_follow_84 (fun x59 => ?_)
          refine X_iconst (v := (-1 : Int32)) dX9_follow_85 (by decide) ?_
          refine X_iast dX9_follow_86 (fun S60 => ?_)
          exact X_sub [1, 2, 0] rfl (hjb18 _)
        · skip
          exact X_sub [1, 2, 0] rfl (hjb18 _)
set_option maxRecDepth 100000 in
set_option maxHeartbeats 4000000 in
theorem c_X9_follow (E : gE) (S : gS) (a0 : Nat) : gC gV E M_X9_follow [.ref a0] S (f_X9_follow S a0) := by
  refine gC.of (by decide) (Nat.le_of_ble_eq_true rfl) ?_
  unfold f_X9_follow
  show gJ gV E M_X9_follow _ _ 0 [(0, .ref a0)] [] S _
  refine X_aload_n 0 dX9_follow_0 rfl rfl ?_
  refine X_iconst (v := (0 : Int32)) dX9_follow_1 (by decide) ?_
  refine X_iconst (v := (2 : Int32)) dX9_follow_2 (by decide) ?_
  refine X_callVV (ci := 9) (As := [.int (0 : Int32), .int (2 : Int32)]) (st := []) (c_X9_copySchema E S a0 (0 : Int32) (2 : Int32)) (by decide) rfl kC_X9_copySchema kL_X9_147 kI_X9_copySchema kE_X9_copySchema (by unfold g_okR; decide) rfl (Nat.le_of_ble_eq_true rfl) dX9_follow_3 (fun S1 => ?_)
  refine X_iconst (v := (0 : Int32)) dX9_follow_6 (by decide) ?_
  refine X_istore_n (lv2 := [(1, .int (0 : Int32)), (0, .ref a0)]) dX9_follow_7 rfl (by decide) rfl ?_
  refine X_sub [1, 0] rfl (j_X9_follow_8 E a0 100 _ _ _ (fun S8 v9 => ?_))
  refine X_bipush (v := (6 : Int32)) dX9_follow_41 (by decide) ?_
  refine X_istore_n (lv2 := [(1, .int (6 : Int32)), (0, .ref a0)]) dX9_follow_43 rfl (by decide) rfl ?_
  exact X_sub [1, 0] rfl (j_X9_follow_44 E a0 100 _ _)
set_option maxRecDepth 100000 in
theorem kC_X9_follow : g_okC M_X9_follow 0 := And.intro (g_t (i := 770) rfl (by decide +kernel)) (And.intro (g_nd nd_10_ok (k := 19) rfl) (And.intro (by decide) (And.intro (by decide) (by decide +kernel))))
def M_X9_down : gM := (yX9_down, cX9_down, 8, none, 3, 74)
def l_X9_down_7 (u0 : Nat) (u1 : Int32) (u2 : Int32) (u3 : Int32) : Nat → gS → Int32 → (gS → Int32 → Option (gS)) → Option (gS)
  | 0, _, _, _ => none
  | n + 1, S, u4, K1 =>
    g_getR S 9 13 u0 fun a2 =>
    g_ldI S 10 a2 (0 : Int32) fun x3 =>
    if x3 ≤ u4 then (
    K1 S u4)
    else (
    g_getR S 9 35 u0 fun a4 =>
    g_ldI S 12 a4 u4 fun x5 =>
    g_jn (fun (S6 : gS) => (
    l_X9_down_7 u0 u1 u2 u3 n S6 (u4 + (1 : Int32)) K1)) fun jb7 => (
    if x5 = 0 then (
    jb7 S)
    else (
    if 0 ≤ u2 then (
    g_cVV S 9 u0 (f_X9_copy S u0 (u2 + u4) (u3 + u4)) fun S8 =>
    jb7 S8)
    else (
    g_cVV S 9 u0 (f_X9_clear S u0 (u3 + u4)) fun S9 =>
    jb7 S9))))
def l_X9_down_127 (u0 : Nat) (u1 : Int32) (u2 : Int32) (u3 : Int32) (u4 : Int32) (u5 : Int32) : Nat → gS → Int32 → Int32 → (gS → Int32 → Int32 → Option (gS)) → Option (gS)
  | 0, _, _, _, _ => none
  | n + 1, S, u6, u7, K1 =>
    if u7 < 0 then (
    K1 S u6 u7)
    else (
    g_getR S 9 36 u0 fun a24 =>
    g_ldI S 10 a24 (((6 : Int32) * u5) + u7) fun x25 =>
    g_cVV S 9 u0 (f_X9_become S u0 (u3 + u5) u6 x25) fun S26 =>
    g_getR S26 9 36 u0 fun a27 =>
    g_ldI S26 10 a27 (((6 : Int32) * u5) + u7) fun x28 =>
    l_X9_down_127 u0 u1 u2 u3 u4 u5 n S26 x28 (u7 + (-1 : Int32)) K1)
def l_X9_down_64 (u0 : Nat) (u1 : Int32) (u2 : Int32) (u3 : Int32) : Nat → gS → Int32 → Option (gS)
  | 0, _, _ => none
  | n + 1, S, u4 =>
    g_getR S 9 13 u0 fun a12 =>
    g_ldI S 10 a12 (1 : Int32) fun x13 =>
    if x13 ≤ u4 then (
    some S)
    else (
    g_getR S 9 34 u0 fun a14 =>
    g_ldI S 10 a14 u4 fun x15 =>
    g_jn (fun (S16 : gS) => (
    l_X9_down_64 u0 u1 u2 u3 n S16 (u4 + (1 : Int32)) )) fun jb17 => (
    if 0 ≤ x15 then (
    g_cVV S 9 u0 (f_X9_copy S u0 (u1 + u4) (u3 + x15)) fun S18 =>
    g_getR S18 9 12 u0 fun a19 =>
    g_ldI S18 10 a19 ((8 : Int32) + u4) fun x20 =>
    g_getR S18 9 37 u0 fun a21 =>
    g_ldI S18 10 a21 x15 fun x22 =>
    g_lt (x22 - (1 : Int32)) fun x23 =>
    l_X9_down_127 u0 u1 u2 u3 u4 x15 100 S18 x20 x23 (fun S29 v30 v31 => (
    jb17 S29)))
    else (
    jb17 S)))
def f_X9_down (S : gS) (a0 : Nat) (p1 : Int32) (p2 : Int32) (p3 : Int32) : Option (gS) :=
g_cVV S 9 a0 (f_X9_follow S a0) fun S1 =>
l_X9_down_7 a0 p1 p2 p3 100 S1 (0 : Int32) (fun S10 v11 => (
l_X9_down_64 a0 p1 p2 p3 100 S10 (0 : Int32) ))
set_option maxRecDepth 100000 in
set_option maxHeartbeats 4000000 in
theorem j_X9_down_7 (E : gE) {n0 s0 : Nat} (u0 : Nat) (u1 : Int32) (u2 : Int32) (u3 : Int32) : ∀ (n : Nat) (S : gS) (u4 : Int32) (K1 : (gS → Int32 → Option (gS))), (∀ (S : gS) (u4 : Int32), gJ gV E M_X9_down n0 s0 61 [(0, .ref u0), (1, .int u1), (2, .int u2), (3, .int u3), (4, .int u4)] [] S (K1 S u4)) → gJ gV E M_X9_down n0 s0 7 [(0, .ref u0), (1, .int u1), (2, .int u2), (3, .int u3), (4, .int u4)] [] S (l_X9_down_7 u0 u1 u2 u3 n S u4 K1) := by
  intro n
  induction n with
  | zero =>
    intros
    rw [l_X9_down_7]
    exact gJ.none
  | succ n ih =>
    intro S u4 K1 hK1
    rw [l_X9_down_7]
    refine X_iload 4 dX9_down_7 rfl ?_
    refine X_aload_n 0 dX9_down_9 rfl rfl ?_
    refine X_getR kF_X9_48 rfl dX9_down_10 (fun a2 => ?_)
    refine X_iconst (v := (0 : Int32)) dX9_down_13 (by decide) ?_
    refine X_iald dX9_down_14 (fun x3 => ?_)
    refine X_icmp_ge (tgt := 61) dX9_down_15 (by decide) ?_ ?_
    · skip
      exact (hK1 _ _)
    · skip
      refine X_aload_n 0 dX9_down_18 rfl rfl ?_
      refine X_getR kF_X9_88 rfl dX9_down_19 (fun a4 => ?_)
      refine X_iload 4 dX9_down_22 rfl ?_
      refine X_zald dX9_down_24 (fun x5 => ?_)
      refine X_jn (fun (j : gS → Option (gS)) => ∀ (S6 : gS), gJ gV E M_X9_down n0 s0 55 [(0, .ref u0), (1, .int u1), (2, .int u2), (3, .int u3), (4, .int u4)] [] S6 (j S6)) ?_ (fun jb7 hjb7 => ?_)
      · intro S6
        refine X_iinc (k := 4) (x := u4) (v := (1 : Int32)) (lv2 := [(4, .int (u4 + (1 : Int32))), (0, .ref u0), (1, .int u1), (2, .int u2), (3, .int u3)]) dX9_down_55 rfl (by decide) (by decide) rfl ?_
        refine X_goto (tgt := 7) dX9_down_58 (by decide) ?_
        exact X_sub [1, 2, 3, 4, 0] rfl (ih _ _ _ hK1)
      · skip
        refine X_if_eq (tgt := 55) dX9_down_25 (by decide) ?_ ?_
        · skip
          exact (hjb7 _)
        · skip
          refine X_iload_n 2 dX9_down_28 rfl rfl ?_
          refine X_if_ge (tgt := 43) dX9_down_29 (by decide) ?_ ?_
          · skip
            refine X_aload_n 0 dX9_down_43 rfl rfl ?_
            refine X_iload_n 2 dX9_down_44 rfl rfl ?_
            refine X_iload 4 dX9_down_45 rfl ?_
            refine X_iadd dX9_down_47 ?_
            refine X_iload_n 3 dX9_down_48 rfl rfl ?_
            refine X_iload 4 dX9_down_49 rfl ?_
            refine X_iadd dX9_down_51 ?_
            refine X_callVV (ci := 9) (As := [.int (u2 + u4), .int (u3 + u4)]) (st := []) (c_X9_copy E S u0 (u2 + u4) (u3 + u4)) (by decide) rfl kC_X9_copy kL_X9_97 kI_X9_copy kE_X9_copy (by unfold g_okR; decide) rfl (Nat.le_of_ble_eq_true rfl) dX9_down_52 (fun S8 => ?_)
            exact (hjb7 _)
          · skip
            refine X_aload_n 0 dX9_down_32 rfl rfl ?_
            refine X_iload_n 3 dX9_down_33 rfl rfl ?_
            refine X_iload 4 dX9_down_34 rfl ?_
            refine X_iadd dX9_down_36 ?_
            refine X_callVV (ci := 9) (As := [.int (u3 + u4)]) (st := []) (c_X9_clear E S u0 (u3 + u4)) (by decide) rfl kC_X9_clear kL_X9_101 kI_X9_clear kE_X9_clear (by unfold g_okR; decide) rfl (Nat.le_of_ble_eq_true rfl) dX9_down_37 (fun S9 => ?_)
            refine X_goto (tgt := 55) dX9_down_40 (by decide) ?_
            exact (hjb7 _)
set_option maxRecDepth 100000 in
set_option maxHeartbeats 4000000 in
theorem j_X9_down_127 (E : gE) {n0 s0 : Nat} (u0 : Nat) (u1 : Int32) (u2 : Int32) (u3 : Int32) (u4 : Int32) (u5 : Int32) : ∀ (n : Nat) (S : gS) (u6 : Int32) (u7 : Int32) (K1 : (gS → Int32 → Int32 → Option (gS))), (∀ (S : gS) (u6 : Int32) (u7 : Int32), gJ gV E M_X9_down n0 s0 176 [(0, .ref u0), (1, .int u1), (2, .int u2), (3, .int u3), (4, .int u4), (5, .int u5), (6, .int u6), (7, .int u7)] [] S (K1 S u6 u7)) → gJ gV E M_X9_down n0 s0 127 [(0, .ref u0), (1, .int u1), (2, .int u2), (3, .int u3), (4, .int u4), (5, .int u5), (6, .int u6), (7, .int u7)] [] S (l_X9_down_127 u0 u1 u2 u3 u4 u5 n S u6 u7 K1) := by
  intro n
  induction n with
  | zero =>
    intros
    rw [l_X9_down_127]
    exact gJ.none
  | succ n ih =>
    intro S u6 u7 K1 hK1
    rw [l_X9_down_127]
    refine X_iload 7 dX9_down_127 rfl ?_
    refine X_if_lt (tgt := 176) dX9_down_129 (by decide) ?_ ?_
    · skip
      exact (hK1 _ _ _)
    · skip
      refine X_aload_n 0 dX9_down_132 rfl rfl ?_
      refine X_iload_n 3 dX9_down_133 rfl rfl ?_
      refine X_iload 5 dX9_down_134 rfl ?_
      refine X_iadd dX9_down_136 ?_
      refine X_iload 6 dX9_down_137 rfl ?_
      refine X_aload_n 0 dX9_down_139 rfl rfl ?_
      refine X_getR kF_X9_91 rfl dX9_down_140 (fun a24 => ?_)
      refine X_bipush (v := (6 : Int32)) dX9_down_143 (by decide) ?_
      refine X_iload 5 dX9_down_145 rfl ?_
      refine X_imul dX9_down_147 ?_
      refine X_iload 7 dX9_down_148 rfl ?_
      refine X_iadd dX9_down_150 ?_
      refine X_iald dX9_down_151 (fun x25 => ?_)
      refine X_callVV (ci := 9) (As := [.int (u3 + u5), .int u6, .int x25]) (st := []) (c_X9_become E S u0 (u3 + u5) u6 x25) (by decide) rfl kC_X9_become kL_X9_157 kI_X9_become kE_X9_become (by unfold g_okR; decide) rfl (Nat.le_of_ble_eq_true rfl) dX9_down_152 (fun S26 => ?_)
      refine X_aload_n 0 dX9_down_155 rfl rfl ?_
      refine X_getR kF_X9_91 rfl dX9_down_156 (fun a27 => ?_)
      refine X_bipush (v := (6 : Int32)) dX9_down_159 (by decide) ?_
      refine X_iload 5 dX9_down_161 rfl ?_
      refine X_imul dX9_down_163 ?_
      refine X_iload 7 dX9_down_164 rfl ?_
      refine X_iadd dX9_down_166 ?_
      refine X_iald dX9_down_167 (fun x28 => ?_)
      refine X_istore (lv2 := [(6, .int x28), (0, .ref u0), (1, .int u1), (2, .int u2), (3, .int u3), (4, .int u4), (5, .int u5), (7, .int u7)]) dX9_down_168 (by decide) rfl ?_
      refine X_iinc (k := 7) (x := u7) (v := (-1 : Int32)) (lv2 := [(7, .int (u7 + (-1 : Int32))), (6, .int x28), (0, .ref u0), (1, .int u1), (2, .int u2), (3, .int u3), (4, .int u4), (5, .int u5)]) dX9_down_170 rfl (by decide) (by decide) rfl ?_
      refine X_goto (tgt := 127) dX9_down_173 (by decide) ?_
      exact X_sub [2, 3, 4, 5, 6, 7, 1, 0] rfl (ih _ _ _ _ hK1)
set_option maxRecDepth 100000 in
set_option maxHeartbeats 4000000 in
theorem j_X9_down_64 (E : gE) {n0 s0 : Nat} (u0 : Nat) (u1 : Int32) (u2 : Int32) (u3 : Int32) : ∀ (n : Nat) (S : gS) (u4 : Int32), gJ gV E M_X9_down n0 s0 64 [(0, .ref u0), (1, .int u1), (2, .int u2), (3, .int u3), (4, .int u4)] [] S (l_X9_down_64 u0 u1 u2 u3 n S u4 ) := by
  intro n
  induction n with
  | zero =>
    intros
    rw [l_X9_down_64]
    exact gJ.none
  | succ n ih =>
    intro S u4  
    rw [l_X9_down_64]
    refine X_iload 4 dX9_down_64 rfl ?_
    refine X_aload_n 0 dX9_down_66 rfl rfl ?_
    refine X_getR kF_X9_48 rfl dX9_down_67 (fun a12 => ?_)
    refine X_iconst (v := (1 : Int32)) dX9_down_70 (by decide) ?_
    refine X_iald dX9_down_71 (fun x13 => ?_)
    refine X_icmp_ge (tgt := 182) dX9_down_72 (by decide) ?_ ?_
    · skip
      exact X_vret rfl dX9_down_182
    · skip
      refine X_aload_n 0 dX9_down_75 rfl rfl ?_
      refine X_getR kF_X9_85 rfl dX9_down_76 (fun a14 => ?_)
      refine X_iload 4 dX9_down_79 rfl ?_
      refine X_iald dX9_down_81 (fun x15 => ?_)
      refine X_istore (lv2 := [(5, .int x15), (0, .ref u0), (1, .int u1), (2, .int u2), (3, .int u3), (4, .int u4)]) dX9_down_82 (by decide) rfl ?_
      refine X_iload 0 dX9_down_84 rfl ?_
      refine X_jn (fun (j : gS → Option (gS)) => ∀ (S16 : gS), gJ gV E M_X9_down n0 s0 176 [(0, .ref u0), (1, .int u1), (2, .int u2), (3, .int u3), (4, .int u4), (5, .int x15)] [] S16 (j S16)) ?_ (fun jb17 hjb17 => ?_)
      · intro S16
        refine X_iinc (k := 4) (x := u4) (v := (1 : Int32)) (lv2 := [(4, .int (u4 + (1 : Int32))), (0, .ref u0), (1, .int u1), (2, .int u2), (3, .int u3), (5, .int x15)]) dX9_down_176 rfl (by decide) (by decide) rfl ?_
        refine X_goto (tgt := 64) dX9_down_179 (by decide) ?_
        exact X_sub [1, 2, 3, 4, 0] rfl (ih _ _)
      · skip
        refine X_if_ge (tgt := 92) dX9_down_86 (by decide) ?_ ?_
        · skip
          refine X_aload_n 1 dX9_down_92 rfl rfl ?_
          refine X_iload_n 2 dX9_down_93 rfl rfl ?_
          refine X_iload 5 dX9_down_94 rfl ?_
          refine X_iadd dX9_down_96 ?_
          refine X_iload_n 4 dX9_down_97 rfl rfl ?_
          refine X_iload 0 dX9_down_98 rfl ?_
          refine X_iadd dX9_down_100 ?_
          refine X_callVV (ci := 9) (As := [.int (u1 + u4), .int (u3 + x15)]) (st := []) (c_X9_copy E S u0 (u1 + u4) (u3 + x15)) (by decide) rfl kC_X9_copy kL_X9_97 kI_X9_copy kE_X9_copy (by unfold g_okR; decide) rfl (Nat.le_of_ble_eq_true rfl) dX9_down_101 (fun S18 => ?_)
          refine X_aload_n 1 dX9_down_104 rfl rfl ?_
          refine X_getR kF_X9_45 rfl dX9_down_105 (fun a19 => ?_)
          refine X_bipush (v := (8 : Int32)) dX9_down_108 (by decide) ?_
          refine X_iload 5 dX9_down_110 rfl ?_
          refine X_iadd dX9_down_112 ?_
          refine X_iald dX9_down_113 (fun x20 => ?_)
          refine X_istore (lv2 := [(6, .int x20), (5, .int x15), (0, .ref u0), (1, .int u1), (2, .int u2), (3, .int u3), (4, .int u4)]) dX9_down_114 (by decide) rfl ?_
          refine X_aload_n 2 dX9_down_116 rfl rfl ?_
          refine X_getR kF_X9_94 rfl dX9_down_117 (fun a21 => ?_)
          refine X_iload 1 dX9_down_120 rfl ?_
          refine X_iald dX9_down_122 (fun x22 => ?_)
          refine X_iconst (v := (1 : Int32)) dX9_down_123 (by decide) ?_
          refine X_isub dX9_down_124 ?_
          refine X_topI (fun x23 => ?_)
          refine X_istore (lv2 := [(7, .int x23), (6, .int x20), (5, .int x15), (0, .ref u0), (1, .int u1), (2, .int u2), (3, .int u3), (4, .int u4)]) dX9_down_125 (by decide) rfl ?_
          refine X_sub [3, 4, 5, 6, 7, 2, 1, 0] rfl (j_X9_down_127 E u0 u1 u2 u3 u4 x15 100 _ _ _ _ (fun S29 v30 v31 => ?_))
          exact X_sub [0, 1, 2, 3, 4, 5] rfl (hjb17 _)
        · skip
          refine X_goto (tgt := 176) dX9_down_89 (by decide) ?_
          exact X_sub [1, 2, 3, 4, 5, 0] rfl (hjb17 _)
set_option maxRecDepth 100000 in
set_option maxHeartbeats 4000000 in
theorem c_X9_down (E : gE) (S : gS) (a0 : Nat) (p1 : Int32) (p2 : Int32) (p3 : Int32) : gC gV E M_X9_down [.ref a0, .int p1, .int p2, .int p3] S (f_X9_down S a0 p1 p2 p3) := by
  refine gC.of (by decide) (Nat.le_of_ble_eq_true rfl) ?_
  unfold f_X9_down
  show gJ gV E M_X9_down _ _ 0 [(0, .ref a0), (1, .int p1), (2, .int p2), (3, .int p3)] [] S _
  refine X_aload_n 0 dX9_down_0 rfl rfl ?_
  refine X_callVV (ci := 9) (As := []) (st := []) (c_X9_follow E S a0) (by decide) rfl kC_X9_follow kL_X9_164 kI_X9_follow kE_X9_follow (by unfold g_okR; decide) rfl (Nat.le_of_ble_eq_true rfl) dX9_down_1 (fun S1 => ?_)
  refine X_iconst (v := (0 : Int32)) dX9_down_4 (by decide) ?_
  refine X_istore (lv2 := [(4, .int (0 : Int32)), (0, .ref a0), (1, .int p1), (2, .int p2), (3, .int p3)]) dX9_down_5 (by decide) rfl ?_
  refine X_sub [1, 2, 3, 4, 0] rfl (j_X9_down_7 E a0 p1 p2 p3 100 _ _ _ (fun S10 v11 => ?_))
  refine X_iconst (v := (0 : Int32)) dX9_down_61 (by decide) ?_
  refine X_istore (lv2 := [(4, .int (0 : Int32)), (0, .ref a0), (1, .int p1), (2, .int p2), (3, .int p3)]) dX9_down_62 (by decide) rfl ?_
  exact X_sub [1, 2, 3, 4, 0] rfl (j_X9_down_64 E a0 p1 p2 p3 100 _ _)
set_option maxRecDepth 100000 in
theorem kC_X9_down : g_okC M_X9_down 3 := And.intro (g_t (i := 766) rfl (by decide +kernel)) (And.intro (g_nd nd_10_ok (k := 19) rfl) (And.intro (by decide) (And.intro (by decide) (by decide +kernel))))
def M_X9_drafted : gM := (yX9_drafted, cX9_drafted, 6, none, 2, 49)
def l_X9_drafted_50 (u0 : Nat) (u1 : Int32) (u2 : Int32) (u3 : Int32) (u4 : Int32) : Nat → gS → Int32 → (gS → Int32 → Option (gS)) → Option (gS)
  | 0, _, _, _ => none
  | n + 1, S, u5, K1 =>
    g_getR S 9 25 u0 fun a17 =>
    g_ldI S 10 a17 u3 fun x18 =>
    if x18 ≤ u5 then (
    K1 S u5)
    else (
    g_getR S 9 26 u0 fun a19 =>
    g_ldI S 10 a19 (((24 : Int32) * u3) + u5) fun x20 =>
    g_cVV S 9 u0 (f_X9_addChar S u0 (u1 + u3) x20) fun S21 =>
    l_X9_drafted_50 u0 u1 u2 u3 u4 n S21 (u5 + (1 : Int32)) K1)
def l_X9_drafted_2 (u0 : Nat) (u1 : Int32) (u2 : Int32) : Nat → gS → Int32 → Option (gS)
  | 0, _, _ => none
  | n + 1, S, u3 =>
    g_getR S 9 13 u0 fun a1 =>
    g_ldI S 10 a1 u2 fun x2 =>
    if x2 ≤ u3 then (
    some S)
    else (
    g_getR S 9 12 u0 fun a3 =>
    g_ldI S 10 a3 (((8 : Int32) * u2) + u3) fun x4 =>
    g_jn (fun (S5 : gS) => (
    l_X9_drafted_2 u0 u1 u2 n S5 (u3 + (1 : Int32)) )) fun jb6 => (
    g_jn (fun (S7 : gS) => (
    g_getR S7 9 23 u0 fun a9 =>
    g_ldI S7 10 a9 u3 fun x10 =>
    g_getR S7 9 24 u0 fun a11 =>
    g_ldI S7 10 a11 u3 fun x12 =>
    g_cVV S7 9 u0 (f_X9_tell S7 u0 (u1 + u3) x4 x10 x12) fun S13 =>
    jb6 S13)) fun jb8 => (
    if x4 = (4 : Int32) then (
    g_getR S 9 25 u0 fun a14 =>
    g_ldI S 10 a14 u3 fun x15 =>
    if x15 ≤ 0 then (
    jb8 S)
    else (
    g_cVV S 9 u0 (f_X9_clear S u0 (u1 + u3)) fun S16 =>
    l_X9_drafted_50 u0 u1 u2 u3 x4 100 S16 (0 : Int32) (fun S22 v23 => (
    jb6 S22))))
    else (
    jb8 S))))
def f_X9_drafted (S : gS) (a0 : Nat) (p1 : Int32) (p2 : Int32) : Option (gS) :=
l_X9_drafted_2 a0 p1 p2 100 S (0 : Int32) 
set_option maxRecDepth 100000 in
set_option maxHeartbeats 4000000 in
theorem j_X9_drafted_50 (E : gE) {n0 s0 : Nat} (u0 : Nat) (u1 : Int32) (u2 : Int32) (u3 : Int32) (u4 : Int32) : ∀ (n : Nat) (S : gS) (u5 : Int32) (K1 : (gS → Int32 → Option (gS))), (∀ (S : gS) (u5 : Int32), gJ gV E M_X9_drafted n0 s0 86 [(0, .ref u0), (1, .int u1), (2, .int u2), (3, .int u3), (4, .int u4), (5, .int u5)] [] S (K1 S u5)) → gJ gV E M_X9_drafted n0 s0 50 [(0, .ref u0), (1, .int u1), (2, .int u2), (3, .int u3), (4, .int u4), (5, .int u5)] [] S (l_X9_drafted_50 u0 u1 u2 u3 u4 n S u5 K1) := by
  intro n
  induction n with
  | zero =>
    intros
    rw [l_X9_drafted_50]
    exact gJ.none
  | succ n ih =>
    intro S u5 K1 hK1
    rw [l_X9_drafted_50]
    refine X_iload 5 dX9_drafted_50 rfl ?_
    refine X_aload_n 0 dX9_drafted_52 rfl rfl ?_
    refine X_getR kF_X9_72 rfl dX9_drafted_53 (fun a17 => ?_)
    refine X_iload_n 3 dX9_drafted_56 rfl rfl ?_
    refine X_iald dX9_drafted_57 (fun x18 => ?_)
    refine X_icmp_ge (tgt := 86) dX9_drafted_58 (by decide) ?_ ?_
    · skip
      exact (hK1 _ _)
    · skip
      refine X_aload_n 0 dX9_drafted_61 rfl rfl ?_
      refine X_iload_n 1 dX9_drafted_62 rfl rfl ?_
      refine X_iload_n 3 dX9_drafted_63 rfl rfl ?_
      refine X_iadd dX9_drafted_64 ?_
      refine X_aload_n 0 dX9_drafted_65 rfl rfl ?_
      refine X_getR kF_X9_75 rfl dX9_drafted_66 (fun a19 => ?_)
      refine X_bipush (v := (24 : Int32)) dX9_drafted_69 (by decide) ?_
      refine X_iload_n 3 dX9_drafted_71 rfl rfl ?_
      refine X_imul dX9_drafted_72 ?_
      refine X_iload 5 dX9_drafted_73 rfl ?_
      refine X_iadd dX9_drafted_75 ?_
      refine X_iald dX9_drafted_76 (fun x20 => ?_)
      refine X_callVV (ci := 9) (As := [.int (u1 + u3), .int x20]) (st := []) (c_X9_addChar E S u0 (u1 + u3) x20) (by decide) rfl kC_X9_addChar kL_X9_107 kI_X9_addChar kE_X9_addChar (by unfold g_okR; decide) rfl (Nat.le_of_ble_eq_true rfl) dX9_drafted_77 (fun S21 => ?_)
      refine X_iinc (k := 5) (x := u5) (v := (1 : Int32)) (lv2 := [(5, .int (u5 + (1 : Int32))), (0, .ref u0), (1, .int u1), (2, .int u2), (3, .int u3), (4, .int u4)]) dX9_drafted_80 rfl (by decide) (by decide) rfl ?_
      refine X_goto (tgt := 50) dX9_drafted_83 (by decide) ?_
      exact X_sub [1, 2, 3, 4, 5, 0] rfl (ih _ _ _ hK1)
set_option maxRecDepth 100000 in
set_option maxHeartbeats 4000000 in
theorem j_X9_drafted_2 (E : gE) {n0 s0 : Nat} (u0 : Nat) (u1 : Int32) (u2 : Int32) : ∀ (n : Nat) (S : gS) (u3 : Int32), gJ gV E M_X9_drafted n0 s0 2 [(0, .ref u0), (1, .int u1), (2, .int u2), (3, .int u3)] [] S (l_X9_drafted_2 u0 u1 u2 n S u3 ) := by
  intro n
  induction n with
  | zero =>
    intros
    rw [l_X9_drafted_2]
    exact gJ.none
  | succ n ih =>
    intro S u3  
    rw [l_X9_drafted_2]
    refine X_iload_n 3 dX9_drafted_2 rfl rfl ?_
    refine X_aload_n 0 dX9_drafted_3 rfl rfl ?_
    refine X_getR kF_X9_48 rfl dX9_drafted_4 (fun a1 => ?_)
    refine X_iload_n 2 dX9_drafted_7 rfl rfl ?_
    refine X_iald dX9_drafted_8 (fun x2 => ?_)
    refine X_icmp_ge (tgt := 116) dX9_drafted_9 (by decide) ?_ ?_
    · skip
      exact X_vret rfl dX9_drafted_116
    · skip
      refine X_aload_n 0 dX9_drafted_12 rfl rfl ?_
      refine X_getR kF_X9_45 rfl dX9_drafted_13 (fun a3 => ?_)
      refine X_bipush (v := (8 : Int32)) dX9_drafted_16 (by decide) ?_
      refine X_iload_n 2 dX9_drafted_18 rfl rfl ?_
      refine X_imul dX9_drafted_19 ?_
      refine X_iload_n 3 dX9_drafted_20 rfl rfl ?_
      refine X_iadd dX9_drafted_21 ?_
      refine X_iald dX9_drafted_22 (fun x4 => ?_)
      refine X_istore (lv2 := [(4, .int x4), (0, .ref u0), (1, .int u1), (2, .int u2), (3, .int u3)]) dX9_drafted_23 (by decide) rfl ?_
      refine X_iload 0 dX9_drafted_25 rfl ?_
      refine X_iconst (v := (4 : Int32)) dX9_drafted_27 (by decide) ?_
      refine X_jn (fun (j : gS → Option (gS)) => ∀ (S5 : gS), gJ gV E M_X9_drafted n0 s0 110 [(0, .ref u0), (1, .int u1), (2, .int u2), (3, .int u3), (4, .int x4)] [] S5 (j S5)) ?_ (fun jb6 hjb6 => ?_)
      · intro S5
        refine X_iinc (k := 3) (x := u3) (v := (1 : Int32)) (lv2 := [(3, .int (u3 + (1 : Int32))), (0, .ref u0), (1, .int u1), (2, .int u2), (4, .int x4)]) dX9_drafted_110 rfl (by decide) (by decide) rfl ?_
        refine X_goto (tgt := 2) dX9_drafted_113 (by decide) ?_
        exact X_sub [1, 2, 3, 0] rfl (ih _ _)
      · skip
        refine X_jn (fun (j : gS → Option (gS)) => ∀ (S7 : gS), gJ gV E M_X9_drafted n0 s0 89 [(0, .ref u0), (1, .int u1), (2, .int u2), (3, .int u3), (4, .int x4)] [] S7 (j S7)) ?_ (fun jb8 hjb8 => ?_)
        · intro S7
          refine X_aload_n 0 dX9_drafted_89 rfl rfl ?_
          refine X_iload_n 1 dX9_drafted_90 rfl rfl ?_
          refine X_iload_n 3 dX9_drafted_91 rfl rfl ?_
          refine X_iadd dX9_drafted_92 ?_
          refine X_iload 4 dX9_drafted_93 rfl ?_
          refine X_aload_n 0 dX9_drafted_95 rfl rfl ?_
          refine X_getR kF_X9_66 rfl dX9_drafted_96 (fun a9 => ?_)
          refine X_iload_n 3 dX9_drafted_99 rfl rfl ?_
          refine X_iald dX9_drafted_100 (fun x10 => ?_)
          refine X_aload_n 0 dX9_drafted_101 rfl rfl ?_
          refine X_getR kF_X9_69 rfl dX9_drafted_102 (fun a11 => ?_)
          refine X_iload_n 3 dX9_drafted_105 rfl rfl ?_
          refine X_iald dX9_drafted_106 (fun x12 => ?_)
          refine X_callVV (ci := 9) (As := [.int (u1 + u3), .int x4, .int x10, .int x12]) (st := []) (c_X9_tell E S7 u0 (u1 + u3) x4 x10 x12) (by decide) rfl kC_X9_tell kL_X9_153 kI_X9_tell kE_X9_tell (by unfold g_okR; decide) rfl (Nat.le_of_ble_eq_true rfl) dX9_drafted_107 (fun S13 => ?_)
          exact (hjb6 _)
        · skip
          refine X_icmp_ne (tgt := 89) dX9_drafted_28 (by decide) ?_ ?_
          · skip
            refine X_aload_n 1 dX9_drafted_31 rfl rfl ?_
            refine X_getR kF_X9_72 rfl dX9_drafted_32 (fun a14 => ?_)
            refine X_iload_n 4 dX9_drafted_35 rfl rfl ?_
            refine X_iald dX9_drafted_36 (fun x15 => ?_)
            refine X_if_le (tgt := 89) dX9_drafted_37 (by decide) ?_ ?_
            · skip
              exact X_sub [1, 2, 3, 4, 0] rfl (hjb8 _)
            · skip
              refine X_aload_n 1 dX9_drafted_40 rfl rfl ?_
              refine X_iload_n 2 dX9_drafted_41 rfl rfl ?_
              refine X_iload_n 4 dX9_drafted_42 rfl rfl ?_
              refine X_iadd dX9_drafted_43 ?_
              refine X_callVV (ci := 9) (As := [.int (u1 + u3)]) (st := []) (c_X9_clear E S u0 (u1 + u3)) (by decide) rfl kC_X9_clear kL_X9_101 kI_X9_clear kE_X9_clear (by unfold g_okR; decide) rfl (Nat.le_of_ble_eq_true rfl) dX9_drafted_44 (fun S16 => ?_)
              refine X_iconst (v := (0 : Int32)) dX9_drafted_47 (by decide) ?_
              refine X_istore (lv2 := [(5, .int (0 : Int32)), (4, .int x4), (0, .ref u0), (1, .int u1), (2, .int u2), (3, .int u3)]) dX9_drafted_48 (by decide) rfl ?_
              refine X_sub [2, 3, 4, 5, 1, 0] rfl (j_X9_drafted_50 E u0 u1 u2 u3 x4 100 _ _ _ (fun S22 v23 => ?_))
              refine X_goto (tgt := 110) dX9_drafted_86 (by decide) ?_
              exact X_sub [0, 1, 2, 3, 4] rfl (hjb6 _)
          · skip
            exact X_sub [1, 2, 3, 4, 0] rfl (hjb8 _)
set_option maxRecDepth 100000 in
set_option maxHeartbeats 4000000 in
theorem c_X9_drafted (E : gE) (S : gS) (a0 : Nat) (p1 : Int32) (p2 : Int32) : gC gV E M_X9_drafted [.ref a0, .int p1, .int p2] S (f_X9_drafted S a0 p1 p2) := by
  refine gC.of (by decide) (Nat.le_of_ble_eq_true rfl) ?_
  unfold f_X9_drafted
  show gJ gV E M_X9_drafted _ _ 0 [(0, .ref a0), (1, .int p1), (2, .int p2)] [] S _
  refine X_iconst (v := (0 : Int32)) dX9_drafted_0 (by decide) ?_
  refine X_istore_n (lv2 := [(3, .int (0 : Int32)), (0, .ref a0), (1, .int p1), (2, .int p2)]) dX9_drafted_1 rfl (by decide) rfl ?_
  exact X_sub [1, 2, 3, 0] rfl (j_X9_drafted_2 E a0 p1 p2 100 _ _)
set_option maxRecDepth 100000 in
theorem kC_X9_drafted : g_okC M_X9_drafted 2 := And.intro (g_t (i := 762) rfl (by decide +kernel)) (And.intro (g_nd nd_10_ok (k := 19) rfl) (And.intro (by decide) (And.intro (by decide) (by decide +kernel))))
def M_X9_insert : gM := (yX9_insert, cX9_insert, 4, some .int, 1, 22)
def l_X9_insert_5 (u0 : Nat) (u1 : Int32) : Nat → gS → Int32 → (gS → Int32 → Option (Int32 × gS)) → Option (Int32 × gS)
  | 0, _, _, _ => none
  | n + 1, S, u2, K1 =>
    if u2 ≤ 0 then (
    K1 S u2)
    else (
    g_getR S 9 4 u0 fun a2 =>
    g_ldI S 10 a2 (u2 - (1 : Int32)) fun x3 =>
    if x3 ≤ u1 then (
    K1 S u2)
    else (
    g_cVV S 9 u0 (f_X9_moveRow S u0 (u2 - (1 : Int32)) u2) fun S4 =>
    l_X9_insert_5 u0 u1 n S4 (u2 + (-1 : Int32)) K1))
def l_X9_insert_37 (u0 : Nat) (u1 : Int32) (u2 : Int32) : Nat → gS → Int32 → (gS → Int32 → Option (Int32 × gS)) → Option (Int32 × gS)
  | 0, _, _, _ => none
  | n + 1, S, u3, K1 =>
    g_getR S 9 10 u0 fun a7 =>
    g_ldI S 12 a7 u3 fun x8 =>
    if x8 = 0 then (
    K1 S u3)
    else (
    l_X9_insert_37 u0 u1 u2 n S (u3 + (1 : Int32)) K1)
def f_X9_insert (S : gS) (a0 : Nat) (p1 : Int32) : Option (Int32 × gS) :=
g_getI S 9 6 a0 fun x1 =>
l_X9_insert_5 a0 p1 100 S x1 (fun S5 v6 => (
l_X9_insert_37 a0 p1 v6 100 S5 (0 : Int32) (fun S9 v10 => (
g_getR S9 9 10 a0 fun a11 =>
g_stZ S9 a11 v10 (1 : Int32) fun S12 =>
g_getR S12 9 4 a0 fun a13 =>
g_stI S12 a13 v6 p1 fun S14 =>
g_getR S14 9 5 a0 fun a15 =>
g_stI S14 a15 v6 v10 fun S16 =>
g_getR S16 9 7 a0 fun a17 =>
g_stI S16 a17 v6 (0 : Int32) fun S18 =>
g_getR S18 9 8 a0 fun a19 =>
g_stZ S18 a19 v6 (0 : Int32) fun S20 =>
g_getR S20 9 9 a0 fun a21 =>
g_stZ S20 a21 v6 (0 : Int32) fun S22 =>
g_getI S22 9 6 a0 fun x23 =>
g_putI S22 9 6 a0 (x23 + (1 : Int32)) fun S24 =>
some (v6, S24)))))
set_option maxRecDepth 100000 in
set_option maxHeartbeats 4000000 in
theorem j_X9_insert_5 (E : gE) {n0 s0 : Nat} (u0 : Nat) (u1 : Int32) : ∀ (n : Nat) (S : gS) (u2 : Int32) (K1 : (gS → Int32 → Option (Int32 × gS))), (∀ (S : gS) (u2 : Int32), gJ gI E M_X9_insert n0 s0 35 [(0, .ref u0), (1, .int u1), (2, .int u2)] [] S (K1 S u2)) → gJ gI E M_X9_insert n0 s0 5 [(0, .ref u0), (1, .int u1), (2, .int u2)] [] S (l_X9_insert_5 u0 u1 n S u2 K1) := by
  intro n
  induction n with
  | zero =>
    intros
    rw [l_X9_insert_5]
    exact gJ.none
  | succ n ih =>
    intro S u2 K1 hK1
    rw [l_X9_insert_5]
    refine X_iload_n 2 dX9_insert_5 rfl rfl ?_
    refine X_if_le (tgt := 35) dX9_insert_6 (by decide) ?_ ?_
    · skip
      exact (hK1 _ _)
    · skip
      refine X_aload_n 0 dX9_insert_9 rfl rfl ?_
      refine X_getR kF_X9_23 rfl dX9_insert_10 (fun a2 => ?_)
      refine X_iload_n 2 dX9_insert_13 rfl rfl ?_
      refine X_iconst (v := (1 : Int32)) dX9_insert_14 (by decide) ?_
      refine X_isub dX9_insert_15 ?_
      refine X_iald dX9_insert_16 (fun x3 => ?_)
      refine X_iload_n 1 dX9_insert_17 rfl rfl ?_
      refine X_icmp_le (tgt := 35) dX9_insert_18 (by decide) ?_ ?_
      · skip
        exact (hK1 _ _)
      · skip
        refine X_aload_n 0 dX9_insert_21 rfl rfl ?_
        refine X_iload_n 2 dX9_insert_22 rfl rfl ?_
        refine X_iconst (v := (1 : Int32)) dX9_insert_23 (by decide) ?_
        refine X_isub dX9_insert_24 ?_
        refine X_iload_n 2 dX9_insert_25 rfl rfl ?_
        refine X_callVV (ci := 9) (As := [.int (u2 - (1 : Int32)), .int u2]) (st := []) (c_X9_moveRow E S u0 (u2 - (1 : Int32)) u2) (by decide) rfl kC_X9_moveRow kL_X9_190 kI_X9_moveRow kE_X9_moveRow (by unfold g_okR; decide) rfl (Nat.le_of_ble_eq_true rfl) dX9_insert_26 (fun S4 => ?_)
        refine X_iinc (k := 2) (x := u2) (v := (-1 : Int32)) (lv2 := [(2, .int (u2 + (-1 : Int32))), (0, .ref u0), (1, .int u1)]) dX9_insert_29 rfl (by decide) (by decide) rfl ?_
        refine X_goto (tgt := 5) dX9_insert_32 (by decide) ?_
        exact X_sub [1, 2, 0] rfl (ih _ _ _ hK1)
set_option maxRecDepth 100000 in
set_option maxHeartbeats 4000000 in
theorem j_X9_insert_37 (E : gE) {n0 s0 : Nat} (u0 : Nat) (u1 : Int32) (u2 : Int32) : ∀ (n : Nat) (S : gS) (u3 : Int32) (K1 : (gS → Int32 → Option (Int32 × gS))), (∀ (S : gS) (u3 : Int32), gJ gI E M_X9_insert n0 s0 52 [(0, .ref u0), (1, .int u1), (2, .int u2), (3, .int u3)] [] S (K1 S u3)) → gJ gI E M_X9_insert n0 s0 37 [(0, .ref u0), (1, .int u1), (2, .int u2), (3, .int u3)] [] S (l_X9_insert_37 u0 u1 u2 n S u3 K1) := by
  intro n
  induction n with
  | zero =>
    intros
    rw [l_X9_insert_37]
    exact gJ.none
  | succ n ih =>
    intro S u3 K1 hK1
    rw [l_X9_insert_37]
    refine X_aload_n 0 dX9_insert_37 rfl rfl ?_
    refine X_getR kF_X9_39 rfl dX9_insert_38 (fun a7 => ?_)
    refine X_iload_n 3 dX9_insert_41 rfl rfl ?_
    refine X_zald dX9_insert_42 (fun x8 => ?_)
    refine X_if_eq (tgt := 52) dX9_insert_43 (by decide) ?_ ?_
    · skip
      exact (hK1 _ _)
    · skip
      refine X_iinc (k := 3) (x := u3) (v := (1 : Int32)) (lv2 := [(3, .int (u3 + (1 : Int32))), (0, .ref u0), (1, .int u1), (2, .int u2)]) dX9_insert_46 rfl (by decide) (by decide) rfl ?_
      refine X_goto (tgt := 37) dX9_insert_49 (by decide) ?_
      exact X_sub [1, 2, 3, 0] rfl (ih _ _ _ hK1)
set_option maxRecDepth 100000 in
set_option maxHeartbeats 4000000 in
theorem c_X9_insert (E : gE) (S : gS) (a0 : Nat) (p1 : Int32) : gC gI E M_X9_insert [.ref a0, .int p1] S (f_X9_insert S a0 p1) := by
  refine gC.of (by decide) (Nat.le_of_ble_eq_true rfl) ?_
  unfold f_X9_insert
  show gJ gI E M_X9_insert _ _ 0 [(0, .ref a0), (1, .int p1)] [] S _
  refine X_aload_n 0 dX9_insert_0 rfl rfl ?_
  refine X_getI kF_X9_187 rfl dX9_insert_1 (fun x1 => ?_)
  refine X_istore_n (lv2 := [(2, .int x1), (0, .ref a0), (1, .int p1)]) dX9_insert_4 rfl (by decide) rfl ?_
  refine X_sub [1, 2, 0] rfl (j_X9_insert_5 E a0 p1 100 _ _ _ (fun S5 v6 => ?_))
  refine X_iconst (v := (0 : Int32)) dX9_insert_35 (by decide) ?_
  refine X_istore_n (lv2 := [(3, .int (0 : Int32)), (0, .ref a0), (1, .int p1), (2, .int v6)]) dX9_insert_36 rfl (by decide) rfl ?_
  refine X_sub [1, 2, 3, 0] rfl (j_X9_insert_37 E a0 p1 v6 100 _ _ _ (fun S9 v10 => ?_))
  refine X_aload_n 0 dX9_insert_52 rfl rfl ?_
  refine X_getR kF_X9_39 rfl dX9_insert_53 (fun a11 => ?_)
  refine X_iload_n 3 dX9_insert_56 rfl rfl ?_
  refine X_iconst (v := (1 : Int32)) dX9_insert_57 (by decide) ?_
  refine X_zast dX9_insert_58 (fun S12 => ?_)
  refine X_aload_n 0 dX9_insert_59 rfl rfl ?_
  refine X_getR kF_X9_23 rfl dX9_insert_60 (fun a13 => ?_)
  refine X_iload_n 2 dX9_insert_63 rfl rfl ?_
  refine X_iload_n 1 dX9_insert_64 rfl rfl ?_
  refine X_iast dX9_insert_65 (fun S14 => ?_)
  refine X_aload_n 0 dX9_insert_66 rfl rfl ?_
  refine X_getR kF_X9_26 rfl dX9_insert_67 (fun a15 => ?_)
  refine X_iload_n 2 dX9_insert_70 rfl rfl ?_
  refine X_iload_n 3 dX9_insert_71 rfl rfl ?_
  refine X_iast dX9_insert_72 (fun S16 => ?_)
  refine X_aload_n 0 dX9_insert_73 rfl rfl ?_
  refine X_getR kF_X9_29 rfl dX9_insert_74 (fun a17 => ?_)
  refine X_iload_n 2 dX9_insert_77 rfl rfl ?_
  refine X_iconst (v := (0 : Int32)) dX9_insert_78 (by decide) ?_
  refine X_iast dX9_insert_79 (fun S18 => ?_)
  refine X_aload_n 0 dX9_insert_80 rfl rfl ?_
  refine X_getR kF_X9_32 rfl dX9_insert_81 (fun a19 => ?_)
  refine X_iload_n 2 dX9_insert_84 rfl rfl ?_
  refine X_iconst (v := (0 : Int32)) dX9_insert_85 (by decide) ?_
  refine X_zast dX9_insert_86 (fun S20 => ?_)
  refine X_aload_n 0 dX9_insert_87 rfl rfl ?_
  refine X_getR kF_X9_36 rfl dX9_insert_88 (fun a21 => ?_)
  refine X_iload_n 2 dX9_insert_91 rfl rfl ?_
  refine X_iconst (v := (0 : Int32)) dX9_insert_92 (by decide) ?_
  refine X_zast dX9_insert_93 (fun S22 => ?_)
  refine X_aload_n 0 dX9_insert_94 rfl rfl ?_
  refine X_dup dX9_insert_95 rfl ?_
  refine X_getI kF_X9_187 rfl dX9_insert_96 (fun x23 => ?_)
  refine X_iconst (v := (1 : Int32)) dX9_insert_99 (by decide) ?_
  refine X_iadd dX9_insert_100 ?_
  refine X_putI kF_X9_187 rfl rfl dX9_insert_101 (fun S24 => ?_)
  refine X_iload_n 2 dX9_insert_104 rfl rfl ?_
  exact X_iret rfl dX9_insert_105
set_option maxRecDepth 100000 in
theorem kC_X9_insert : g_okC M_X9_insert 1 := And.intro (g_t (i := 750) rfl (by decide +kernel)) (And.intro (g_nd nd_10_ok (k := 19) rfl) (And.intro (by decide) (And.intro (by decide) (by decide +kernel))))
def M_X9_write : gM := (yX9_write, cX9_write, 7, some .int, 4, 101)
def f_X9_write (S : gS) (a0 : Nat) (p1 : Int32) (p2 : Int32) : Option (Int32 × gS) :=
g_putI S 9 30 a0 (0 : Int32) fun S1 =>
g_getI S1 9 32 a0 fun x2 =>
if x2 = 0 then (
g_jn (fun (S3 : gS) => (
g_cVI S3 9 a0 (f_X9_find S3 a0 p1) fun x6 S5 =>
g_jn (fun (S7 : gS) (w8 : Int32) => (
g_jn (fun (S10 : gS) => (
g_getI S10 9 15 a0 fun x12 =>
g_jn (fun (S13 : gS) (w14 : Int32) => (
g_cVI S13 9 a0 (f_X9_acts S13 a0 w14) fun x17 S16 =>
if x17 = 0 then (
some ((-9 : Int32), S16))
else (
g_jn (fun (S18 : gS) (v19 : Int32) => (
g_jn (fun (S21 : gS) => (
g_getI S21 9 15 a0 fun x23 =>
g_jn (fun (S24 : gS) => (
if x17 = w14 then (
if w8 = 0 then (
some ((0 : Int32), S24))
else (
some ((1 : Int32), S24)))
else (
g_putZ S24 9 33 a0 (1 : Int32) fun S26 =>
some ((-9 : Int32), S26)))) fun jb25 => (
if x23 = 0 then (
g_getR S21 9 7 a0 fun a27 =>
g_ldI S21 10 a27 v19 fun x28 =>
if x28 = (1 : Int32) then (
g_getR S21 9 7 a0 fun a29 =>
g_stI S21 a29 v19 (0 : Int32) fun S30 =>
jb25 S30)
else (
jb25 S21))
else (
g_getR S21 9 8 a0 fun a31 =>
g_stZ S21 a31 v19 (0 : Int32) fun S32 =>
g_getR S32 9 9 a0 fun a33 =>
g_stZ S32 a33 v19 (0 : Int32) fun S34 =>
jb25 S34)))) fun jb22 => (
if p2 = 0 then (
g_cVI S18 9 a0 (f_X9_form S18 a0 v19 (0 : Int32)) fun x36 S35 =>
g_cVV S35 9 a0 (f_X9_drafted S35 a0 x36 (0 : Int32)) fun S37 =>
g_getI S37 9 15 a0 fun x38 =>
if x38 = 0 then (
jb22 S37)
else (
g_cVI S37 9 a0 (f_X9_form S37 a0 v19 (0 : Int32)) fun x40 S39 =>
g_cVI S39 9 a0 (f_X9_form S39 a0 v19 (1 : Int32)) fun x42 S41 =>
g_cVV S41 9 a0 (f_X9_up S41 a0 x40 x42) fun S43 =>
jb22 S43))
else (
g_cVI S18 9 a0 (f_X9_form S18 a0 v19 (1 : Int32)) fun x45 S44 =>
g_cVV S44 9 a0 (f_X9_drafted S44 a0 x45 (1 : Int32)) fun S46 =>
g_cVI S46 9 a0 (f_X9_form S46 a0 v19 (1 : Int32)) fun x48 S47 =>
g_jn (fun (S49 : gS) (w50 : Int32) (w51 : Int32) (w52 : Nat) => (
g_cVI S49 9 a0 (f_X9_form S49 a0 v19 (0 : Int32)) fun x55 S54 =>
g_cVV S54 9 w52 (f_X9_down S54 w52 w51 w50 x55) fun S56 =>
jb22 S56)) fun jb53 => (
if w8 = 0 then (
jb53 S47 (-1 : Int32) x48 a0)
else (
g_cVI S47 9 a0 (f_X9_form S47 a0 v19 (0 : Int32)) fun x58 S57 =>
jb53 S57 x58 x48 a0)))))) fun jb20 => (
if w8 = 0 then (
g_cVI S16 9 a0 (f_X9_insert S16 a0 p1) fun x60 S59 =>
jb20 S59 x60)
else (
jb20 S16 x6))))) fun jb15 => (
if x12 = 0 then (
jb15 S10 (1 : Int32))
else (
jb15 S10 (4 : Int32))))) fun jb11 => (
if w8 = 0 then (
g_getI S7 9 6 a0 fun x61 =>
if x61 = (40 : Int32) then (
some ((-4 : Int32), S7))
else (
jb11 S7))
else (
jb11 S7)))) fun jb9 => (
if x6 < 0 then (
jb9 S5 (0 : Int32))
else (
jb9 S5 (1 : Int32))))) fun jb4 => (
if p2 = 0 then (
jb4 S1)
else (
g_getI S1 9 15 a0 fun x62 =>
if x62 = 0 then (
some ((-2 : Int32), S1))
else (
jb4 S1))))
else (
some ((-8 : Int32), S1))
set_option maxRecDepth 100000 in
set_option maxHeartbeats 4000000 in
theorem c_X9_write (E : gE) (S : gS) (a0 : Nat) (p1 : Int32) (p2 : Int32) : gC gI E M_X9_write [.ref a0, .int p1, .int p2] S (f_X9_write S a0 p1 p2) := by
  refine gC.of (by decide) (Nat.le_of_ble_eq_true rfl) ?_
  unfold f_X9_write
  show gJ gI E M_X9_write _ _ 0 [(0, .ref a0), (1, .int p1), (2, .int p2)] [] S _
  refine X_aload_n 0 dX9_write_0 rfl rfl ?_
  refine X_iconst (v := (0 : Int32)) dX9_write_1 (by decide) ?_
  refine X_putI kF_X9_177 rfl rfl dX9_write_2 (fun S1 => ?_)
  refine X_aload_n 0 dX9_write_5 rfl rfl ?_
  refine X_getI kF_X9_170 rfl dX9_write_6 (fun x2 => ?_)
  refine X_if_eq (tgt := 15) dX9_write_9 (by decide) ?_ ?_
  · skip
    refine X_iload_n 2 dX9_write_15 rfl rfl ?_
    refine X_jn (fun (j : gS → Option (Int32 × gS)) => ∀ (S3 : gS), gJ gI E M_X9_write (gn S) (gsl S) 29 [(0, .ref a0), (1, .int p1), (2, .int p2)] [] S3 (j S3)) ?_ (fun jb4 hjb4 => ?_)
    · intro S3
      refine X_aload_n 0 dX9_write_29 rfl rfl ?_
      refine X_iload_n 1 dX9_write_30 rfl rfl ?_
      refine X_callVI (ci := 9) (As := [.int p1]) (st := []) (c_X9_find E S3 a0 p1) (by decide) rfl kC_X9_find kL_X9_196 kI_X9_find kE_X9_find (by unfold g_okR; decide) rfl (Nat.le_of_ble_eq_true rfl) dX9_write_31 (fun x6 S5 => ?_)
      refine X_istore_n (lv2 := [(3, .int x6), (0, .ref a0), (1, .int p1), (2, .int p2)]) dX9_write_34 rfl (by decide) rfl ?_
      refine X_iload_n 0 dX9_write_35 rfl rfl ?_
      refine X_jn (fun (j : gS → Int32 → Option (Int32 × gS)) => ∀ (S7 : gS) (w8 : Int32), gJ gI E M_X9_write (gn S) (gsl S) 44 [(0, .ref a0), (1, .int p1), (2, .int p2), (3, .int x6)] [.int w8] S7 (j S7 w8)) ?_ (fun jb9 hjb9 => ?_)
      · intro S7 w8
        refine X_istore (lv2 := [(4, .int w8), (0, .ref a0), (1, .int p1), (2, .int p2), (3, .int x6)]) dX9_write_44 (by decide) rfl ?_
        refine X_iload 0 dX9_write_46 rfl ?_
        refine X_jn (fun (j : gS → Option (Int32 × gS)) => ∀ (S10 : gS), gJ gI E M_X9_write (gn S) (gsl S) 63 [(0, .ref a0), (1, .int p1), (2, .int p2), (3, .int x6), (4, .int w8)] [] S10 (j S10)) ?_ (fun jb11 hjb11 => ?_)
        · intro S10
          refine X_aload_n 0 dX9_write_63 rfl rfl ?_
          refine X_getI kF_X9_193 rfl dX9_write_64 (fun x12 => ?_)
          refine X_jn (fun (j : gS → Int32 → Option (Int32 × gS)) => ∀ (S13 : gS) (w14 : Int32), gJ gI E M_X9_write (gn S) (gsl S) 75 [(0, .ref a0), (1, .int p1), (2, .int p2), (3, .int x6), (4, .int w8)] [.int w14] S13 (j S13 w14)) ?_ (fun jb15 hjb15 => ?_)
          · intro S13 w14
            refine X_istore (lv2 := [(5, .int w14), (0, .ref a0), (1, .int p1), (2, .int p2), (3, .int x6), (4, .int w8)]) dX9_write_75 (by decide) rfl ?_
            refine X_aload_n 1 dX9_write_77 rfl rfl ?_
            refine X_iload 0 dX9_write_78 rfl ?_
            refine X_callVI (ci := 9) (As := [.int w14]) (st := []) (c_X9_acts E S13 a0 w14) (by decide) rfl kC_X9_acts kL_X9_199 kI_X9_acts kE_X9_acts (by unfold g_okR; decide) rfl (Nat.le_of_ble_eq_true rfl) dX9_write_80 (fun x17 S16 => ?_)
            refine X_istore (lv2 := [(6, .int x17), (5, .int w14), (0, .ref a0), (1, .int p1), (2, .int p2), (3, .int x6), (4, .int w8)]) dX9_write_83 (by decide) rfl ?_
            refine X_iload 0 dX9_write_85 rfl ?_
            refine X_if_ne (tgt := 93) dX9_write_87 (by decide) ?_ ?_
            · skip
              refine X_bipush (v := (-9 : Int32)) dX9_write_90 (by decide) ?_
              exact X_iret rfl dX9_write_92
            · skip
              refine X_iload 6 dX9_write_93 rfl ?_
              refine X_jn (fun (j : gS → Int32 → Option (Int32 × gS)) => ∀ (S18 : gS) (v19 : Int32), gJ gI E M_X9_write (gn S) (gsl S) 104 [(0, .ref a0), (1, .int p1), (2, .int p2), (3, .int v19), (4, .int w8), (5, .int w14), (6, .int x17)] [] S18 (j S18 v19)) ?_ (fun jb20 hjb20 => ?_)
              · intro S18 v19
                refine X_iload_n 2 dX9_write_104 rfl rfl ?_
                refine X_jn (fun (j : gS → Option (Int32 × gS)) => ∀ (S21 : gS), gJ gI E M_X9_write (gn S) (gsl S) 187 [(0, .ref a0), (1, .int p1), (2, .int p2), (3, .int v19), (4, .int w8), (5, .int w14), (6, .int x17)] [] S21 (j S21)) ?_ (fun jb22 hjb22 => ?_)
                · intro S21
                  refine X_aload_n 0 dX9_write_187 rfl rfl ?_
                  refine X_getI kF_X9_193 rfl dX9_write_188 (fun x23 => ?_)
                  refine X_jn (fun (j : gS → Option (Int32 × gS)) => ∀ (S24 : gS), gJ gI E M_X9_write (gn S) (gsl S) 228 [(0, .ref a0), (1, .int p1), (2, .int p2), (3, .int v19), (4, .int w8), (5, .int w14), (6, .int x17)] [] S24 (j S24)) ?_ (fun jb25 hjb25 => ?_)
                  · intro S24
                    refine X_iload 6 dX9_write_228 rfl ?_
                    refine X_iload 5 dX9_write_230 rfl ?_
                    refine X_icmp_ne (tgt := 246) dX9_write_232 (by decide) ?_ ?_
                    · skip
                      refine X_iload 4 dX9_write_235 rfl ?_
                      refine X_if_eq (tgt := 244) dX9_write_237 (by decide) ?_ ?_
                      · skip
                        refine X_iconst (v := (0 : Int32)) dX9_write_244 (by decide) ?_
                        exact X_iret rfl dX9_write_245
                      · skip
                        refine X_iconst (v := (1 : Int32)) dX9_write_240 (by decide) ?_
                        refine X_goto (tgt := 245) dX9_write_241 (by decide) ?_
                        exact X_iret rfl dX9_write_245
                    · skip
                      refine X_aload_n 0 dX9_write_246 rfl rfl ?_
                      refine X_iconst (v := (1 : Int32)) dX9_write_247 (by decide) ?_
                      refine X_putZ kF_X9_217 rfl rfl dX9_write_248 (fun S26 => ?_)
                      refine X_bipush (v := (-9 : Int32)) dX9_write_251 (by decide) ?_
                      exact X_iret rfl dX9_write_253
                  · skip
                    refine X_if_eq (tgt := 211) dX9_write_191 (by decide) ?_ ?_
                    · skip
                      refine X_aload_n 0 dX9_write_211 rfl rfl ?_
                      refine X_getR kF_X9_29 rfl dX9_write_212 (fun a27 => ?_)
                      refine X_iload_n 3 dX9_write_215 rfl rfl ?_
                      refine X_iald dX9_write_216 (fun x28 => ?_)
                      refine X_iconst (v := (1 : Int32)) dX9_write_217 (by decide) ?_
                      refine X_icmp_ne (tgt := 228) dX9_write_218 (by decide) ?_ ?_
                      · skip
                        refine X_aload_n 0 dX9_write_221 rfl rfl ?_
                        refine X_getR kF_X9_29 rfl dX9_write_222 (fun a29 => ?_)
                        refine X_iload_n 3 dX9_write_225 rfl rfl ?_
                        refine X_iconst (v := (0 : Int32)) dX9_write_226 (by decide) ?_
                        refine X_iast dX9_write_227 (fun S30 => ?_)
                        exact (hjb25 _)
                      · skip
                        exact (hjb25 _)
                    · skip
                      refine X_aload_n 0 dX9_write_194 rfl rfl ?_
                      refine X_getR kF_X9_32 rfl dX9_write_195 (fun a31 => ?_)
                      refine X_iload_n 3 dX9_write_198 rfl rfl ?_
                      refine X_iconst (v := (0 : Int32)) dX9_write_199 (by decide) ?_
                      refine X_zast dX9_write_200 (fun S32 => ?_)
                      refine X_aload_n 0 dX9_write_201 rfl rfl ?_
                      refine X_getR kF_X9_36 rfl dX9_write_202 (fun a33 => ?_)
                      refine X_iload_n 3 dX9_write_205 rfl rfl ?_
                      refine X_iconst (v := (0 : Int32)) dX9_write_206 (by decide) ?_
                      refine X_zast dX9_write_207 (fun S34 => ?_)
                      refine X_goto (tgt := 228) dX9_write_208 (by decide) ?_
                      exact (hjb25 _)
                · skip
                  refine X_if_eq (tgt := 153) dX9_write_105 (by decide) ?_ ?_
                  · skip
                    refine X_aload_n 0 dX9_write_153 rfl rfl ?_
                    refine X_aload_n 0 dX9_write_154 rfl rfl ?_
                    refine X_iload_n 3 dX9_write_155 rfl rfl ?_
                    refine X_iconst (v := (0 : Int32)) dX9_write_156 (by decide) ?_
                    refine X_callVI (ci := 9) (As := [.int v19, .int (0 : Int32)]) (st := [.ref a0]) (c_X9_form E S18 a0 v19 (0 : Int32)) (by decide) rfl kC_X9_form kL_X9_205 kI_X9_form kE_X9_form (by unfold g_okR; decide) rfl (Nat.le_of_ble_eq_true rfl) dX9_write_157 (fun x36 S35 => ?_)
                    refine X_iconst (v := (0 : Int32)) dX9_write_160 (by decide) ?_
                    refine X_callVV (ci := 9) (As := [.int x36, .int (0 : Int32)]) (st := []) (c_X9_drafted E S35 a0 x36 (0 : Int32)) (by decide) rfl kC_X9_drafted kL_X9_209 kI_X9_drafted kE_X9_drafted (by unfold g_okR; decide) rfl (Nat.le_of_ble_eq_true rfl) dX9_write_161 (fun S37 => ?_)
                    refine X_aload_n 0 dX9_write_164 rfl rfl ?_
                    refine X_getI kF_X9_193 rfl dX9_write_165 (fun x38 => ?_)
                    refine X_if_eq (tgt := 187) dX9_write_168 (by decide) ?_ ?_
                    · skip
                      exact (hjb22 _)
                    · skip
                      refine X_aload_n 0 dX9_write_171 rfl rfl ?_
                      refine X_aload_n 0 dX9_write_172 rfl rfl ?_
                      refine X_iload_n 3 dX9_write_173 rfl rfl ?_
                      refine X_iconst (v := (0 : Int32)) dX9_write_174 (by decide) ?_
                      refine X_callVI (ci := 9) (As := [.int v19, .int (0 : Int32)]) (st := [.ref a0]) (c_X9_form E S37 a0 v19 (0 : Int32)) (by decide) rfl kC_X9_form kL_X9_205 kI_X9_form kE_X9_form (by unfold g_okR; decide) rfl (Nat.le_of_ble_eq_true rfl) dX9_write_175 (fun x40 S39 => ?_)
                      refine X_aload_n 0 dX9_write_178 rfl rfl ?_
                      refine X_iload_n 3 dX9_write_179 rfl rfl ?_
                      refine X_iconst (v := (1 : Int32)) dX9_write_180 (by decide) ?_
                      refine X_callVI (ci := 9) (As := [.int v19, .int (1 : Int32)]) (st := [.int x40, .ref a0]) (c_X9_form E S39 a0 v19 (1 : Int32)) (by decide) rfl kC_X9_form kL_X9_205 kI_X9_form kE_X9_form (by unfold g_okR; decide) rfl (Nat.le_of_ble_eq_true rfl) dX9_write_181 (fun x42 S41 => ?_)
                      refine X_callVV (ci := 9) (As := [.int x40, .int x42]) (st := []) (c_X9_up E S41 a0 x40 x42) (by decide) rfl kC_X9_up kL_X9_214 kI_X9_up kE_X9_up (by unfold g_okR; decide) rfl (Nat.le_of_ble_eq_true rfl) dX9_write_184 (fun S43 => ?_)
                      exact (hjb22 _)
                  · skip
                    refine X_aload_n 0 dX9_write_108 rfl rfl ?_
                    refine X_aload_n 0 dX9_write_109 rfl rfl ?_
                    refine X_iload_n 3 dX9_write_110 rfl rfl ?_
                    refine X_iconst (v := (1 : Int32)) dX9_write_111 (by decide) ?_
                    refine X_callVI (ci := 9) (As := [.int v19, .int (1 : Int32)]) (st := [.ref a0]) (c_X9_form E S18 a0 v19 (1 : Int32)) (by decide) rfl kC_X9_form kL_X9_205 kI_X9_form kE_X9_form (by unfold g_okR; decide) rfl (Nat.le_of_ble_eq_true rfl) dX9_write_112 (fun x45 S44 => ?_)
                    refine X_iconst (v := (1 : Int32)) dX9_write_115 (by decide) ?_
                    refine X_callVV (ci := 9) (As := [.int x45, .int (1 : Int32)]) (st := []) (c_X9_drafted E S44 a0 x45 (1 : Int32)) (by decide) rfl kC_X9_drafted kL_X9_209 kI_X9_drafted kE_X9_drafted (by unfold g_okR; decide) rfl (Nat.le_of_ble_eq_true rfl) dX9_write_116 (fun S46 => ?_)
                    refine X_aload_n 0 dX9_write_119 rfl rfl ?_
                    refine X_aload_n 0 dX9_write_120 rfl rfl ?_
                    refine X_iload_n 3 dX9_write_121 rfl rfl ?_
                    refine X_iconst (v := (1 : Int32)) dX9_write_122 (by decide) ?_
                    refine X_callVI (ci := 9) (As := [.int v19, .int (1 : Int32)]) (st := [.ref a0]) (c_X9_form E S46 a0 v19 (1 : Int32)) (by decide) rfl kC_X9_form kL_X9_205 kI_X9_form kE_X9_form (by unfold g_okR; decide) rfl (Nat.le_of_ble_eq_true rfl) dX9_write_123 (fun x48 S47 => ?_)
                    refine X_iload 4 dX9_write_126 rfl ?_
                    refine X_jn (fun (j : gS → Int32 → Int32 → Nat → Option (Int32 × gS)) => ∀ (S49 : gS) (w50 : Int32) (w51 : Int32) (w52 : Nat), gJ gI E M_X9_write (gn S) (gsl S) 141 [(0, .ref a0), (1, .int p1), (2, .int p2), (3, .int v19), (4, .int w8), (5, .int w14), (6, .int x17)] [.int w50, .int w51, .ref w52] S49 (j S49 w50 w51 w52)) ?_ (fun jb53 hjb53 => ?_)
                    · intro S49 w50 w51 w52
                      refine X_aload_n 0 dX9_write_141 rfl rfl ?_
                      refine X_iload_n 3 dX9_write_142 rfl rfl ?_
                      refine X_iconst (v := (0 : Int32)) dX9_write_143 (by decide) ?_
                      refine X_callVI (ci := 9) (As := [.int v19, .int (0 : Int32)]) (st := [.int w50, .int w51, .ref w52]) (c_X9_form E S49 a0 v19 (0 : Int32)) (by decide) rfl kC_X9_form kL_X9_205 kI_X9_form kE_X9_form (by unfold g_okR; decide) rfl (Nat.le_of_ble_eq_true rfl) dX9_write_144 (fun x55 S54 => ?_)
                      refine X_callVV (ci := 9) (As := [.int w51, .int w50, .int x55]) (st := []) (c_X9_down E S54 w52 w51 w50 x55) (by decide) rfl kC_X9_down kL_X9_212 kI_X9_down kE_X9_down (by unfold g_okR; decide) rfl (Nat.le_of_ble_eq_true rfl) dX9_write_147 (fun S56 => ?_)
                      refine X_goto (tgt := 187) dX9_write_150 (by decide) ?_
                      exact (hjb22 _)
                    · skip
                      refine X_if_eq (tgt := 140) dX9_write_128 (by decide) ?_ ?_
                      · skip
                        refine X_iconst (v := (-1 : Int32)) dX9_write_140 (by decide) ?_
                        exact (hjb53 _ _ _ _)
                      · skip
                        refine X_aload_n 0 dX9_write_131 rfl rfl ?_
                        refine X_iload_n 3 dX9_write_132 rfl rfl ?_
                        refine X_iconst (v := (0 : Int32)) dX9_write_133 (by decide) ?_
                        refine X_callVI (ci := 9) (As := [.int v19, .int (0 : Int32)]) (st := [.int x48, .ref a0]) (c_X9_form E S47 a0 v19 (0 : Int32)) (by decide) rfl kC_X9_form kL_X9_205 kI_X9_form kE_X9_form (by unfold g_okR; decide) rfl (Nat.le_of_ble_eq_true rfl) dX9_write_134 (fun x58 S57 => ?_)
                        refine X_goto (tgt := 141) dX9_write_137 (by decide) ?_
                        exact (hjb53 _ _ _ _)
              · skip
                refine X_if_ne (tgt := 104) dX9_write_95 (by decide) ?_ ?_
                · skip
                  refine X_aload_n 2 dX9_write_98 rfl rfl ?_
                  refine X_iload_n 3 dX9_write_99 rfl rfl ?_
                  refine X_callVI (ci := 9) (As := [.int p1]) (st := []) (c_X9_insert E S16 a0 p1) (by decide) rfl kC_X9_insert kL_X9_202 kI_X9_insert kE_X9_insert (by unfold g_okR; decide) rfl (Nat.le_of_ble_eq_true rfl) dX9_write_100 (fun x60 S59 => ?_)
                  refine X_istore_n (lv2 := [(3, .int x60), (6, .int x17), (5, .int w14), (0, .ref a0), (1, .int p1), (2, .int p2), (4, .int w8)]) dX9_write_103 rfl (by decide) rfl ?_
                  exact X_sub [3, 4, 5, 0, 6, 2, 1] rfl (hjb20 _ _)
                · skip
                  exact X_sub [2, 3, 4, 5, 6, 1, 0] rfl (hjb20 _ _)
          · skip
            refine X_if_eq (tgt := 74) dX9_write_67 (by decide) ?_ ?_
            · skip
              refine X_iconst (v := (1 : Int32)) dX9_write_74 (by decide) ?_
              exact (hjb15 _ _)
            · skip
              refine X_iconst (v := (4 : Int32)) dX9_write_70 (by decide) ?_
              refine X_goto (tgt := 75) dX9_write_71 (by decide) ?_
              exact (hjb15 _ _)
        · skip
          refine X_if_ne (tgt := 63) dX9_write_48 (by decide) ?_ ?_
          · skip
            refine X_aload_n 1 dX9_write_51 rfl rfl ?_
            refine X_getI kF_X9_187 rfl dX9_write_52 (fun x61 => ?_)
            refine X_bipush (v := (40 : Int32)) dX9_write_55 (by decide) ?_
            refine X_icmp_ne (tgt := 63) dX9_write_57 (by decide) ?_ ?_
            · skip
              refine X_bipush (v := (-4 : Int32)) dX9_write_60 (by decide) ?_
              exact X_iret rfl dX9_write_62
            · skip
              exact X_sub [1, 2, 3, 4, 0] rfl (hjb11 _)
          · skip
            exact X_sub [1, 2, 3, 4, 0] rfl (hjb11 _)
      · skip
        refine X_if_lt (tgt := 43) dX9_write_36 (by decide) ?_ ?_
        · skip
          refine X_iconst (v := (0 : Int32)) dX9_write_43 (by decide) ?_
          exact X_sub [1, 2, 3, 0] rfl (hjb9 _ _)
        · skip
          refine X_iconst (v := (1 : Int32)) dX9_write_39 (by decide) ?_
          refine X_goto (tgt := 44) dX9_write_40 (by decide) ?_
          exact X_sub [1, 2, 3, 0] rfl (hjb9 _ _)
    · skip
      refine X_if_eq (tgt := 29) dX9_write_16 (by decide) ?_ ?_
      · skip
        exact (hjb4 _)
      · skip
        refine X_aload_n 0 dX9_write_19 rfl rfl ?_
        refine X_getI kF_X9_193 rfl dX9_write_20 (fun x62 => ?_)
        refine X_if_ne (tgt := 29) dX9_write_23 (by decide) ?_ ?_
        · skip
          refine X_bipush (v := (-2 : Int32)) dX9_write_26 (by decide) ?_
          exact X_iret rfl dX9_write_28
        · skip
          exact (hjb4 _)
  · skip
    refine X_bipush (v := (-8 : Int32)) dX9_write_12 (by decide) ?_
    exact X_iret rfl dX9_write_14
set_option maxRecDepth 100000 in
theorem kC_X9_write : g_okC M_X9_write 2 := And.intro (g_t (i := 734) rfl (by decide +kernel)) (And.intro (g_nd nd_10_ok (k := 19) rfl) (And.intro (by decide) (And.intro (by decide) (by decide +kernel))))
