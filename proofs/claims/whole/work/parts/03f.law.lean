def M_L_law : gM := (yL_law, cL_law, 4, some .boolean, 7, 173)
def l_L_law_18 (E : gE) (u1 : Nat) (u2 : Nat) : Nat → gS → Int32 → Option (Int32 × gS)
  | 0, _, _ => none
  | n + 1, S, u3 =>
    if ((nI (eN E)) - (6 : Int32)) < u3 then (
    some ((1 : Int32), S))
    else (
    g_ldX (eN E) (eX E) u3 fun x7 =>
    g_lt (x7 &&& (31 : Int32)) fun x8 =>
    g_jn (fun (S9 : gS) => (
    l_L_law_18 E u1 u2 n S9 (u3 + (6 : Int32)) )) fun jb10 => (
    if x8 = (0 : Int32) then (
    g_ldX (eN E) (eX E) (u3 + (1 : Int32)) fun x12 =>
    g_ldX (eN E) (eX E) (u3 + (2 : Int32)) fun x13 =>
    g_ldX (eN E) (eX E) (u3 + (3 : Int32)) fun x14 =>
    g_ldX (eN E) (eX E) (u3 + (4 : Int32)) fun x15 =>
    g_ldX (eN E) (eX E) (u3 + (5 : Int32)) fun x16 =>
    g_cVI S 8 u1 (f_X8_plan S u1 x12 x13 x14 x15 x16) fun x18 S17 =>
    g_ldX (eN E) (eX E) (u3 + (1 : Int32)) fun x19 =>
    g_ldX (eN E) (eX E) (u3 + (2 : Int32)) fun x20 =>
    g_ldX (eN E) (eX E) (u3 + (3 : Int32)) fun x21 =>
    g_ldX (eN E) (eX E) (u3 + (4 : Int32)) fun x22 =>
    g_ldX (eN E) (eX E) (u3 + (5 : Int32)) fun x23 =>
    g_cVI S17 9 u2 (f_X9_plan S17 u2 x19 x20 x21 x22 x23) fun x25 S24 =>
    if x18 = x25 then (
    jb10 S24)
    else (
    some ((0 : Int32), S24)))
    else (
    if x8 = (1 : Int32) then (
    g_cVI S 8 u1 (f_X8_scrap S u1) fun x28 S27 =>
    g_cVI S27 9 u2 (f_X9_scrap S27 u2) fun x30 S29 =>
    if x28 = x30 then (
    jb10 S29)
    else (
    some ((0 : Int32), S29)))
    else (
    if x8 = (2 : Int32) then (
    g_ldX (eN E) (eX E) (u3 + (1 : Int32)) fun x32 =>
    g_ldX (eN E) (eX E) (u3 + (2 : Int32)) fun x33 =>
    g_ldX (eN E) (eX E) (u3 + (3 : Int32)) fun x34 =>
    g_cVI S 8 u1 (f_X8_draft S u1 x32 x33 x34) fun x36 S35 =>
    g_ldX (eN E) (eX E) (u3 + (1 : Int32)) fun x37 =>
    g_ldX (eN E) (eX E) (u3 + (2 : Int32)) fun x38 =>
    g_ldX (eN E) (eX E) (u3 + (3 : Int32)) fun x39 =>
    g_cVI S35 9 u2 (f_X9_draft S35 u2 x37 x38 x39) fun x41 S40 =>
    if x36 = x41 then (
    jb10 S40)
    else (
    some ((0 : Int32), S40)))
    else (
    if x8 = (3 : Int32) then (
    g_ldX (eN E) (eX E) (u3 + (1 : Int32)) fun x43 =>
    g_ldX (eN E) (eX E) (u3 + (2 : Int32)) fun x44 =>
    g_ldX (eN E) (eX E) (u3 + (3 : Int32)) fun x45 =>
    g_cVI S 8 u1 (f_X8_letters S u1 x43 x44 x45) fun x47 S46 =>
    g_ldX (eN E) (eX E) (u3 + (1 : Int32)) fun x48 =>
    g_ldX (eN E) (eX E) (u3 + (2 : Int32)) fun x49 =>
    g_ldX (eN E) (eX E) (u3 + (3 : Int32)) fun x50 =>
    g_cVI S46 9 u2 (f_X9_letters S46 u2 x48 x49 x50) fun x52 S51 =>
    if x47 = x52 then (
    jb10 S51)
    else (
    some ((0 : Int32), S51)))
    else (
    if x8 = (4 : Int32) then (
    g_ldX (eN E) (eX E) (u3 + (1 : Int32)) fun x54 =>
    g_ldX (eN E) (eX E) (u3 + (2 : Int32)) fun x55 =>
    g_jn (fun (S56 : gS) (w57 : Int32) (w58 : Int32) (w59 : Nat) => (
    g_cVI S56 8 w59 (f_X8_write S56 w59 w58 w57) fun x62 S61 =>
    g_ldX (eN E) (eX E) (u3 + (1 : Int32)) fun x63 =>
    g_ldX (eN E) (eX E) (u3 + (2 : Int32)) fun x64 =>
    g_jn (fun (S65 : gS) (w66 : Int32) (w67 : Int32) (w68 : Nat) (w69 : Int32) => (
    g_cVI S65 9 w68 (f_X9_write S65 w68 w67 w66) fun x72 S71 =>
    if w69 = x72 then (
    jb10 S71)
    else (
    some ((0 : Int32), S71)))) fun jb70 => (
    if x64 = 0 then (
    jb70 S61 (0 : Int32) x63 u2 x62)
    else (
    jb70 S61 (1 : Int32) x63 u2 x62)))) fun jb60 => (
    if x55 = 0 then (
    jb60 S (0 : Int32) x54 u1)
    else (
    jb60 S (1 : Int32) x54 u1)))
    else (
    if x8 = (5 : Int32) then (
    g_ldX (eN E) (eX E) (u3 + (1 : Int32)) fun x74 =>
    g_cVI S 8 u1 (f_X8_remove S u1 x74) fun x76 S75 =>
    g_ldX (eN E) (eX E) (u3 + (1 : Int32)) fun x77 =>
    g_cVI S75 9 u2 (f_X9_remove S75 u2 x77) fun x79 S78 =>
    if x76 = x79 then (
    jb10 S78)
    else (
    some ((0 : Int32), S78)))
    else (
    if x8 = (6 : Int32) then (
    g_ldX (eN E) (eX E) (u3 + (1 : Int32)) fun x81 =>
    g_ldX (eN E) (eX E) (u3 + (2 : Int32)) fun x82 =>
    g_jn (fun (S83 : gS) (w84 : Int32) (w85 : Int32) (w86 : Nat) => (
    g_cVI S83 8 w86 (f_X8_read S83 w86 w85 w84) fun x89 S88 =>
    g_ldX (eN E) (eX E) (u3 + (1 : Int32)) fun x90 =>
    g_ldX (eN E) (eX E) (u3 + (2 : Int32)) fun x91 =>
    g_jn (fun (S92 : gS) (w93 : Int32) (w94 : Int32) (w95 : Nat) (w96 : Int32) => (
    g_cVI S92 9 w95 (f_X9_read S92 w95 w94 w93) fun x99 S98 =>
    if w96 = x99 then (
    jb10 S98)
    else (
    some ((0 : Int32), S98)))) fun jb97 => (
    if x91 = 0 then (
    jb97 S88 (0 : Int32) x90 u2 x89)
    else (
    jb97 S88 (1 : Int32) x90 u2 x89)))) fun jb87 => (
    if x82 = 0 then (
    jb87 S (0 : Int32) x81 u1)
    else (
    jb87 S (1 : Int32) x81 u1)))
    else (
    if x8 = (7 : Int32) then (
    g_cVI S 8 u1 (f_X8_seen S u1) fun x102 S101 =>
    g_cVI S101 9 u2 (f_X9_seen S101 u2) fun x104 S103 =>
    if x102 = x104 then (
    jb10 S103)
    else (
    some ((0 : Int32), S103)))
    else (
    if x8 = (8 : Int32) then (
    g_ldX (eN E) (eX E) (u3 + (1 : Int32)) fun x106 =>
    g_cVL S 8 u1 (f_X8_value S u1 x106) fun x108 S107 =>
    g_ldX (eN E) (eX E) (u3 + (1 : Int32)) fun x109 =>
    g_cVL S107 9 u2 (f_X9_value S107 u2 x109) fun x111 S110 =>
    if (lg_cmp x108 x111) = 0 then (
    jb10 S110)
    else (
    some ((0 : Int32), S110)))
    else (
    if x8 = (9 : Int32) then (
    g_ldX (eN E) (eX E) (u3 + (1 : Int32)) fun x113 =>
    g_ldX (eN E) (eX E) (u3 + (2 : Int32)) fun x114 =>
    g_cVI S 8 u1 (f_X8_letter S u1 x113 x114) fun x116 S115 =>
    g_ldX (eN E) (eX E) (u3 + (1 : Int32)) fun x117 =>
    g_ldX (eN E) (eX E) (u3 + (2 : Int32)) fun x118 =>
    g_cVI S115 9 u2 (f_X9_letter S115 u2 x117 x118) fun x120 S119 =>
    if x116 = x120 then (
    jb10 S119)
    else (
    some ((0 : Int32), S119)))
    else (
    if x8 = (10 : Int32) then (
    g_ldX (eN E) (eX E) (u3 + (1 : Int32)) fun x122 =>
    g_ldX (eN E) (eX E) (u3 + (2 : Int32)) fun x123 =>
    g_jn (fun (S124 : gS) (w125 : Int32) (w126 : Int32) (w127 : Nat) => (
    g_cVI S124 8 w127 (f_X8_next S124 w127 w126 w125) fun x130 S129 =>
    g_ldX (eN E) (eX E) (u3 + (1 : Int32)) fun x131 =>
    g_ldX (eN E) (eX E) (u3 + (2 : Int32)) fun x132 =>
    g_jn (fun (S133 : gS) (w134 : Int32) (w135 : Int32) (w136 : Nat) (w137 : Int32) => (
    g_cVI S133 9 w136 (f_X9_next S133 w136 w135 w134) fun x140 S139 =>
    if w137 = x140 then (
    jb10 S139)
    else (
    some ((0 : Int32), S139)))) fun jb138 => (
    if x132 = 0 then (
    jb138 S129 (0 : Int32) x131 u2 x130)
    else (
    jb138 S129 (1 : Int32) x131 u2 x130)))) fun jb128 => (
    if x123 = 0 then (
    jb128 S (0 : Int32) x122 u1)
    else (
    jb128 S (1 : Int32) x122 u1)))
    else (
    if x8 = (11 : Int32) then (
    g_ldX (eN E) (eX E) (u3 + (1 : Int32)) fun x142 =>
    g_ldX (eN E) (eX E) (u3 + (2 : Int32)) fun x143 =>
    g_jn (fun (S144 : gS) (w145 : Int32) (w146 : Int32) (w147 : Nat) => (
    g_cVI S144 8 w147 (f_X8_more S144 w147 w146 w145) fun x150 S149 =>
    g_ldX (eN E) (eX E) (u3 + (1 : Int32)) fun x151 =>
    g_ldX (eN E) (eX E) (u3 + (2 : Int32)) fun x152 =>
    g_jn (fun (S153 : gS) (w154 : Int32) (w155 : Int32) (w156 : Nat) (w157 : Int32) => (
    g_cVI S153 9 w156 (f_X9_more S153 w156 w155 w154) fun x160 S159 =>
    if w157 = x160 then (
    jb10 S159)
    else (
    some ((0 : Int32), S159)))) fun jb158 => (
    if x152 = 0 then (
    jb158 S149 (0 : Int32) x151 u2 x150)
    else (
    jb158 S149 (1 : Int32) x151 u2 x150)))) fun jb148 => (
    if x143 = 0 then (
    jb148 S (0 : Int32) x142 u1)
    else (
    jb148 S (1 : Int32) x142 u1)))
    else (
    if x8 = (12 : Int32) then (
    g_cVI S 8 u1 (f_X8_begin S u1) fun x163 S162 =>
    g_cVI S162 9 u2 (f_X9_begin S162 u2) fun x165 S164 =>
    if x163 = x165 then (
    jb10 S164)
    else (
    some ((0 : Int32), S164)))
    else (
    if x8 = (13 : Int32) then (
    g_cVI S 8 u1 (f_X8_finish S u1) fun x168 S167 =>
    g_cVI S167 9 u2 (f_X9_finish S167 u2) fun x170 S169 =>
    if x168 = x170 then (
    jb10 S169)
    else (
    some ((0 : Int32), S169)))
    else (
    if x8 = (14 : Int32) then (
    g_cVI S 8 u1 (f_X8_rollback S u1) fun x173 S172 =>
    g_cVI S172 9 u2 (f_X9_rollback S172 u2) fun x175 S174 =>
    if x173 = x175 then (
    jb10 S174)
    else (
    some ((0 : Int32), S174)))
    else (
    if x8 = (15 : Int32) then (
    g_cVI S 8 u1 (f_X8_backfill S u1) fun x178 S177 =>
    g_cVI S177 9 u2 (f_X9_backfill S177 u2) fun x180 S179 =>
    if x178 = x180 then (
    jb10 S179)
    else (
    some ((0 : Int32), S179)))
    else (
    if x8 = (16 : Int32) then (
    g_ldX (eN E) (eX E) (u3 + (1 : Int32)) fun x182 =>
    g_cVI S 8 u1 (f_X8_crash S u1 x182) fun x184 S183 =>
    g_ldX (eN E) (eX E) (u3 + (1 : Int32)) fun x185 =>
    g_cVI S183 9 u2 (f_X9_crash S183 u2 x185) fun x187 S186 =>
    if x184 = x187 then (
    jb10 S186)
    else (
    some ((0 : Int32), S186)))
    else (
    if x8 = (17 : Int32) then (
    g_cVI S 8 u1 (f_X8_restart S u1) fun x190 S189 =>
    g_cVI S189 9 u2 (f_X9_restart S189 u2) fun x192 S191 =>
    if x190 = x192 then (
    jb10 S191)
    else (
    some ((0 : Int32), S191)))
    else (
    if x8 = (18 : Int32) then (
    g_cVI S 8 u1 (f_X8_isDown S u1) fun x195 S194 =>
    g_cVI S194 9 u2 (f_X9_isDown S194 u2) fun x197 S196 =>
    if x195 = x197 then (
    jb10 S196)
    else (
    some ((0 : Int32), S196)))
    else (
    if x8 = (19 : Int32) then (
    g_ldX (eN E) (eX E) (u3 + (1 : Int32)) fun x199 =>
    g_cVI S 8 u1 (f_X8_count S u1 x199) fun x201 S200 =>
    g_ldX (eN E) (eX E) (u3 + (1 : Int32)) fun x202 =>
    g_cVI S200 9 u2 (f_X9_count S200 u2 x202) fun x204 S203 =>
    if x201 = x204 then (
    jb10 S203)
    else (
    some ((0 : Int32), S203)))
    else (
    if x8 = (20 : Int32) then (
    g_ldX (eN E) (eX E) (u3 + (1 : Int32)) fun x206 =>
    g_ldX (eN E) (eX E) (u3 + (2 : Int32)) fun x207 =>
    g_jn (fun (S208 : gS) (w209 : Int32) (w210 : Int32) (w211 : Nat) => (
    g_cVI S208 8 w211 (f_X8_column S208 w211 w210 w209) fun x214 S213 =>
    g_ldX (eN E) (eX E) (u3 + (1 : Int32)) fun x215 =>
    g_ldX (eN E) (eX E) (u3 + (2 : Int32)) fun x216 =>
    g_jn (fun (S217 : gS) (w218 : Int32) (w219 : Int32) (w220 : Nat) (w221 : Int32) => (
    g_cVI S217 9 w220 (f_X9_column S217 w220 w219 w218) fun x224 S223 =>
    if w221 = x224 then (
    jb10 S223)
    else (
    some ((0 : Int32), S223)))) fun jb222 => (
    if x216 = 0 then (
    jb222 S213 (0 : Int32) x215 u2 x214)
    else (
    jb222 S213 (1 : Int32) x215 u2 x214)))) fun jb212 => (
    if x207 = 0 then (
    jb212 S (0 : Int32) x206 u1)
    else (
    jb212 S (1 : Int32) x206 u1)))
    else (
    jb10 S)))))))))))))))))))))))
def f_L_law (E : gE) (S : gS)  : Option (Int32 × gS) :=
g_new S 8 fun a1 S2 =>
g_cN (f_X8_init S2 a1) fun S3 =>
g_new S3 9 fun a4 S5 =>
g_cN (f_X9_init S5 a4) fun S6 =>
l_L_law_18 E a1 a4 600 S6 (0 : Int32) 
set_option maxRecDepth 100000 in
set_option maxHeartbeats 4000000 in
theorem j_L_law_18 (E : gE) {n0 s0 : Nat} (u1 : Nat) (u2 : Nat) : ∀ (n : Nat) (S : gS) (u3 : Int32), gJ gI E M_L_law n0 s0 18 [(0, .retAddr 0), (1, .ref u1), (2, .ref u2), (3, .int u3)] [] S (l_L_law_18 E u1 u2 n S u3 ) := by
  intro n
  induction n with
  | zero =>
    intros
    rw [l_L_law_18]
    exact gJ.none
  | succ n ih =>
    intro S u3  
    rw [l_L_law_18]
    refine X_iload_n 3 dL_law_18 rfl rfl ?_
    refine X_aload_nT 0 dL_law_19 rfl rfl ?_
    refine X_slen dL_law_20 ?_
    refine X_bipush (v := (6 : Int32)) dL_law_21 (by decide) ?_
    refine X_isub dL_law_23 ?_
    refine X_icmp_gt (tgt := 762) dL_law_24 (by decide) ?_ ?_
    · skip
      refine X_iconst (v := (1 : Int32)) dL_law_762 (by decide) ?_
      exact X_z1 rfl dL_law_763
    · skip
      refine X_aload_nT 0 dL_law_27 rfl rfl ?_
      refine X_iload_n 3 dL_law_28 rfl rfl ?_
      refine X_sld dL_law_29 (fun x7 => ?_)
      refine X_bipush (v := (31 : Int32)) dL_law_30 (by decide) ?_
      refine X_iand dL_law_32 ?_
      refine X_topI (fun x8 => ?_)
      refine X_jn (fun (j : gS → Option (Int32 × gS)) => ∀ (S9 : gS), gJ gI E M_L_law n0 s0 756 [(0, .retAddr 0), (1, .ref u1), (2, .ref u2), (3, .int u3)] [] S9 (j S9)) ?_ (fun jb10 hjb10 => ?_)
      · intro S9
        refine X_iinc (k := 3) (x := u3) (v := (6 : Int32)) (lv2 := [(3, .int (u3 + (6 : Int32))), (0, .retAddr 0), (1, .ref u1), (2, .ref u2)]) dL_law_756 rfl (by decide) (by decide) rfl ?_
        refine X_goto (tgt := 18) dL_law_759 (by decide) ?_
        exact X_sub [1, 2, 3, 0] rfl (ih _ _)
      · skip
        by_cases h11 : x8 = (0 : Int32)
        · refine X_eq (if_pos h11) ?_
          refine X_tin (tgt := 132) dL_law_33 (by rw [h11]; decide) (by rw [h11]; decide) (by rw [h11]; rfl) (by decide) ?_
          refine X_aload_n 1 dL_law_132 rfl rfl ?_
          refine X_aload_nT 0 dL_law_133 rfl rfl ?_
          refine X_iload_n 3 dL_law_134 rfl rfl ?_
          refine X_iconst (v := (1 : Int32)) dL_law_135 (by decide) ?_
          refine X_iadd dL_law_136 ?_
          refine X_sld dL_law_137 (fun x12 => ?_)
          refine X_aload_nT 0 dL_law_138 rfl rfl ?_
          refine X_iload_n 3 dL_law_139 rfl rfl ?_
          refine X_iconst (v := (2 : Int32)) dL_law_140 (by decide) ?_
          refine X_iadd dL_law_141 ?_
          refine X_sld dL_law_142 (fun x13 => ?_)
          refine X_aload_nT 0 dL_law_143 rfl rfl ?_
          refine X_iload_n 3 dL_law_144 rfl rfl ?_
          refine X_iconst (v := (3 : Int32)) dL_law_145 (by decide) ?_
          refine X_iadd dL_law_146 ?_
          refine X_sld dL_law_147 (fun x14 => ?_)
          refine X_aload_nT 0 dL_law_148 rfl rfl ?_
          refine X_iload_n 3 dL_law_149 rfl rfl ?_
          refine X_iconst (v := (4 : Int32)) dL_law_150 (by decide) ?_
          refine X_iadd dL_law_151 ?_
          refine X_sld dL_law_152 (fun x15 => ?_)
          refine X_aload_nT 0 dL_law_153 rfl rfl ?_
          refine X_iload_n 3 dL_law_154 rfl rfl ?_
          refine X_iconst (v := (5 : Int32)) dL_law_155 (by decide) ?_
          refine X_iadd dL_law_156 ?_
          refine X_sld dL_law_157 (fun x16 => ?_)
          refine X_callVI (ci := 8) (As := [.int x12, .int x13, .int x14, .int x15, .int x16]) (st := []) (c_X8_plan E S u1 x12 x13 x14 x15 x16) (by decide) rfl kC_X8_plan kL_L_13 kI_X8_plan kE_X8_plan (by unfold g_okR; decide) rfl (Nat.le_of_ble_eq_true rfl) dL_law_158 (fun x18 S17 => ?_)
          refine X_aload_n 2 dL_law_161 rfl rfl ?_
          refine X_aload_nT 0 dL_law_162 rfl rfl ?_
          refine X_iload_n 3 dL_law_163 rfl rfl ?_
          refine X_iconst (v := (1 : Int32)) dL_law_164 (by decide) ?_
          refine X_iadd dL_law_165 ?_
          refine X_sld dL_law_166 (fun x19 => ?_)
          refine X_aload_nT 0 dL_law_167 rfl rfl ?_
          refine X_iload_n 3 dL_law_168 rfl rfl ?_
          refine X_iconst (v := (2 : Int32)) dL_law_169 (by decide) ?_
          refine X_iadd dL_law_170 ?_
          refine X_sld dL_law_171 (fun x20 => ?_)
          refine X_aload_nT 0 dL_law_172 rfl rfl ?_
          refine X_iload_n 3 dL_law_173 rfl rfl ?_
          refine X_iconst (v := (3 : Int32)) dL_law_174 (by decide) ?_
          refine X_iadd dL_law_175 ?_
          refine X_sld dL_law_176 (fun x21 => ?_)
          refine X_aload_nT 0 dL_law_177 rfl rfl ?_
          refine X_iload_n 3 dL_law_178 rfl rfl ?_
          refine X_iconst (v := (4 : Int32)) dL_law_179 (by decide) ?_
          refine X_iadd dL_law_180 ?_
          refine X_sld dL_law_181 (fun x22 => ?_)
          refine X_aload_nT 0 dL_law_182 rfl rfl ?_
          refine X_iload_n 3 dL_law_183 rfl rfl ?_
          refine X_iconst (v := (5 : Int32)) dL_law_184 (by decide) ?_
          refine X_iadd dL_law_185 ?_
          refine X_sld dL_law_186 (fun x23 => ?_)
          refine X_callVI (ci := 9) (As := [.int x19, .int x20, .int x21, .int x22, .int x23]) (st := [.int x18]) (c_X9_plan E S17 u2 x19 x20 x21 x22 x23) (by decide) rfl kC_X9_plan kL_L_17 kI_X9_plan kE_X9_plan (by unfold g_okR; decide) rfl (Nat.le_of_ble_eq_true rfl) dL_law_187 (fun x25 S24 => ?_)
          refine X_icmp_eq (tgt := 756) dL_law_190 (by decide) ?_ ?_
          · skip
            exact (hjb10 _)
          · skip
            refine X_iconst (v := (0 : Int32)) dL_law_193 (by decide) ?_
            exact X_z0 rfl dL_law_194
        · refine X_eq (if_neg h11) ?_
          by_cases h26 : x8 = (1 : Int32)
          · refine X_eq (if_pos h26) ?_
            refine X_tin (tgt := 195) dL_law_33 (by rw [h26]; decide) (by rw [h26]; decide) (by rw [h26]; rfl) (by decide) ?_
            refine X_aload_n 1 dL_law_195 rfl rfl ?_
            refine X_callVI (ci := 8) (As := []) (st := []) (c_X8_scrap E S u1) (by decide) rfl kC_X8_scrap kL_L_18 kI_X8_scrap kE_X8_scrap (by unfold g_okR; decide) rfl (Nat.le_of_ble_eq_true rfl) dL_law_196 (fun x28 S27 => ?_)
            refine X_aload_n 2 dL_law_199 rfl rfl ?_
            refine X_callVI (ci := 9) (As := []) (st := [.int x28]) (c_X9_scrap E S27 u2) (by decide) rfl kC_X9_scrap kL_L_22 kI_X9_scrap kE_X9_scrap (by unfold g_okR; decide) rfl (Nat.le_of_ble_eq_true rfl) dL_law_200 (fun x30 S29 => ?_)
            refine X_icmp_eq (tgt := 756) dL_law_203 (by decide) ?_ ?_
            · skip
              exact (hjb10 _)
            · skip
              refine X_iconst (v := (0 : Int32)) dL_law_206 (by decide) ?_
              exact X_z0 rfl dL_law_207
          · refine X_eq (if_neg h26) ?_
            by_cases h31 : x8 = (2 : Int32)
            · refine X_eq (if_pos h31) ?_
              refine X_tin (tgt := 208) dL_law_33 (by rw [h31]; decide) (by rw [h31]; decide) (by rw [h31]; rfl) (by decide) ?_
              refine X_aload_n 1 dL_law_208 rfl rfl ?_
              refine X_aload_nT 0 dL_law_209 rfl rfl ?_
              refine X_iload_n 3 dL_law_210 rfl rfl ?_
              refine X_iconst (v := (1 : Int32)) dL_law_211 (by decide) ?_
              refine X_iadd dL_law_212 ?_
              refine X_sld dL_law_213 (fun x32 => ?_)
              refine X_aload_nT 0 dL_law_214 rfl rfl ?_
              refine X_iload_n 3 dL_law_215 rfl rfl ?_
              refine X_iconst (v := (2 : Int32)) dL_law_216 (by decide) ?_
              refine X_iadd dL_law_217 ?_
              refine X_sld dL_law_218 (fun x33 => ?_)
              refine X_aload_nT 0 dL_law_219 rfl rfl ?_
              refine X_iload_n 3 dL_law_220 rfl rfl ?_
              refine X_iconst (v := (3 : Int32)) dL_law_221 (by decide) ?_
              refine X_iadd dL_law_222 ?_
              refine X_sld dL_law_223 (fun x34 => ?_)
              refine X_callVI (ci := 8) (As := [.int x32, .int x33, .int x34]) (st := []) (c_X8_draft E S u1 x32 x33 x34) (by decide) rfl kC_X8_draft kL_L_23 kI_X8_draft kE_X8_draft (by unfold g_okR; decide) rfl (Nat.le_of_ble_eq_true rfl) dL_law_224 (fun x36 S35 => ?_)
              refine X_aload_n 2 dL_law_227 rfl rfl ?_
              refine X_aload_nT 0 dL_law_228 rfl rfl ?_
              refine X_iload_n 3 dL_law_229 rfl rfl ?_
              refine X_iconst (v := (1 : Int32)) dL_law_230 (by decide) ?_
              refine X_iadd dL_law_231 ?_
              refine X_sld dL_law_232 (fun x37 => ?_)
              refine X_aload_nT 0 dL_law_233 rfl rfl ?_
              refine X_iload_n 3 dL_law_234 rfl rfl ?_
              refine X_iconst (v := (2 : Int32)) dL_law_235 (by decide) ?_
              refine X_iadd dL_law_236 ?_
              refine X_sld dL_law_237 (fun x38 => ?_)
              refine X_aload_nT 0 dL_law_238 rfl rfl ?_
              refine X_iload_n 3 dL_law_239 rfl rfl ?_
              refine X_iconst (v := (3 : Int32)) dL_law_240 (by decide) ?_
              refine X_iadd dL_law_241 ?_
              refine X_sld dL_law_242 (fun x39 => ?_)
              refine X_callVI (ci := 9) (As := [.int x37, .int x38, .int x39]) (st := [.int x36]) (c_X9_draft E S35 u2 x37 x38 x39) (by decide) rfl kC_X9_draft kL_L_27 kI_X9_draft kE_X9_draft (by unfold g_okR; decide) rfl (Nat.le_of_ble_eq_true rfl) dL_law_243 (fun x41 S40 => ?_)
              refine X_icmp_eq (tgt := 756) dL_law_246 (by decide) ?_ ?_
              · skip
                exact (hjb10 _)
              · skip
                refine X_iconst (v := (0 : Int32)) dL_law_249 (by decide) ?_
                exact X_z0 rfl dL_law_250
            · refine X_eq (if_neg h31) ?_
              by_cases h42 : x8 = (3 : Int32)
              · refine X_eq (if_pos h42) ?_
                refine X_tin (tgt := 251) dL_law_33 (by rw [h42]; decide) (by rw [h42]; decide) (by rw [h42]; rfl) (by decide) ?_
                refine X_aload_n 1 dL_law_251 rfl rfl ?_
                refine X_aload_nT 0 dL_law_252 rfl rfl ?_
                refine X_iload_n 3 dL_law_253 rfl rfl ?_
                refine X_iconst (v := (1 : Int32)) dL_law_254 (by decide) ?_
                refine X_iadd dL_law_255 ?_
                refine X_sld dL_law_256 (fun x43 => ?_)
                refine X_aload_nT 0 dL_law_257 rfl rfl ?_
                refine X_iload_n 3 dL_law_258 rfl rfl ?_
                refine X_iconst (v := (2 : Int32)) dL_law_259 (by decide) ?_
                refine X_iadd dL_law_260 ?_
                refine X_sld dL_law_261 (fun x44 => ?_)
                refine X_aload_nT 0 dL_law_262 rfl rfl ?_
                refine X_iload_n 3 dL_law_263 rfl rfl ?_
                refine X_iconst (v := (3 : Int32)) dL_law_264 (by decide) ?_
                refine X_iadd dL_law_265 ?_
                refine X_sld dL_law_266 (fun x45 => ?_)
                refine X_callVI (ci := 8) (As := [.int x43, .int x44, .int x45]) (st := []) (c_X8_letters E S u1 x43 x44 x45) (by decide) rfl kC_X8_letters kL_L_28 kI_X8_letters kE_X8_letters (by unfold g_okR; decide) rfl (Nat.le_of_ble_eq_true rfl) dL_law_267 (fun x47 S46 => ?_)
                refine X_aload_n 2 dL_law_270 rfl rfl ?_
                refine X_aload_nT 0 dL_law_271 rfl rfl ?_
                refine X_iload_n 3 dL_law_272 rfl rfl ?_
                refine X_iconst (v := (1 : Int32)) dL_law_273 (by decide) ?_
                refine X_iadd dL_law_274 ?_
                refine X_sld dL_law_275 (fun x48 => ?_)
                refine X_aload_nT 0 dL_law_276 rfl rfl ?_
                refine X_iload_n 3 dL_law_277 rfl rfl ?_
                refine X_iconst (v := (2 : Int32)) dL_law_278 (by decide) ?_
                refine X_iadd dL_law_279 ?_
                refine X_sld dL_law_280 (fun x49 => ?_)
                refine X_aload_nT 0 dL_law_281 rfl rfl ?_
                refine X_iload_n 3 dL_law_282 rfl rfl ?_
                refine X_iconst (v := (3 : Int32)) dL_law_283 (by decide) ?_
                refine X_iadd dL_law_284 ?_
                refine X_sld dL_law_285 (fun x50 => ?_)
                refine X_callVI (ci := 9) (As := [.int x48, .int x49, .int x50]) (st := [.int x47]) (c_X9_letters E S46 u2 x48 x49 x50) (by decide) rfl kC_X9_letters kL_L_31 kI_X9_letters kE_X9_letters (by unfold g_okR; decide) rfl (Nat.le_of_ble_eq_true rfl) dL_law_286 (fun x52 S51 => ?_)
                refine X_icmp_eq (tgt := 756) dL_law_289 (by decide) ?_ ?_
                · skip
                  exact (hjb10 _)
                · skip
                  refine X_iconst (v := (0 : Int32)) dL_law_292 (by decide) ?_
                  exact X_z0 rfl dL_law_293
              · refine X_eq (if_neg h42) ?_
                by_cases h53 : x8 = (4 : Int32)
                · refine X_eq (if_pos h53) ?_
                  refine X_tin (tgt := 294) dL_law_33 (by rw [h53]; decide) (by rw [h53]; decide) (by rw [h53]; rfl) (by decide) ?_
                  refine X_aload_n 1 dL_law_294 rfl rfl ?_
                  refine X_aload_nT 0 dL_law_295 rfl rfl ?_
                  refine X_iload_n 3 dL_law_296 rfl rfl ?_
                  refine X_iconst (v := (1 : Int32)) dL_law_297 (by decide) ?_
                  refine X_iadd dL_law_298 ?_
                  refine X_sld dL_law_299 (fun x54 => ?_)
                  refine X_aload_nT 0 dL_law_300 rfl rfl ?_
                  refine X_iload_n 3 dL_law_301 rfl rfl ?_
                  refine X_iconst (v := (2 : Int32)) dL_law_302 (by decide) ?_
                  refine X_iadd dL_law_303 ?_
                  refine X_sld dL_law_304 (fun x55 => ?_)
                  refine X_jn (fun (j : gS → Int32 → Int32 → Nat → Option (Int32 × gS)) => ∀ (S56 : gS) (w57 : Int32) (w58 : Int32) (w59 : Nat), gJ gI E M_L_law n0 s0 313 [(0, .retAddr 0), (1, .ref u1), (2, .ref u2), (3, .int u3)] [.int w57, .int w58, .ref w59] S56 (j S56 w57 w58 w59)) ?_ (fun jb60 hjb60 => ?_)
                  · intro S56 w57 w58 w59
                    refine X_callVI (ci := 8) (As := [.int w58, .int w57]) (st := []) (c_X8_write E S56 w59 w58 w57) (by decide) rfl kC_X8_write kL_L_32 kI_X8_write kE_X8_write (by unfold g_okR; decide) rfl (Nat.le_of_ble_eq_true rfl) dL_law_313 (fun x62 S61 => ?_)
                    refine X_aload_n 2 dL_law_316 rfl rfl ?_
                    refine X_aload_nT 0 dL_law_317 rfl rfl ?_
                    refine X_iload_n 3 dL_law_318 rfl rfl ?_
                    refine X_iconst (v := (1 : Int32)) dL_law_319 (by decide) ?_
                    refine X_iadd dL_law_320 ?_
                    refine X_sld dL_law_321 (fun x63 => ?_)
                    refine X_aload_nT 0 dL_law_322 rfl rfl ?_
                    refine X_iload_n 3 dL_law_323 rfl rfl ?_
                    refine X_iconst (v := (2 : Int32)) dL_law_324 (by decide) ?_
                    refine X_iadd dL_law_325 ?_
                    refine X_sld dL_law_326 (fun x64 => ?_)
                    refine X_jn (fun (j : gS → Int32 → Int32 → Nat → Int32 → Option (Int32 × gS)) => ∀ (S65 : gS) (w66 : Int32) (w67 : Int32) (w68 : Nat) (w69 : Int32), gJ gI E M_L_law n0 s0 335 [(0, .retAddr 0), (1, .ref u1), (2, .ref u2), (3, .int u3)] [.int w66, .int w67, .ref w68, .int w69] S65 (j S65 w66 w67 w68 w69)) ?_ (fun jb70 hjb70 => ?_)
                    · intro S65 w66 w67 w68 w69
                      refine X_callVI (ci := 9) (As := [.int w67, .int w66]) (st := [.int w69]) (c_X9_write E S65 w68 w67 w66) (by decide) rfl kC_X9_write kL_L_36 kI_X9_write kE_X9_write (by unfold g_okR; decide) rfl (Nat.le_of_ble_eq_true rfl) dL_law_335 (fun x72 S71 => ?_)
                      refine X_icmp_eq (tgt := 756) dL_law_338 (by decide) ?_ ?_
                      · skip
                        exact (hjb10 _)
                      · skip
                        refine X_iconst (v := (0 : Int32)) dL_law_341 (by decide) ?_
                        exact X_z0 rfl dL_law_342
                    · skip
                      refine X_if_eq (tgt := 334) dL_law_327 (by decide) ?_ ?_
                      · skip
                        refine X_iconst (v := (0 : Int32)) dL_law_334 (by decide) ?_
                        exact (hjb70 _ _ _ _ _)
                      · skip
                        refine X_iconst (v := (1 : Int32)) dL_law_330 (by decide) ?_
                        refine X_goto (tgt := 335) dL_law_331 (by decide) ?_
                        exact (hjb70 _ _ _ _ _)
                  · skip
                    refine X_if_eq (tgt := 312) dL_law_305 (by decide) ?_ ?_
                    · skip
                      refine X_iconst (v := (0 : Int32)) dL_law_312 (by decide) ?_
                      exact (hjb60 _ _ _ _)
                    · skip
                      refine X_iconst (v := (1 : Int32)) dL_law_308 (by decide) ?_
                      refine X_goto (tgt := 313) dL_law_309 (by decide) ?_
                      exact (hjb60 _ _ _ _)
                · refine X_eq (if_neg h53) ?_
                  by_cases h73 : x8 = (5 : Int32)
                  · refine X_eq (if_pos h73) ?_
                    refine X_tin (tgt := 343) dL_law_33 (by rw [h73]; decide) (by rw [h73]; decide) (by rw [h73]; rfl) (by decide) ?_
                    refine X_aload_n 1 dL_law_343 rfl rfl ?_
                    refine X_aload_nT 0 dL_law_344 rfl rfl ?_
                    refine X_iload_n 3 dL_law_345 rfl rfl ?_
                    refine X_iconst (v := (1 : Int32)) dL_law_346 (by decide) ?_
                    refine X_iadd dL_law_347 ?_
                    refine X_sld dL_law_348 (fun x74 => ?_)
                    refine X_callVI (ci := 8) (As := [.int x74]) (st := []) (c_X8_remove E S u1 x74) (by decide) rfl kC_X8_remove kL_L_37 kI_X8_remove kE_X8_remove (by unfold g_okR; decide) rfl (Nat.le_of_ble_eq_true rfl) dL_law_349 (fun x76 S75 => ?_)
                    refine X_aload_n 2 dL_law_352 rfl rfl ?_
                    refine X_aload_nT 0 dL_law_353 rfl rfl ?_
                    refine X_iload_n 3 dL_law_354 rfl rfl ?_
                    refine X_iconst (v := (1 : Int32)) dL_law_355 (by decide) ?_
                    refine X_iadd dL_law_356 ?_
                    refine X_sld dL_law_357 (fun x77 => ?_)
                    refine X_callVI (ci := 9) (As := [.int x77]) (st := [.int x76]) (c_X9_remove E S75 u2 x77) (by decide) rfl kC_X9_remove kL_L_41 kI_X9_remove kE_X9_remove (by unfold g_okR; decide) rfl (Nat.le_of_ble_eq_true rfl) dL_law_358 (fun x79 S78 => ?_)
                    refine X_icmp_eq (tgt := 756) dL_law_361 (by decide) ?_ ?_
                    · skip
                      exact (hjb10 _)
                    · skip
                      refine X_iconst (v := (0 : Int32)) dL_law_364 (by decide) ?_
                      exact X_z0 rfl dL_law_365
                  · refine X_eq (if_neg h73) ?_
                    by_cases h80 : x8 = (6 : Int32)
                    · refine X_eq (if_pos h80) ?_
                      refine X_tin (tgt := 366) dL_law_33 (by rw [h80]; decide) (by rw [h80]; decide) (by rw [h80]; rfl) (by decide) ?_
                      refine X_aload_n 1 dL_law_366 rfl rfl ?_
                      refine X_aload_nT 0 dL_law_367 rfl rfl ?_
                      refine X_iload_n 3 dL_law_368 rfl rfl ?_
                      refine X_iconst (v := (1 : Int32)) dL_law_369 (by decide) ?_
                      refine X_iadd dL_law_370 ?_
                      refine X_sld dL_law_371 (fun x81 => ?_)
                      refine X_aload_nT 0 dL_law_372 rfl rfl ?_
                      refine X_iload_n 3 dL_law_373 rfl rfl ?_
                      refine X_iconst (v := (2 : Int32)) dL_law_374 (by decide) ?_
                      refine X_iadd dL_law_375 ?_
                      refine X_sld dL_law_376 (fun x82 => ?_)
                      refine X_jn (fun (j : gS → Int32 → Int32 → Nat → Option (Int32 × gS)) => ∀ (S83 : gS) (w84 : Int32) (w85 : Int32) (w86 : Nat), gJ gI E M_L_law n0 s0 385 [(0, .retAddr 0), (1, .ref u1), (2, .ref u2), (3, .int u3)] [.int w84, .int w85, .ref w86] S83 (j S83 w84 w85 w86)) ?_ (fun jb87 hjb87 => ?_)
                      · intro S83 w84 w85 w86
                        refine X_callVI (ci := 8) (As := [.int w85, .int w84]) (st := []) (c_X8_read E S83 w86 w85 w84) (by decide) rfl kC_X8_read kL_L_42 kI_X8_read kE_X8_read (by unfold g_okR; decide) rfl (Nat.le_of_ble_eq_true rfl) dL_law_385 (fun x89 S88 => ?_)
                        refine X_aload_n 2 dL_law_388 rfl rfl ?_
                        refine X_aload_nT 0 dL_law_389 rfl rfl ?_
                        refine X_iload_n 3 dL_law_390 rfl rfl ?_
                        refine X_iconst (v := (1 : Int32)) dL_law_391 (by decide) ?_
                        refine X_iadd dL_law_392 ?_
                        refine X_sld dL_law_393 (fun x90 => ?_)
                        refine X_aload_nT 0 dL_law_394 rfl rfl ?_
                        refine X_iload_n 3 dL_law_395 rfl rfl ?_
                        refine X_iconst (v := (2 : Int32)) dL_law_396 (by decide) ?_
                        refine X_iadd dL_law_397 ?_
                        refine X_sld dL_law_398 (fun x91 => ?_)
                        refine X_jn (fun (j : gS → Int32 → Int32 → Nat → Int32 → Option (Int32 × gS)) => ∀ (S92 : gS) (w93 : Int32) (w94 : Int32) (w95 : Nat) (w96 : Int32), gJ gI E M_L_law n0 s0 407 [(0, .retAddr 0), (1, .ref u1), (2, .ref u2), (3, .int u3)] [.int w93, .int w94, .ref w95, .int w96] S92 (j S92 w93 w94 w95 w96)) ?_ (fun jb97 hjb97 => ?_)
                        · intro S92 w93 w94 w95 w96
                          refine X_callVI (ci := 9) (As := [.int w94, .int w93]) (st := [.int w96]) (c_X9_read E S92 w95 w94 w93) (by decide) rfl kC_X9_read kL_L_45 kI_X9_read kE_X9_read (by unfold g_okR; decide) rfl (Nat.le_of_ble_eq_true rfl) dL_law_407 (fun x99 S98 => ?_)
                          refine X_icmp_eq (tgt := 756) dL_law_410 (by decide) ?_ ?_
                          · skip
                            exact (hjb10 _)
                          · skip
                            refine X_iconst (v := (0 : Int32)) dL_law_413 (by decide) ?_
                            exact X_z0 rfl dL_law_414
                        · skip
                          refine X_if_eq (tgt := 406) dL_law_399 (by decide) ?_ ?_
                          · skip
                            refine X_iconst (v := (0 : Int32)) dL_law_406 (by decide) ?_
                            exact (hjb97 _ _ _ _ _)
                          · skip
                            refine X_iconst (v := (1 : Int32)) dL_law_402 (by decide) ?_
                            refine X_goto (tgt := 407) dL_law_403 (by decide) ?_
                            exact (hjb97 _ _ _ _ _)
                      · skip
                        refine X_if_eq (tgt := 384) dL_law_377 (by decide) ?_ ?_
                        · skip
                          refine X_iconst (v := (0 : Int32)) dL_law_384 (by decide) ?_
                          exact (hjb87 _ _ _ _)
                        · skip
                          refine X_iconst (v := (1 : Int32)) dL_law_380 (by decide) ?_
                          refine X_goto (tgt := 385) dL_law_381 (by decide) ?_
                          exact (hjb87 _ _ _ _)
                    · refine X_eq (if_neg h80) ?_
                      by_cases h100 : x8 = (7 : Int32)
                      · refine X_eq (if_pos h100) ?_
                        refine X_tin (tgt := 415) dL_law_33 (by rw [h100]; decide) (by rw [h100]; decide) (by rw [h100]; rfl) (by decide) ?_
                        refine X_aload_n 1 dL_law_415 rfl rfl ?_
                        refine X_callVI (ci := 8) (As := []) (st := []) (c_X8_seen E S u1) (by decide) rfl kC_X8_seen kL_L_46 kI_X8_seen kE_X8_seen (by unfold g_okR; decide) rfl (Nat.le_of_ble_eq_true rfl) dL_law_416 (fun x102 S101 => ?_)
                        refine X_aload_n 2 dL_law_419 rfl rfl ?_
                        refine X_callVI (ci := 9) (As := []) (st := [.int x102]) (c_X9_seen E S101 u2) (by decide) rfl kC_X9_seen kL_L_49 kI_X9_seen kE_X9_seen (by unfold g_okR; decide) rfl (Nat.le_of_ble_eq_true rfl) dL_law_420 (fun x104 S103 => ?_)
                        refine X_icmp_eq (tgt := 756) dL_law_423 (by decide) ?_ ?_
                        · skip
                          exact (hjb10 _)
                        · skip
                          refine X_iconst (v := (0 : Int32)) dL_law_426 (by decide) ?_
                          exact X_z0 rfl dL_law_427
                      · refine X_eq (if_neg h100) ?_
                        by_cases h105 : x8 = (8 : Int32)
                        · refine X_eq (if_pos h105) ?_
                          refine X_tin (tgt := 428) dL_law_33 (by rw [h105]; decide) (by rw [h105]; decide) (by rw [h105]; rfl) (by decide) ?_
                          refine X_aload_n 1 dL_law_428 rfl rfl ?_
                          refine X_aload_nT 0 dL_law_429 rfl rfl ?_
                          refine X_iload_n 3 dL_law_430 rfl rfl ?_
                          refine X_iconst (v := (1 : Int32)) dL_law_431 (by decide) ?_
                          refine X_iadd dL_law_432 ?_
                          refine X_sld dL_law_433 (fun x106 => ?_)
                          refine X_callVL (ci := 8) (As := [.int x106]) (st := []) (c_X8_value E S u1 x106) (by decide) rfl kC_X8_value kL_L_50 kI_X8_value kE_X8_value (by unfold g_okR; decide) rfl (Nat.le_of_ble_eq_true rfl) dL_law_434 (fun x108 S107 => ?_)
                          refine X_aload_n 2 dL_law_437 rfl rfl ?_
                          refine X_aload_nT 0 dL_law_438 rfl rfl ?_
                          refine X_iload_n 3 dL_law_439 rfl rfl ?_
                          refine X_iconst (v := (1 : Int32)) dL_law_440 (by decide) ?_
                          refine X_iadd dL_law_441 ?_
                          refine X_sld dL_law_442 (fun x109 => ?_)
                          refine X_callVL (ci := 9) (As := [.int x109]) (st := [.long x108]) (c_X9_value E S107 u2 x109) (by decide) rfl kC_X9_value kL_L_54 kI_X9_value kE_X9_value (by unfold g_okR; decide) rfl (Nat.le_of_ble_eq_true rfl) dL_law_443 (fun x111 S110 => ?_)
                          refine X_lcmp dL_law_446 ?_
                          refine X_if_eq (tgt := 756) dL_law_447 (by decide) ?_ ?_
                          · skip
                            exact (hjb10 _)
                          · skip
                            refine X_iconst (v := (0 : Int32)) dL_law_450 (by decide) ?_
                            exact X_z0 rfl dL_law_451
                        · refine X_eq (if_neg h105) ?_
                          by_cases h112 : x8 = (9 : Int32)
                          · refine X_eq (if_pos h112) ?_
                            refine X_tin (tgt := 452) dL_law_33 (by rw [h112]; decide) (by rw [h112]; decide) (by rw [h112]; rfl) (by decide) ?_
                            refine X_aload_n 1 dL_law_452 rfl rfl ?_
                            refine X_aload_nT 0 dL_law_453 rfl rfl ?_
                            refine X_iload_n 3 dL_law_454 rfl rfl ?_
                            refine X_iconst (v := (1 : Int32)) dL_law_455 (by decide) ?_
                            refine X_iadd dL_law_456 ?_
                            refine X_sld dL_law_457 (fun x113 => ?_)
                            refine X_aload_nT 0 dL_law_458 rfl rfl ?_
                            refine X_iload_n 3 dL_law_459 rfl rfl ?_
                            refine X_iconst (v := (2 : Int32)) dL_law_460 (by decide) ?_
                            refine X_iadd dL_law_461 ?_
                            refine X_sld dL_law_462 (fun x114 => ?_)
                            refine X_callVI (ci := 8) (As := [.int x113, .int x114]) (st := []) (c_X8_letter E S u1 x113 x114) (by decide) rfl kC_X8_letter kL_L_55 kI_X8_letter kE_X8_letter (by unfold g_okR; decide) rfl (Nat.le_of_ble_eq_true rfl) dL_law_463 (fun x116 S115 => ?_)
                            refine X_aload_n 2 dL_law_466 rfl rfl ?_
                            refine X_aload_nT 0 dL_law_467 rfl rfl ?_
                            refine X_iload_n 3 dL_law_468 rfl rfl ?_
                            refine X_iconst (v := (1 : Int32)) dL_law_469 (by decide) ?_
                            refine X_iadd dL_law_470 ?_
                            refine X_sld dL_law_471 (fun x117 => ?_)
                            refine X_aload_nT 0 dL_law_472 rfl rfl ?_
                            refine X_iload_n 3 dL_law_473 rfl rfl ?_
                            refine X_iconst (v := (2 : Int32)) dL_law_474 (by decide) ?_
                            refine X_iadd dL_law_475 ?_
                            refine X_sld dL_law_476 (fun x118 => ?_)
                            refine X_callVI (ci := 9) (As := [.int x117, .int x118]) (st := [.int x116]) (c_X9_letter E S115 u2 x117 x118) (by decide) rfl kC_X9_letter kL_L_59 kI_X9_letter kE_X9_letter (by unfold g_okR; decide) rfl (Nat.le_of_ble_eq_true rfl) dL_law_477 (fun x120 S119 => ?_)
                            refine X_icmp_eq (tgt := 756) dL_law_480 (by decide) ?_ ?_
                            · skip
                              exact (hjb10 _)
                            · skip
                              refine X_iconst (v := (0 : Int32)) dL_law_483 (by decide) ?_
                              exact X_z0 rfl dL_law_484
                          · refine X_eq (if_neg h112) ?_
                            by_cases h121 : x8 = (10 : Int32)
                            · refine X_eq (if_pos h121) ?_
                              refine X_tin (tgt := 485) dL_law_33 (by rw [h121]; decide) (by rw [h121]; decide) (by rw [h121]; rfl) (by decide) ?_
                              refine X_aload_n 1 dL_law_485 rfl rfl ?_
                              refine X_aload_nT 0 dL_law_486 rfl rfl ?_
                              refine X_iload_n 3 dL_law_487 rfl rfl ?_
                              refine X_iconst (v := (1 : Int32)) dL_law_488 (by decide) ?_
                              refine X_iadd dL_law_489 ?_
                              refine X_sld dL_law_490 (fun x122 => ?_)
                              refine X_aload_nT 0 dL_law_491 rfl rfl ?_
                              refine X_iload_n 3 dL_law_492 rfl rfl ?_
                              refine X_iconst (v := (2 : Int32)) dL_law_493 (by decide) ?_
                              refine X_iadd dL_law_494 ?_
                              refine X_sld dL_law_495 (fun x123 => ?_)
                              refine X_jn (fun (j : gS → Int32 → Int32 → Nat → Option (Int32 × gS)) => ∀ (S124 : gS) (w125 : Int32) (w126 : Int32) (w127 : Nat), gJ gI E M_L_law n0 s0 504 [(0, .retAddr 0), (1, .ref u1), (2, .ref u2), (3, .int u3)] [.int w125, .int w126, .ref w127] S124 (j S124 w125 w126 w127)) ?_ (fun jb128 hjb128 => ?_)
                              · intro S124 w125 w126 w127
                                refine X_callVI (ci := 8) (As := [.int w126, .int w125]) (st := []) (c_X8_next E S124 w127 w126 w125) (by decide) rfl kC_X8_next kL_L_60 kI_X8_next kE_X8_next (by unfold g_okR; decide) rfl (Nat.le_of_ble_eq_true rfl) dL_law_504 (fun x130 S129 => ?_)
                                refine X_aload_n 2 dL_law_507 rfl rfl ?_
                                refine X_aload_nT 0 dL_law_508 rfl rfl ?_
                                refine X_iload_n 3 dL_law_509 rfl rfl ?_
                                refine X_iconst (v := (1 : Int32)) dL_law_510 (by decide) ?_
                                refine X_iadd dL_law_511 ?_
                                refine X_sld dL_law_512 (fun x131 => ?_)
                                refine X_aload_nT 0 dL_law_513 rfl rfl ?_
                                refine X_iload_n 3 dL_law_514 rfl rfl ?_
                                refine X_iconst (v := (2 : Int32)) dL_law_515 (by decide) ?_
                                refine X_iadd dL_law_516 ?_
                                refine X_sld dL_law_517 (fun x132 => ?_)
                                refine X_jn (fun (j : gS → Int32 → Int32 → Nat → Int32 → Option (Int32 × gS)) => ∀ (S133 : gS) (w134 : Int32) (w135 : Int32) (w136 : Nat) (w137 : Int32), gJ gI E M_L_law n0 s0 526 [(0, .retAddr 0), (1, .ref u1), (2, .ref u2), (3, .int u3)] [.int w134, .int w135, .ref w136, .int w137] S133 (j S133 w134 w135 w136 w137)) ?_ (fun jb138 hjb138 => ?_)
                                · intro S133 w134 w135 w136 w137
                                  refine X_callVI (ci := 9) (As := [.int w135, .int w134]) (st := [.int w137]) (c_X9_next E S133 w136 w135 w134) (by decide) rfl kC_X9_next kL_L_63 kI_X9_next kE_X9_next (by unfold g_okR; decide) rfl (Nat.le_of_ble_eq_true rfl) dL_law_526 (fun x140 S139 => ?_)
                                  refine X_icmp_eq (tgt := 756) dL_law_529 (by decide) ?_ ?_
                                  · skip
                                    exact (hjb10 _)
                                  · skip
                                    refine X_iconst (v := (0 : Int32)) dL_law_532 (by decide) ?_
                                    exact X_z0 rfl dL_law_533
                                · skip
                                  refine X_if_eq (tgt := 525) dL_law_518 (by decide) ?_ ?_
                                  · skip
                                    refine X_iconst (v := (0 : Int32)) dL_law_525 (by decide) ?_
                                    exact (hjb138 _ _ _ _ _)
                                  · skip
                                    refine X_iconst (v := (1 : Int32)) dL_law_521 (by decide) ?_
                                    refine X_goto (tgt := 526) dL_law_522 (by decide) ?_
                                    exact (hjb138 _ _ _ _ _)
                              · skip
                                refine X_if_eq (tgt := 503) dL_law_496 (by decide) ?_ ?_
                                · skip
                                  refine X_iconst (v := (0 : Int32)) dL_law_503 (by decide) ?_
                                  exact (hjb128 _ _ _ _)
                                · skip
                                  refine X_iconst (v := (1 : Int32)) dL_law_499 (by decide) ?_
                                  refine X_goto (tgt := 504) dL_law_500 (by decide) ?_
                                  exact (hjb128 _ _ _ _)
                            · refine X_eq (if_neg h121) ?_
                              by_cases h141 : x8 = (11 : Int32)
                              · refine X_eq (if_pos h141) ?_
                                refine X_tin (tgt := 534) dL_law_33 (by rw [h141]; decide) (by rw [h141]; decide) (by rw [h141]; rfl) (by decide) ?_
                                refine X_aload_n 1 dL_law_534 rfl rfl ?_
                                refine X_aload_nT 0 dL_law_535 rfl rfl ?_
                                refine X_iload_n 3 dL_law_536 rfl rfl ?_
                                refine X_iconst (v := (1 : Int32)) dL_law_537 (by decide) ?_
                                refine X_iadd dL_law_538 ?_
                                refine X_sld dL_law_539 (fun x142 => ?_)
                                refine X_aload_nT 0 dL_law_540 rfl rfl ?_
                                refine X_iload_n 3 dL_law_541 rfl rfl ?_
                                refine X_iconst (v := (2 : Int32)) dL_law_542 (by decide) ?_
                                refine X_iadd dL_law_543 ?_
                                refine X_sld dL_law_544 (fun x143 => ?_)
                                refine X_jn (fun (j : gS → Int32 → Int32 → Nat → Option (Int32 × gS)) => ∀ (S144 : gS) (w145 : Int32) (w146 : Int32) (w147 : Nat), gJ gI E M_L_law n0 s0 553 [(0, .retAddr 0), (1, .ref u1), (2, .ref u2), (3, .int u3)] [.int w145, .int w146, .ref w147] S144 (j S144 w145 w146 w147)) ?_ (fun jb148 hjb148 => ?_)
                                · intro S144 w145 w146 w147
                                  refine X_callVI (ci := 8) (As := [.int w146, .int w145]) (st := []) (c_X8_more E S144 w147 w146 w145) (by decide) rfl kC_X8_more kL_L_64 kI_X8_more kE_X8_more (by unfold g_okR; decide) rfl (Nat.le_of_ble_eq_true rfl) dL_law_553 (fun x150 S149 => ?_)
                                  refine X_aload_n 2 dL_law_556 rfl rfl ?_
                                  refine X_aload_nT 0 dL_law_557 rfl rfl ?_
                                  refine X_iload_n 3 dL_law_558 rfl rfl ?_
                                  refine X_iconst (v := (1 : Int32)) dL_law_559 (by decide) ?_
                                  refine X_iadd dL_law_560 ?_
                                  refine X_sld dL_law_561 (fun x151 => ?_)
                                  refine X_aload_nT 0 dL_law_562 rfl rfl ?_
                                  refine X_iload_n 3 dL_law_563 rfl rfl ?_
                                  refine X_iconst (v := (2 : Int32)) dL_law_564 (by decide) ?_
                                  refine X_iadd dL_law_565 ?_
                                  refine X_sld dL_law_566 (fun x152 => ?_)
                                  refine X_jn (fun (j : gS → Int32 → Int32 → Nat → Int32 → Option (Int32 × gS)) => ∀ (S153 : gS) (w154 : Int32) (w155 : Int32) (w156 : Nat) (w157 : Int32), gJ gI E M_L_law n0 s0 575 [(0, .retAddr 0), (1, .ref u1), (2, .ref u2), (3, .int u3)] [.int w154, .int w155, .ref w156, .int w157] S153 (j S153 w154 w155 w156 w157)) ?_ (fun jb158 hjb158 => ?_)
                                  · intro S153 w154 w155 w156 w157
                                    refine X_callVI (ci := 9) (As := [.int w155, .int w154]) (st := [.int w157]) (c_X9_more E S153 w156 w155 w154) (by decide) rfl kC_X9_more kL_L_67 kI_X9_more kE_X9_more (by unfold g_okR; decide) rfl (Nat.le_of_ble_eq_true rfl) dL_law_575 (fun x160 S159 => ?_)
                                    refine X_icmp_eq (tgt := 756) dL_law_578 (by decide) ?_ ?_
                                    · skip
                                      exact (hjb10 _)
                                    · skip
                                      refine X_iconst (v := (0 : Int32)) dL_law_581 (by decide) ?_
                                      exact X_z0 rfl dL_law_582
                                  · skip
                                    refine X_if_eq (tgt := 574) dL_law_567 (by decide) ?_ ?_
                                    · skip
                                      refine X_iconst (v := (0 : Int32)) dL_law_574 (by decide) ?_
                                      exact (hjb158 _ _ _ _ _)
                                    · skip
                                      refine X_iconst (v := (1 : Int32)) dL_law_570 (by decide) ?_
                                      refine X_goto (tgt := 575) dL_law_571 (by decide) ?_
                                      exact (hjb158 _ _ _ _ _)
                                · skip
                                  refine X_if_eq (tgt := 552) dL_law_545 (by decide) ?_ ?_
                                  · skip
                                    refine X_iconst (v := (0 : Int32)) dL_law_552 (by decide) ?_
                                    exact (hjb148 _ _ _ _)
                                  · skip
                                    refine X_iconst (v := (1 : Int32)) dL_law_548 (by decide) ?_
                                    refine X_goto (tgt := 553) dL_law_549 (by decide) ?_
                                    exact (hjb148 _ _ _ _)
                              · refine X_eq (if_neg h141) ?_
                                by_cases h161 : x8 = (12 : Int32)
                                · refine X_eq (if_pos h161) ?_
                                  refine X_tin (tgt := 583) dL_law_33 (by rw [h161]; decide) (by rw [h161]; decide) (by rw [h161]; rfl) (by decide) ?_
                                  refine X_aload_n 1 dL_law_583 rfl rfl ?_
                                  refine X_callVI (ci := 8) (As := []) (st := []) (c_X8_begin E S u1) (by decide) rfl kC_X8_begin kL_L_68 kI_X8_begin kE_X8_begin (by unfold g_okR; decide) rfl (Nat.le_of_ble_eq_true rfl) dL_law_584 (fun x163 S162 => ?_)
                                  refine X_aload_n 2 dL_law_587 rfl rfl ?_
                                  refine X_callVI (ci := 9) (As := []) (st := [.int x163]) (c_X9_begin E S162 u2) (by decide) rfl kC_X9_begin kL_L_71 kI_X9_begin kE_X9_begin (by unfold g_okR; decide) rfl (Nat.le_of_ble_eq_true rfl) dL_law_588 (fun x165 S164 => ?_)
                                  refine X_icmp_eq (tgt := 756) dL_law_591 (by decide) ?_ ?_
                                  · skip
                                    exact (hjb10 _)
                                  · skip
                                    refine X_iconst (v := (0 : Int32)) dL_law_594 (by decide) ?_
                                    exact X_z0 rfl dL_law_595
                                · refine X_eq (if_neg h161) ?_
                                  by_cases h166 : x8 = (13 : Int32)
                                  · refine X_eq (if_pos h166) ?_
                                    refine X_tin (tgt := 596) dL_law_33 (by rw [h166]; decide) (by rw [h166]; decide) (by rw [h166]; rfl) (by decide) ?_
                                    refine X_aload_n 1 dL_law_596 rfl rfl ?_
                                    refine X_callVI (ci := 8) (As := []) (st := []) (c_X8_finish E S u1) (by decide) rfl kC_X8_finish kL_L_72 kI_X8_finish kE_X8_finish (by unfold g_okR; decide) rfl (Nat.le_of_ble_eq_true rfl) dL_law_597 (fun x168 S167 => ?_)
                                    refine X_aload_n 2 dL_law_600 rfl rfl ?_
                                    refine X_callVI (ci := 9) (As := []) (st := [.int x168]) (c_X9_finish E S167 u2) (by decide) rfl kC_X9_finish kL_L_75 kI_X9_finish kE_X9_finish (by unfold g_okR; decide) rfl (Nat.le_of_ble_eq_true rfl) dL_law_601 (fun x170 S169 => ?_)
                                    refine X_icmp_eq (tgt := 756) dL_law_604 (by decide) ?_ ?_
                                    · skip
                                      exact (hjb10 _)
                                    · skip
                                      refine X_iconst (v := (0 : Int32)) dL_law_607 (by decide) ?_
                                      exact X_z0 rfl dL_law_608
                                  · refine X_eq (if_neg h166) ?_
                                    by_cases h171 : x8 = (14 : Int32)
                                    · refine X_eq (if_pos h171) ?_
                                      refine X_tin (tgt := 609) dL_law_33 (by rw [h171]; decide) (by rw [h171]; decide) (by rw [h171]; rfl) (by decide) ?_
                                      refine X_aload_n 1 dL_law_609 rfl rfl ?_
                                      refine X_callVI (ci := 8) (As := []) (st := []) (c_X8_rollback E S u1) (by decide) rfl kC_X8_rollback kL_L_76 kI_X8_rollback kE_X8_rollback (by unfold g_okR; decide) rfl (Nat.le_of_ble_eq_true rfl) dL_law_610 (fun x173 S172 => ?_)
                                      refine X_aload_n 2 dL_law_613 rfl rfl ?_
                                      refine X_callVI (ci := 9) (As := []) (st := [.int x173]) (c_X9_rollback E S172 u2) (by decide) rfl kC_X9_rollback kL_L_79 kI_X9_rollback kE_X9_rollback (by unfold g_okR; decide) rfl (Nat.le_of_ble_eq_true rfl) dL_law_614 (fun x175 S174 => ?_)
                                      refine X_icmp_eq (tgt := 756) dL_law_617 (by decide) ?_ ?_
                                      · skip
                                        exact (hjb10 _)
                                      · skip
                                        refine X_iconst (v := (0 : Int32)) dL_law_620 (by decide) ?_
                                        exact X_z0 rfl dL_law_621
                                    · refine X_eq (if_neg h171) ?_
                                      by_cases h176 : x8 = (15 : Int32)
                                      · refine X_eq (if_pos h176) ?_
                                        refine X_tin (tgt := 622) dL_law_33 (by rw [h176]; decide) (by rw [h176]; decide) (by rw [h176]; rfl) (by decide) ?_
                                        refine X_aload_n 1 dL_law_622 rfl rfl ?_
                                        refine X_callVI (ci := 8) (As := []) (st := []) (c_X8_backfill E S u1) (by decide) rfl kC_X8_backfill kL_L_80 kI_X8_backfill kE_X8_backfill (by unfold g_okR; decide) rfl (Nat.le_of_ble_eq_true rfl) dL_law_623 (fun x178 S177 => ?_)
                                        refine X_aload_n 2 dL_law_626 rfl rfl ?_
                                        refine X_callVI (ci := 9) (As := []) (st := [.int x178]) (c_X9_backfill E S177 u2) (by decide) rfl kC_X9_backfill kL_L_83 kI_X9_backfill kE_X9_backfill (by unfold g_okR; decide) rfl (Nat.le_of_ble_eq_true rfl) dL_law_627 (fun x180 S179 => ?_)
                                        refine X_icmp_eq (tgt := 756) dL_law_630 (by decide) ?_ ?_
                                        · skip
                                          exact (hjb10 _)
                                        · skip
                                          refine X_iconst (v := (0 : Int32)) dL_law_633 (by decide) ?_
                                          exact X_z0 rfl dL_law_634
                                      · refine X_eq (if_neg h176) ?_
                                        by_cases h181 : x8 = (16 : Int32)
                                        · refine X_eq (if_pos h181) ?_
                                          refine X_tin (tgt := 635) dL_law_33 (by rw [h181]; decide) (by rw [h181]; decide) (by rw [h181]; rfl) (by decide) ?_
                                          refine X_aload_n 1 dL_law_635 rfl rfl ?_
                                          refine X_aload_nT 0 dL_law_636 rfl rfl ?_
                                          refine X_iload_n 3 dL_law_637 rfl rfl ?_
                                          refine X_iconst (v := (1 : Int32)) dL_law_638 (by decide) ?_
                                          refine X_iadd dL_law_639 ?_
                                          refine X_sld dL_law_640 (fun x182 => ?_)
                                          refine X_callVI (ci := 8) (As := [.int x182]) (st := []) (c_X8_crash E S u1 x182) (by decide) rfl kC_X8_crash kL_L_84 kI_X8_crash kE_X8_crash (by unfold g_okR; decide) rfl (Nat.le_of_ble_eq_true rfl) dL_law_641 (fun x184 S183 => ?_)
                                          refine X_aload_n 2 dL_law_644 rfl rfl ?_
                                          refine X_aload_nT 0 dL_law_645 rfl rfl ?_
                                          refine X_iload_n 3 dL_law_646 rfl rfl ?_
                                          refine X_iconst (v := (1 : Int32)) dL_law_647 (by decide) ?_
                                          refine X_iadd dL_law_648 ?_
                                          refine X_sld dL_law_649 (fun x185 => ?_)
                                          refine X_callVI (ci := 9) (As := [.int x185]) (st := [.int x184]) (c_X9_crash E S183 u2 x185) (by decide) rfl kC_X9_crash kL_L_87 kI_X9_crash kE_X9_crash (by unfold g_okR; decide) rfl (Nat.le_of_ble_eq_true rfl) dL_law_650 (fun x187 S186 => ?_)
                                          refine X_icmp_eq (tgt := 756) dL_law_653 (by decide) ?_ ?_
                                          · skip
                                            exact (hjb10 _)
                                          · skip
                                            refine X_iconst (v := (0 : Int32)) dL_law_656 (by decide) ?_
                                            exact X_z0 rfl dL_law_657
                                        · refine X_eq (if_neg h181) ?_
                                          by_cases h188 : x8 = (17 : Int32)
                                          · refine X_eq (if_pos h188) ?_
                                            refine X_tin (tgt := 658) dL_law_33 (by rw [h188]; decide) (by rw [h188]; decide) (by rw [h188]; rfl) (by decide) ?_
                                            refine X_aload_n 1 dL_law_658 rfl rfl ?_
                                            refine X_callVI (ci := 8) (As := []) (st := []) (c_X8_restart E S u1) (by decide) rfl kC_X8_restart kL_L_88 kI_X8_restart kE_X8_restart (by unfold g_okR; decide) rfl (Nat.le_of_ble_eq_true rfl) dL_law_659 (fun x190 S189 => ?_)
                                            refine X_aload_n 2 dL_law_662 rfl rfl ?_
                                            refine X_callVI (ci := 9) (As := []) (st := [.int x190]) (c_X9_restart E S189 u2) (by decide) rfl kC_X9_restart kL_L_91 kI_X9_restart kE_X9_restart (by unfold g_okR; decide) rfl (Nat.le_of_ble_eq_true rfl) dL_law_663 (fun x192 S191 => ?_)
                                            refine X_icmp_eq (tgt := 756) dL_law_666 (by decide) ?_ ?_
                                            · skip
                                              exact (hjb10 _)
                                            · skip
                                              refine X_iconst (v := (0 : Int32)) dL_law_669 (by decide) ?_
                                              exact X_z0 rfl dL_law_670
                                          · refine X_eq (if_neg h188) ?_
                                            by_cases h193 : x8 = (18 : Int32)
                                            · refine X_eq (if_pos h193) ?_
                                              refine X_tin (tgt := 671) dL_law_33 (by rw [h193]; decide) (by rw [h193]; decide) (by rw [h193]; rfl) (by decide) ?_
                                              refine X_aload_n 1 dL_law_671 rfl rfl ?_
                                              refine X_callVI (ci := 8) (As := []) (st := []) (c_X8_isDown E S u1) (by decide) rfl kC_X8_isDown kL_L_92 kI_X8_isDown kE_X8_isDown (by unfold g_okR; decide) rfl (Nat.le_of_ble_eq_true rfl) dL_law_672 (fun x195 S194 => ?_)
                                              refine X_aload_n 2 dL_law_675 rfl rfl ?_
                                              refine X_callVI (ci := 9) (As := []) (st := [.int x195]) (c_X9_isDown E S194 u2) (by decide) rfl kC_X9_isDown kL_L_96 kI_X9_isDown kE_X9_isDown (by unfold g_okR; decide) rfl (Nat.le_of_ble_eq_true rfl) dL_law_676 (fun x197 S196 => ?_)
                                              refine X_icmp_eq (tgt := 756) dL_law_679 (by decide) ?_ ?_
                                              · skip
                                                exact (hjb10 _)
                                              · skip
                                                refine X_iconst (v := (0 : Int32)) dL_law_682 (by decide) ?_
                                                exact X_z0 rfl dL_law_683
                                            · refine X_eq (if_neg h193) ?_
                                              by_cases h198 : x8 = (19 : Int32)
                                              · refine X_eq (if_pos h198) ?_
                                                refine X_tin (tgt := 684) dL_law_33 (by rw [h198]; decide) (by rw [h198]; decide) (by rw [h198]; rfl) (by decide) ?_
                                                refine X_aload_n 1 dL_law_684 rfl rfl ?_
                                                refine X_aload_nT 0 dL_law_685 rfl rfl ?_
                                                refine X_iload_n 3 dL_law_686 rfl rfl ?_
                                                refine X_iconst (v := (1 : Int32)) dL_law_687 (by decide) ?_
                                                refine X_iadd dL_law_688 ?_
                                                refine X_sld dL_law_689 (fun x199 => ?_)
                                                refine X_callVI (ci := 8) (As := [.int x199]) (st := []) (c_X8_count E S u1 x199) (by decide) rfl kC_X8_count kL_L_97 kI_X8_count kE_X8_count (by unfold g_okR; decide) rfl (Nat.le_of_ble_eq_true rfl) dL_law_690 (fun x201 S200 => ?_)
                                                refine X_aload_n 2 dL_law_693 rfl rfl ?_
                                                refine X_aload_nT 0 dL_law_694 rfl rfl ?_
                                                refine X_iload_n 3 dL_law_695 rfl rfl ?_
                                                refine X_iconst (v := (1 : Int32)) dL_law_696 (by decide) ?_
                                                refine X_iadd dL_law_697 ?_
                                                refine X_sld dL_law_698 (fun x202 => ?_)
                                                refine X_callVI (ci := 9) (As := [.int x202]) (st := [.int x201]) (c_X9_count E S200 u2 x202) (by decide) rfl kC_X9_count kL_L_100 kI_X9_count kE_X9_count (by unfold g_okR; decide) rfl (Nat.le_of_ble_eq_true rfl) dL_law_699 (fun x204 S203 => ?_)
                                                refine X_icmp_eq (tgt := 756) dL_law_702 (by decide) ?_ ?_
                                                · skip
                                                  exact (hjb10 _)
                                                · skip
                                                  refine X_iconst (v := (0 : Int32)) dL_law_705 (by decide) ?_
                                                  exact X_z0 rfl dL_law_706
                                              · refine X_eq (if_neg h198) ?_
                                                by_cases h205 : x8 = (20 : Int32)
                                                · refine X_eq (if_pos h205) ?_
                                                  refine X_tin (tgt := 707) dL_law_33 (by rw [h205]; decide) (by rw [h205]; decide) (by rw [h205]; rfl) (by decide) ?_
                                                  refine X_aload_n 1 dL_law_707 rfl rfl ?_
                                                  refine X_aload_nT 0 dL_law_708 rfl rfl ?_
                                                  refine X_iload_n 3 dL_law_709 rfl rfl ?_
                                                  refine X_iconst (v := (1 : Int32)) dL_law_710 (by decide) ?_
                                                  refine X_iadd dL_law_711 ?_
                                                  refine X_sld dL_law_712 (fun x206 => ?_)
                                                  refine X_aload_nT 0 dL_law_713 rfl rfl ?_
                                                  refine X_iload_n 3 dL_law_714 rfl rfl ?_
                                                  refine X_iconst (v := (2 : Int32)) dL_law_715 (by decide) ?_
                                                  refine X_iadd dL_law_716 ?_
                                                  refine X_sld dL_law_717 (fun x207 => ?_)
                                                  refine X_jn (fun (j : gS → Int32 → Int32 → Nat → Option (Int32 × gS)) => ∀ (S208 : gS) (w209 : Int32) (w210 : Int32) (w211 : Nat), gJ gI E M_L_law n0 s0 726 [(0, .retAddr 0), (1, .ref u1), (2, .ref u2), (3, .int u3)] [.int w209, .int w210, .ref w211] S208 (j S208 w209 w210 w211)) ?_ (fun jb212 hjb212 => ?_)
                                                  · intro S208 w209 w210 w211
                                                    refine X_callVI (ci := 8) (As := [.int w210, .int w209]) (st := []) (c_X8_column E S208 w211 w210 w209) (by decide) rfl kC_X8_column kL_L_101 kI_X8_column kE_X8_column (by unfold g_okR; decide) rfl (Nat.le_of_ble_eq_true rfl) dL_law_726 (fun x214 S213 => ?_)
                                                    refine X_aload_n 2 dL_law_729 rfl rfl ?_
                                                    refine X_aload_nT 0 dL_law_730 rfl rfl ?_
                                                    refine X_iload_n 3 dL_law_731 rfl rfl ?_
                                                    refine X_iconst (v := (1 : Int32)) dL_law_732 (by decide) ?_
                                                    refine X_iadd dL_law_733 ?_
                                                    refine X_sld dL_law_734 (fun x215 => ?_)
                                                    refine X_aload_nT 0 dL_law_735 rfl rfl ?_
                                                    refine X_iload_n 3 dL_law_736 rfl rfl ?_
                                                    refine X_iconst (v := (2 : Int32)) dL_law_737 (by decide) ?_
                                                    refine X_iadd dL_law_738 ?_
                                                    refine X_sld dL_law_739 (fun x216 => ?_)
                                                    refine X_jn (fun (j : gS → Int32 → Int32 → Nat → Int32 → Option (Int32 × gS)) => ∀ (S217 : gS) (w218 : Int32) (w219 : Int32) (w220 : Nat) (w221 : Int32), gJ gI E M_L_law n0 s0 748 [(0, .retAddr 0), (1, .ref u1), (2, .ref u2), (3, .int u3)] [.int w218, .int w219, .ref w220, .int w221] S217 (j S217 w218 w219 w220 w221)) ?_ (fun jb222 hjb222 => ?_)
                                                    · intro S217 w218 w219 w220 w221
                                                      refine X_callVI (ci := 9) (As := [.int w219, .int w218]) (st := [.int w221]) (c_X9_column E S217 w220 w219 w218) (by decide) rfl kC_X9_column kL_L_104 kI_X9_column kE_X9_column (by unfold g_okR; decide) rfl (Nat.le_of_ble_eq_true rfl) dL_law_748 (fun x224 S223 => ?_)
                                                      refine X_icmp_eq (tgt := 756) dL_law_751 (by decide) ?_ ?_
                                                      · skip
                                                        exact (hjb10 _)
                                                      · skip
                                                        refine X_iconst (v := (0 : Int32)) dL_law_754 (by decide) ?_
                                                        exact X_z0 rfl dL_law_755
                                                    · skip
                                                      refine X_if_eq (tgt := 747) dL_law_740 (by decide) ?_ ?_
                                                      · skip
                                                        refine X_iconst (v := (0 : Int32)) dL_law_747 (by decide) ?_
                                                        exact (hjb222 _ _ _ _ _)
                                                      · skip
                                                        refine X_iconst (v := (1 : Int32)) dL_law_743 (by decide) ?_
                                                        refine X_goto (tgt := 748) dL_law_744 (by decide) ?_
                                                        exact (hjb222 _ _ _ _ _)
                                                  · skip
                                                    refine X_if_eq (tgt := 725) dL_law_718 (by decide) ?_ ?_
                                                    · skip
                                                      refine X_iconst (v := (0 : Int32)) dL_law_725 (by decide) ?_
                                                      exact (hjb212 _ _ _ _)
                                                    · skip
                                                      refine X_iconst (v := (1 : Int32)) dL_law_721 (by decide) ?_
                                                      refine X_goto (tgt := 726) dL_law_722 (by decide) ?_
                                                      exact (hjb212 _ _ _ _)
                                                · refine X_eq (if_neg h205) ?_
                                                  have eh11 : (x8).toInt ≠ 0 := fun q => h11 ((g_i32 q).trans (by decide))
                                                  have eh26 : (x8).toInt ≠ 1 := fun q => h26 ((g_i32 q).trans (by decide))
                                                  have eh31 : (x8).toInt ≠ 2 := fun q => h31 ((g_i32 q).trans (by decide))
                                                  have eh42 : (x8).toInt ≠ 3 := fun q => h42 ((g_i32 q).trans (by decide))
                                                  have eh53 : (x8).toInt ≠ 4 := fun q => h53 ((g_i32 q).trans (by decide))
                                                  have eh73 : (x8).toInt ≠ 5 := fun q => h73 ((g_i32 q).trans (by decide))
                                                  have eh80 : (x8).toInt ≠ 6 := fun q => h80 ((g_i32 q).trans (by decide))
                                                  have eh100 : (x8).toInt ≠ 7 := fun q => h100 ((g_i32 q).trans (by decide))
                                                  have eh105 : (x8).toInt ≠ 8 := fun q => h105 ((g_i32 q).trans (by decide))
                                                  have eh112 : (x8).toInt ≠ 9 := fun q => h112 ((g_i32 q).trans (by decide))
                                                  have eh121 : (x8).toInt ≠ 10 := fun q => h121 ((g_i32 q).trans (by decide))
                                                  have eh141 : (x8).toInt ≠ 11 := fun q => h141 ((g_i32 q).trans (by decide))
                                                  have eh161 : (x8).toInt ≠ 12 := fun q => h161 ((g_i32 q).trans (by decide))
                                                  have eh166 : (x8).toInt ≠ 13 := fun q => h166 ((g_i32 q).trans (by decide))
                                                  have eh171 : (x8).toInt ≠ 14 := fun q => h171 ((g_i32 q).trans (by decide))
                                                  have eh176 : (x8).toInt ≠ 15 := fun q => h176 ((g_i32 q).trans (by decide))
                                                  have eh181 : (x8).toInt ≠ 16 := fun q => h181 ((g_i32 q).trans (by decide))
                                                  have eh188 : (x8).toInt ≠ 17 := fun q => h188 ((g_i32 q).trans (by decide))
                                                  have eh193 : (x8).toInt ≠ 18 := fun q => h193 ((g_i32 q).trans (by decide))
                                                  have eh198 : (x8).toInt ≠ 19 := fun q => h198 ((g_i32 q).trans (by decide))
                                                  have eh205 : (x8).toInt ≠ 20 := fun q => h205 ((g_i32 q).trans (by decide))
                                                  refine X_tout (tgt := 756) dL_law_33 (by omega) (by decide) ?_
                                                  exact (hjb10 _)
set_option maxRecDepth 100000 in
set_option maxHeartbeats 8000000 in
theorem c_L_law (E : gE) {n0 s0 : Nat} (S : gS) : gJ gI E M_L_law n0 s0 0 [(0, .retAddr 0)] [] S (f_L_law E S) := by
  unfold f_L_law
  refine X_new kN_L_7 dL_law_0 (fun a1 S2 => ?_)
  refine X_dup dL_law_3 rfl ?_
  refine X_callIV (As := []) (st := [.ref a1]) (c_X8_init E S2 a1) kC_X8_init rfl rfl kL_L_9 kI_X8_init (by unfold g_okR; decide) rfl (Nat.le_of_ble_eq_true rfl) dL_law_4 (fun S3 => ?_)
  refine X_astore_n (lv2 := [(1, .ref a1), (0, .retAddr 0)]) dL_law_7 rfl (by decide) rfl ?_
  refine X_new kN_L_10 dL_law_8 (fun a4 S5 => ?_)
  refine X_dup dL_law_11 rfl ?_
  refine X_callIV (As := []) (st := [.ref a4]) (c_X9_init E S5 a4) kC_X9_init rfl rfl kL_L_12 kI_X9_init (by unfold g_okR; decide) rfl (Nat.le_of_ble_eq_true rfl) dL_law_12 (fun S6 => ?_)
  refine X_astore_n (lv2 := [(2, .ref a4), (1, .ref a1), (0, .retAddr 0)]) dL_law_15 rfl (by decide) rfl ?_
  refine X_iconst (v := (0 : Int32)) dL_law_16 (by decide) ?_
  refine X_istore_n (lv2 := [(3, .int (0 : Int32)), (2, .ref a4), (1, .ref a1), (0, .retAddr 0)]) dL_law_17 rfl (by decide) rfl ?_
  exact X_sub [3, 2, 1, 0] rfl (j_L_law_18 E a1 a4 600 _ _)
