section
-- ===== PART A: goes FIRST, ahead of the names: the tables' words, and 'selects' of the private methods out of them =====
/-- a private method of a class that the tables say can be made, by its rows of tables_1 -/
def lw_okq (q : MethodName × Nat) : Prop := (q.1.cls ≠ "java/lang/invoke/MethodHandle" ∧ q.1.cls ≠ "java/lang/invoke/VarHandle") ∧ Cond.instantiable q.1.cls q.2 ∈ tables_1 ∧ Cond.privateMethod q.1 ∈ tables_1 ∧ Cond.instanceMethod q.1 ∈ tables_1
theorem lw_p0 : lw_okq (⟨"ShiftHouse", "putDraft", "(IZ)V"⟩, 12) := ⟨⟨by decide +kernel, by decide +kernel⟩, List.mem_of_getElem? (i := 14) (by decide +kernel), List.mem_of_getElem? (i := 316) (by decide +kernel), List.mem_of_getElem? (i := 317) (by decide +kernel)⟩
theorem lw_p1 : lw_okq (⟨"ShiftHouse$Migration", "lastPlace", "(I)I"⟩, 3) := ⟨⟨by decide +kernel, by decide +kernel⟩, List.mem_of_getElem? (i := 143) (by decide +kernel), List.mem_of_getElem? (i := 353) (by decide +kernel), List.mem_of_getElem? (i := 354) (by decide +kernel)⟩
theorem lw_p2 : lw_okq (⟨"ShiftHouse$Migration", "makeBack", "(LShiftHouse$Form;I)V"⟩, 3) := ⟨⟨by decide +kernel, by decide +kernel⟩, List.mem_of_getElem? (i := 143) (by decide +kernel), List.mem_of_getElem? (i := 362) (by decide +kernel), List.mem_of_getElem? (i := 363) (by decide +kernel)⟩
theorem lw_p3 : lw_okq (⟨"ShiftHouse$Form", "numberTold", "(I)J"⟩, 1) := ⟨⟨by decide +kernel, by decide +kernel⟩, List.mem_of_getElem? (i := 62) (by decide +kernel), List.mem_of_getElem? (i := 370) (by decide +kernel), List.mem_of_getElem? (i := 371) (by decide +kernel)⟩
theorem lw_p4 : lw_okq (⟨"ShiftHouse$Form", "setDigits", "(IJ)V"⟩, 1) := ⟨⟨by decide +kernel, by decide +kernel⟩, List.mem_of_getElem? (i := 62) (by decide +kernel), List.mem_of_getElem? (i := 390) (by decide +kernel), List.mem_of_getElem? (i := 391) (by decide +kernel)⟩
theorem lw_p5 : lw_okq (⟨"ShiftHouse", "isSeenColumn", "(I)Z"⟩, 12) := ⟨⟨by decide +kernel, by decide +kernel⟩, List.mem_of_getElem? (i := 14) (by decide +kernel), List.mem_of_getElem? (i := 460) (by decide +kernel), List.mem_of_getElem? (i := 461) (by decide +kernel)⟩
theorem lw_p6 : lw_okq (⟨"ShiftHouse$Schema", "placeOf", "(I)I"⟩, 3) := ⟨⟨by decide +kernel, by decide +kernel⟩, List.mem_of_getElem? (i := 121) (by decide +kernel), List.mem_of_getElem? (i := 496) (by decide +kernel), List.mem_of_getElem? (i := 497) (by decide +kernel)⟩
theorem lw_p7 : lw_okq (⟨"ShiftHouse$Schema", "addColumn", "(LShiftHouse$Step;)Z"⟩, 3) := ⟨⟨by decide +kernel, by decide +kernel⟩, List.mem_of_getElem? (i := 121) (by decide +kernel), List.mem_of_getElem? (i := 500) (by decide +kernel), List.mem_of_getElem? (i := 501) (by decide +kernel)⟩
theorem lw_p8 : lw_okq (⟨"ShiftHouse$Schema", "dropColumn", "(I)V"⟩, 3) := ⟨⟨by decide +kernel, by decide +kernel⟩, List.mem_of_getElem? (i := 121) (by decide +kernel), List.mem_of_getElem? (i := 504) (by decide +kernel), List.mem_of_getElem? (i := 505) (by decide +kernel)⟩
theorem lw_p9 : lw_okq (⟨"ShiftHouse$Schema", "renameColumn", "(II)Z"⟩, 3) := ⟨⟨by decide +kernel, by decide +kernel⟩, List.mem_of_getElem? (i := 121) (by decide +kernel), List.mem_of_getElem? (i := 508) (by decide +kernel), List.mem_of_getElem? (i := 509) (by decide +kernel)⟩
theorem lw_p10 : lw_okq (⟨"ShiftHouse$Schema", "retypeColumn", "(II)Z"⟩, 3) := ⟨⟨by decide +kernel, by decide +kernel⟩, List.mem_of_getElem? (i := 121) (by decide +kernel), List.mem_of_getElem? (i := 512) (by decide +kernel), List.mem_of_getElem? (i := 513) (by decide +kernel)⟩
theorem lw_p11 : lw_okq (⟨"ShiftHouse", "runPlan", "()V"⟩, 12) := ⟨⟨by decide +kernel, by decide +kernel⟩, List.mem_of_getElem? (i := 14) (by decide +kernel), List.mem_of_getElem? (i := 518) (by decide +kernel), List.mem_of_getElem? (i := 519) (by decide +kernel)⟩
theorem lw_p12 : lw_okq (⟨"ShiftHouse", "endRunning", "()I"⟩, 12) := ⟨⟨by decide +kernel, by decide +kernel⟩, List.mem_of_getElem? (i := 14) (by decide +kernel), List.mem_of_getElem? (i := 530) (by decide +kernel), List.mem_of_getElem? (i := 531) (by decide +kernel)⟩
theorem lw_p13 : lw_okq (⟨"ShiftHouse", "countWhenUp", "(I)I"⟩, 12) := ⟨⟨by decide +kernel, by decide +kernel⟩, List.mem_of_getElem? (i := 14) (by decide +kernel), List.mem_of_getElem? (i := 566) (by decide +kernel), List.mem_of_getElem? (i := 567) (by decide +kernel)⟩
theorem lw_p14 : lw_okq (⟨"ShiftHouseModel", "tell", "(IIII)V"⟩, 38) := ⟨⟨by decide +kernel, by decide +kernel⟩, List.mem_of_getElem? (i := 578) (by decide +kernel), List.mem_of_getElem? (i := 719) (by decide +kernel), List.mem_of_getElem? (i := 720) (by decide +kernel)⟩
theorem lw_p15 : lw_okq (⟨"ShiftHouseModel", "clear", "(I)V"⟩, 38) := ⟨⟨by decide +kernel, by decide +kernel⟩, List.mem_of_getElem? (i := 578) (by decide +kernel), List.mem_of_getElem? (i := 723) (by decide +kernel), List.mem_of_getElem? (i := 724) (by decide +kernel)⟩
def lw_privs_1 : List (MethodName × Nat) := [(⟨"ShiftHouse", "putDraft", "(IZ)V"⟩, 12), (⟨"ShiftHouse$Migration", "lastPlace", "(I)I"⟩, 3), (⟨"ShiftHouse$Migration", "makeBack", "(LShiftHouse$Form;I)V"⟩, 3), (⟨"ShiftHouse$Form", "numberTold", "(I)J"⟩, 1), (⟨"ShiftHouse$Form", "setDigits", "(IJ)V"⟩, 1), (⟨"ShiftHouse", "isSeenColumn", "(I)Z"⟩, 12), (⟨"ShiftHouse$Schema", "placeOf", "(I)I"⟩, 3), (⟨"ShiftHouse$Schema", "addColumn", "(LShiftHouse$Step;)Z"⟩, 3), (⟨"ShiftHouse$Schema", "dropColumn", "(I)V"⟩, 3), (⟨"ShiftHouse$Schema", "renameColumn", "(II)Z"⟩, 3), (⟨"ShiftHouse$Schema", "retypeColumn", "(II)Z"⟩, 3), (⟨"ShiftHouse", "runPlan", "()V"⟩, 12), (⟨"ShiftHouse", "endRunning", "()I"⟩, 12), (⟨"ShiftHouse", "countWhenUp", "(I)I"⟩, 12), (⟨"ShiftHouseModel", "tell", "(IIII)V"⟩, 38), (⟨"ShiftHouseModel", "clear", "(I)V"⟩, 38)]
theorem lw_r1 : ∀ q ∈ lw_privs_1, lw_okq q := List.forall_mem_cons.mpr ⟨lw_p0, List.forall_mem_cons.mpr ⟨lw_p1, List.forall_mem_cons.mpr ⟨lw_p2, List.forall_mem_cons.mpr ⟨lw_p3, List.forall_mem_cons.mpr ⟨lw_p4, List.forall_mem_cons.mpr ⟨lw_p5, List.forall_mem_cons.mpr ⟨lw_p6, List.forall_mem_cons.mpr ⟨lw_p7, List.forall_mem_cons.mpr ⟨lw_p8, List.forall_mem_cons.mpr ⟨lw_p9, List.forall_mem_cons.mpr ⟨lw_p10, List.forall_mem_cons.mpr ⟨lw_p11, List.forall_mem_cons.mpr ⟨lw_p12, List.forall_mem_cons.mpr ⟨lw_p13, List.forall_mem_cons.mpr ⟨lw_p14, List.forall_mem_cons.mpr ⟨lw_p15, fun _ h => absurd h List.not_mem_nil⟩⟩⟩⟩⟩⟩⟩⟩⟩⟩⟩⟩⟩⟩⟩⟩
theorem lw_p16 : lw_okq (⟨"ShiftHouseModel", "addChar", "(II)V"⟩, 38) := ⟨⟨by decide +kernel, by decide +kernel⟩, List.mem_of_getElem? (i := 578) (by decide +kernel), List.mem_of_getElem? (i := 728) (by decide +kernel), List.mem_of_getElem? (i := 729) (by decide +kernel)⟩
theorem lw_p17 : lw_okq (⟨"ShiftHouseModel", "find", "(I)I"⟩, 38) := ⟨⟨by decide +kernel, by decide +kernel⟩, List.mem_of_getElem? (i := 578) (by decide +kernel), List.mem_of_getElem? (i := 736) (by decide +kernel), List.mem_of_getElem? (i := 737) (by decide +kernel)⟩
theorem lw_p18 : lw_okq (⟨"ShiftHouseModel", "acts", "(I)I"⟩, 38) := ⟨⟨by decide +kernel, by decide +kernel⟩, List.mem_of_getElem? (i := 578) (by decide +kernel), List.mem_of_getElem? (i := 740) (by decide +kernel), List.mem_of_getElem? (i := 741) (by decide +kernel)⟩
theorem lw_p19 : lw_okq (⟨"ShiftHouseModel", "act", "()Z"⟩, 38) := ⟨⟨by decide +kernel, by decide +kernel⟩, List.mem_of_getElem? (i := 578) (by decide +kernel), List.mem_of_getElem? (i := 744) (by decide +kernel), List.mem_of_getElem? (i := 745) (by decide +kernel)⟩
theorem lw_p20 : lw_okq (⟨"ShiftHouseModel", "insert", "(I)I"⟩, 38) := ⟨⟨by decide +kernel, by decide +kernel⟩, List.mem_of_getElem? (i := 578) (by decide +kernel), List.mem_of_getElem? (i := 748) (by decide +kernel), List.mem_of_getElem? (i := 749) (by decide +kernel)⟩
theorem lw_p21 : lw_okq (⟨"ShiftHouseModel", "moveRow", "(II)V"⟩, 38) := ⟨⟨by decide +kernel, by decide +kernel⟩, List.mem_of_getElem? (i := 578) (by decide +kernel), List.mem_of_getElem? (i := 752) (by decide +kernel), List.mem_of_getElem? (i := 753) (by decide +kernel)⟩
theorem lw_p22 : lw_okq (⟨"ShiftHouseModel", "form", "(II)I"⟩, 38) := ⟨⟨by decide +kernel, by decide +kernel⟩, List.mem_of_getElem? (i := 578) (by decide +kernel), List.mem_of_getElem? (i := 756) (by decide +kernel), List.mem_of_getElem? (i := 757) (by decide +kernel)⟩
theorem lw_p23 : lw_okq (⟨"ShiftHouseModel", "drafted", "(II)V"⟩, 38) := ⟨⟨by decide +kernel, by decide +kernel⟩, List.mem_of_getElem? (i := 578) (by decide +kernel), List.mem_of_getElem? (i := 760) (by decide +kernel), List.mem_of_getElem? (i := 761) (by decide +kernel)⟩
theorem lw_p24 : lw_okq (⟨"ShiftHouseModel", "down", "(III)V"⟩, 38) := ⟨⟨by decide +kernel, by decide +kernel⟩, List.mem_of_getElem? (i := 578) (by decide +kernel), List.mem_of_getElem? (i := 764) (by decide +kernel), List.mem_of_getElem? (i := 765) (by decide +kernel)⟩
theorem lw_p25 : lw_okq (⟨"ShiftHouseModel", "follow", "()V"⟩, 38) := ⟨⟨by decide +kernel, by decide +kernel⟩, List.mem_of_getElem? (i := 578) (by decide +kernel), List.mem_of_getElem? (i := 768) (by decide +kernel), List.mem_of_getElem? (i := 769) (by decide +kernel)⟩
theorem lw_p26 : lw_okq (⟨"ShiftHouseModel", "copySchema", "(II)V"⟩, 38) := ⟨⟨by decide +kernel, by decide +kernel⟩, List.mem_of_getElem? (i := 578) (by decide +kernel), List.mem_of_getElem? (i := 772) (by decide +kernel), List.mem_of_getElem? (i := 773) (by decide +kernel)⟩
theorem lw_p27 : lw_okq (⟨"ShiftHouseModel", "place", "(I)I"⟩, 38) := ⟨⟨by decide +kernel, by decide +kernel⟩, List.mem_of_getElem? (i := 578) (by decide +kernel), List.mem_of_getElem? (i := 776) (by decide +kernel), List.mem_of_getElem? (i := 777) (by decide +kernel)⟩
theorem lw_p28 : lw_okq (⟨"ShiftHouseModel", "step", "(I)V"⟩, 38) := ⟨⟨by decide +kernel, by decide +kernel⟩, List.mem_of_getElem? (i := 578) (by decide +kernel), List.mem_of_getElem? (i := 780) (by decide +kernel), List.mem_of_getElem? (i := 781) (by decide +kernel)⟩
theorem lw_p29 : lw_okq (⟨"ShiftHouseModel", "copy", "(II)V"⟩, 38) := ⟨⟨by decide +kernel, by decide +kernel⟩, List.mem_of_getElem? (i := 578) (by decide +kernel), List.mem_of_getElem? (i := 784) (by decide +kernel), List.mem_of_getElem? (i := 785) (by decide +kernel)⟩
theorem lw_p30 : lw_okq (⟨"ShiftHouseModel", "become", "(III)V"⟩, 38) := ⟨⟨by decide +kernel, by decide +kernel⟩, List.mem_of_getElem? (i := 578) (by decide +kernel), List.mem_of_getElem? (i := 788) (by decide +kernel), List.mem_of_getElem? (i := 789) (by decide +kernel)⟩
theorem lw_p31 : lw_okq (⟨"ShiftHouseModel", "told", "(I)J"⟩, 38) := ⟨⟨by decide +kernel, by decide +kernel⟩, List.mem_of_getElem? (i := 578) (by decide +kernel), List.mem_of_getElem? (i := 792) (by decide +kernel), List.mem_of_getElem? (i := 793) (by decide +kernel)⟩
def lw_privs_2 : List (MethodName × Nat) := [(⟨"ShiftHouseModel", "addChar", "(II)V"⟩, 38), (⟨"ShiftHouseModel", "find", "(I)I"⟩, 38), (⟨"ShiftHouseModel", "acts", "(I)I"⟩, 38), (⟨"ShiftHouseModel", "act", "()Z"⟩, 38), (⟨"ShiftHouseModel", "insert", "(I)I"⟩, 38), (⟨"ShiftHouseModel", "moveRow", "(II)V"⟩, 38), (⟨"ShiftHouseModel", "form", "(II)I"⟩, 38), (⟨"ShiftHouseModel", "drafted", "(II)V"⟩, 38), (⟨"ShiftHouseModel", "down", "(III)V"⟩, 38), (⟨"ShiftHouseModel", "follow", "()V"⟩, 38), (⟨"ShiftHouseModel", "copySchema", "(II)V"⟩, 38), (⟨"ShiftHouseModel", "place", "(I)I"⟩, 38), (⟨"ShiftHouseModel", "step", "(I)V"⟩, 38), (⟨"ShiftHouseModel", "copy", "(II)V"⟩, 38), (⟨"ShiftHouseModel", "become", "(III)V"⟩, 38), (⟨"ShiftHouseModel", "told", "(I)J"⟩, 38)]
theorem lw_r2 : ∀ q ∈ lw_privs_2, lw_okq q := List.forall_mem_cons.mpr ⟨lw_p16, List.forall_mem_cons.mpr ⟨lw_p17, List.forall_mem_cons.mpr ⟨lw_p18, List.forall_mem_cons.mpr ⟨lw_p19, List.forall_mem_cons.mpr ⟨lw_p20, List.forall_mem_cons.mpr ⟨lw_p21, List.forall_mem_cons.mpr ⟨lw_p22, List.forall_mem_cons.mpr ⟨lw_p23, List.forall_mem_cons.mpr ⟨lw_p24, List.forall_mem_cons.mpr ⟨lw_p25, List.forall_mem_cons.mpr ⟨lw_p26, List.forall_mem_cons.mpr ⟨lw_p27, List.forall_mem_cons.mpr ⟨lw_p28, List.forall_mem_cons.mpr ⟨lw_p29, List.forall_mem_cons.mpr ⟨lw_p30, List.forall_mem_cons.mpr ⟨lw_p31, fun _ h => absurd h List.not_mem_nil⟩⟩⟩⟩⟩⟩⟩⟩⟩⟩⟩⟩⟩⟩⟩⟩
theorem lw_p32 : lw_okq (⟨"ShiftHouseModel", "putDigits", "(IJ)V"⟩, 38) := ⟨⟨by decide +kernel, by decide +kernel⟩, List.mem_of_getElem? (i := 578) (by decide +kernel), List.mem_of_getElem? (i := 804) (by decide +kernel), List.mem_of_getElem? (i := 805) (by decide +kernel)⟩
theorem lw_p33 : lw_okq (⟨"ShiftHouseModel", "up", "(II)V"⟩, 38) := ⟨⟨by decide +kernel, by decide +kernel⟩, List.mem_of_getElem? (i := 578) (by decide +kernel), List.mem_of_getElem? (i := 808) (by decide +kernel), List.mem_of_getElem? (i := 809) (by decide +kernel)⟩
theorem lw_p34 : lw_okq (⟨"ShiftHouseModel", "copyForm", "(II)V"⟩, 38) := ⟨⟨by decide +kernel, by decide +kernel⟩, List.mem_of_getElem? (i := 578) (by decide +kernel), List.mem_of_getElem? (i := 812) (by decide +kernel), List.mem_of_getElem? (i := 813) (by decide +kernel)⟩
theorem lw_p35 : lw_okq (⟨"ShiftHouseModel", "drop", "(I)V"⟩, 38) := ⟨⟨by decide +kernel, by decide +kernel⟩, List.mem_of_getElem? (i := 578) (by decide +kernel), List.mem_of_getElem? (i := 820) (by decide +kernel), List.mem_of_getElem? (i := 821) (by decide +kernel)⟩
theorem lw_p36 : lw_okq (⟨"ShiftHouseModel", "shadowed", "()I"⟩, 38) := ⟨⟨by decide +kernel, by decide +kernel⟩, List.mem_of_getElem? (i := 578) (by decide +kernel), List.mem_of_getElem? (i := 852) (by decide +kernel), List.mem_of_getElem? (i := 853) (by decide +kernel)⟩
theorem lw_p37 : lw_okq (⟨"ShiftHouseModel", "isWrong", "(I)Z"⟩, 38) := ⟨⟨by decide +kernel, by decide +kernel⟩, List.mem_of_getElem? (i := 578) (by decide +kernel), List.mem_of_getElem? (i := 856) (by decide +kernel), List.mem_of_getElem? (i := 857) (by decide +kernel)⟩
theorem lw_p38 : lw_okq (⟨"ShiftHouseModel", "isLagging", "(I)Z"⟩, 38) := ⟨⟨by decide +kernel, by decide +kernel⟩, List.mem_of_getElem? (i := 578) (by decide +kernel), List.mem_of_getElem? (i := 875) (by decide +kernel), List.mem_of_getElem? (i := 876) (by decide +kernel)⟩
theorem lw_p39 : lw_okq (⟨"ShiftHouseModel", "lagging", "()I"⟩, 38) := ⟨⟨by decide +kernel, by decide +kernel⟩, List.mem_of_getElem? (i := 578) (by decide +kernel), List.mem_of_getElem? (i := 895) (by decide +kernel), List.mem_of_getElem? (i := 896) (by decide +kernel)⟩
def lw_privs_3 : List (MethodName × Nat) := [(⟨"ShiftHouseModel", "putDigits", "(IJ)V"⟩, 38), (⟨"ShiftHouseModel", "up", "(II)V"⟩, 38), (⟨"ShiftHouseModel", "copyForm", "(II)V"⟩, 38), (⟨"ShiftHouseModel", "drop", "(I)V"⟩, 38), (⟨"ShiftHouseModel", "shadowed", "()I"⟩, 38), (⟨"ShiftHouseModel", "isWrong", "(I)Z"⟩, 38), (⟨"ShiftHouseModel", "isLagging", "(I)Z"⟩, 38), (⟨"ShiftHouseModel", "lagging", "()I"⟩, 38)]
theorem lw_r3 : ∀ q ∈ lw_privs_3, lw_okq q := List.forall_mem_cons.mpr ⟨lw_p32, List.forall_mem_cons.mpr ⟨lw_p33, List.forall_mem_cons.mpr ⟨lw_p34, List.forall_mem_cons.mpr ⟨lw_p35, List.forall_mem_cons.mpr ⟨lw_p36, List.forall_mem_cons.mpr ⟨lw_p37, List.forall_mem_cons.mpr ⟨lw_p38, List.forall_mem_cons.mpr ⟨lw_p39, fun _ h => absurd h List.not_mem_nil⟩⟩⟩⟩⟩⟩⟩⟩
def lw_privs : List (MethodName × Nat) := lw_privs_1 ++ (lw_privs_2 ++ (lw_privs_3))
def lw_tbl : List Cond := k2_sels lw_privs ++ tables_1
theorem lw_privs_ok : ∀ q ∈ lw_privs, lw_okq q := by
  show ∀ q ∈ lw_privs_1 ++ (lw_privs_2 ++ (lw_privs_3)), lw_okq q
  exact List.forall_mem_append.mpr ⟨lw_r1, List.forall_mem_append.mpr ⟨lw_r2, lw_r3⟩⟩

def RX0 : String := "ShiftHouse$Disk"
def TX0 : u_T := fun k => match k with
  | 0 => ("ShiftHouse$Disk", "isDown", "Z", false)
  | 1 => ("ShiftHouse$Disk", "hasNote", "Z", false)
  | 2 => ("ShiftHouse$Disk", "crashAt", "I", false)
  | 3 => ("ShiftHouse$Disk", "done", "I", false)
  | _ => ("ShiftHouse$Disk", "doneInCall", "I", false)
def tyX0 : Nat → FieldType := fun k => match k with
  | 0 => .boolean
  | 1 => .boolean
  | 2 => .int
  | 3 => .int
  | _ => .int
abbrev wsX00 : List Cond := u_ws RX0 TX0 5
theorem nmX0 : ∀ a, a < 5 → ∀ b, b < 5 → a ≠ b → (TX0 a).2.1 ≠ (TX0 b).2.1 := by decide +kernel
theorem tyX0_ok : ∀ k, k < 5 → parseFieldDescriptor (TX0 k).2.2.1 = some (tyX0 k) := by decide +kernel
abbrev cX0_init : ByteArray := prog_2_method_1_code
def yX0_init : MethodName := ⟨RX0, "<init>", "()V"⟩
abbrev cX0_startCall : ByteArray := prog_2_method_2_code
def yX0_startCall : MethodName := ⟨RX0, "startCall", "()V"⟩
abbrev cX0_act : ByteArray := prog_2_method_3_code
def yX0_act : MethodName := ⟨RX0, "act", "()Z"⟩
abbrev cX0_actTimes : ByteArray := prog_2_method_4_code
def yX0_actTimes : MethodName := ⟨RX0, "actTimes", "(I)Z"⟩
abbrev cX0_carryOutNote : ByteArray := prog_2_method_5_code
def yX0_carryOutNote : MethodName := ⟨RX0, "carryOutNote", "()Z"⟩
def RX1 : String := "ShiftHouse$Draft"
def TX1 : u_T := fun k => match k with
  | 0 => ("ShiftHouse$Draft", "told", "[J", true)
  | _ => ("ShiftHouse$Draft", "letters", "LShiftHouse$Form;", true)
def tyX1 : Nat → FieldType := fun k => match k with
  | 0 => .array .long
  | _ => .object "ShiftHouse$Form"
abbrev wsX10 : List Cond := u_ws RX1 TX1 2
theorem nmX1 : ∀ a, a < 2 → ∀ b, b < 2 → a ≠ b → (TX1 a).2.1 ≠ (TX1 b).2.1 := by decide +kernel
theorem tyX1_ok : ∀ k, k < 2 → parseFieldDescriptor (TX1 k).2.2.1 = some (tyX1 k) := by decide +kernel
abbrev cX1_init : ByteArray := prog_3_method_1_code
def yX1_init : MethodName := ⟨RX1, "<init>", "()V"⟩
abbrev cX1_setCell : ByteArray := prog_3_method_2_code
def yX1_setCell : MethodName := ⟨RX1, "setCell", "(IJ)V"⟩
abbrev cX1_addLetters : ByteArray := prog_3_method_3_code
def yX1_addLetters : MethodName := ⟨RX1, "addLetters", "(IJ)Z"⟩
abbrev cX1_letterCount : ByteArray := prog_3_method_4_code
def yX1_letterCount : MethodName := ⟨RX1, "letterCount", "(I)I"⟩
abbrev cX1_putInto : ByteArray := prog_3_method_5_code
def yX1_putInto : MethodName := ⟨RX1, "putInto", "(LShiftHouse$Form;LShiftHouse$Schema;)V"⟩
def RX2 : String := "ShiftHouse$Form"
def TX2 : u_T := fun k => match k with
  | _ => ("ShiftHouse$Form", "words", "[J", true)
def tyX2 : Nat → FieldType := fun k => match k with
  | _ => .array .long
abbrev wsX20 : List Cond := u_ws RX2 TX2 1
theorem nmX2 : ∀ a, a < 1 → ∀ b, b < 1 → a ≠ b → (TX2 a).2.1 ≠ (TX2 b).2.1 := by decide +kernel
theorem tyX2_ok : ∀ k, k < 1 → parseFieldDescriptor (TX2 k).2.2.1 = some (tyX2 k) := by decide +kernel
abbrev cX2_init : ByteArray := prog_4_method_1_code
def yX2_init : MethodName := ⟨RX2, "<init>", "()V"⟩
abbrev cX2_copyFrom : ByteArray := prog_4_method_2_code
def yX2_copyFrom : MethodName := ⟨RX2, "copyFrom", "(LShiftHouse$Form;)V"⟩
abbrev cX2_copyValue : ByteArray := prog_4_method_3_code
def yX2_copyValue : MethodName := ⟨RX2, "copyValue", "(ILShiftHouse$Form;I)V"⟩
abbrev cX2_clearAll : ByteArray := prog_4_method_4_code
def yX2_clearAll : MethodName := ⟨RX2, "clearAll", "()V"⟩
abbrev cX2_takeValueOut : ByteArray := prog_4_method_5_code
def yX2_takeValueOut : MethodName := ⟨RX2, "takeValueOut", "(I)V"⟩
abbrev cX2_numberAt : ByteArray := prog_4_method_6_code
def yX2_numberAt : MethodName := ⟨RX2, "numberAt", "(I)J"⟩
abbrev cX2_setNumber : ByteArray := prog_4_method_7_code
def yX2_setNumber : MethodName := ⟨RX2, "setNumber", "(IJ)V"⟩
abbrev cX2_letterAt : ByteArray := prog_4_method_8_code
def yX2_letterAt : MethodName := ⟨RX2, "letterAt", "(II)I"⟩
abbrev cX2_appendLetter : ByteArray := prog_4_method_9_code
def yX2_appendLetter : MethodName := ⟨RX2, "appendLetter", "(II)V"⟩
abbrev cX2_appendLetters : ByteArray := prog_4_method_10_code
def yX2_appendLetters : MethodName := ⟨RX2, "appendLetters", "(IJ)V"⟩
abbrev cX2_setTold : ByteArray := prog_4_method_11_code
def yX2_setTold : MethodName := ⟨RX2, "setTold", "(IIJ)V"⟩
abbrev cX2_become : ByteArray := prog_4_method_12_code
def yX2_become : MethodName := ⟨RX2, "become", "(III)V"⟩
abbrev cX2_numberTold : ByteArray := prog_4_method_13_code
def yX2_numberTold : MethodName := ⟨RX2, "numberTold", "(I)J"⟩
abbrev cX2_setDigits : ByteArray := prog_4_method_14_code
def yX2_setDigits : MethodName := ⟨RX2, "setDigits", "(IJ)V"⟩
def RX3 : String := "ShiftHouse$Migration"
def TX3 : u_T := fun k => match k with
  | 0 => ("ShiftHouse$Migration", "steps", "[LShiftHouse$Step;", true)
  | 1 => ("ShiftHouse$Migration", "size", "I", false)
  | _ => ("ShiftHouse$Migration", "places", "[I", true)
def tyX3 : Nat → FieldType := fun k => match k with
  | 0 => .array (.object "ShiftHouse$Step")
  | 1 => .int
  | _ => .array .int
abbrev wsX30 : List Cond := u_ws RX3 TX3 3
theorem nmX3 : ∀ a, a < 3 → ∀ b, b < 3 → a ≠ b → (TX3 a).2.1 ≠ (TX3 b).2.1 := by decide +kernel
theorem tyX3_ok : ∀ k, k < 3 → parseFieldDescriptor (TX3 k).2.2.1 = some (tyX3 k) := by decide +kernel
abbrev cX3_init : ByteArray := prog_5_method_1_code
def yX3_init : MethodName := ⟨RX3, "<init>", "()V"⟩
abbrev cX3_append : ByteArray := prog_5_method_2_code
def yX3_append : MethodName := ⟨RX3, "append", "(IIIJ)V"⟩
abbrev cX3_firstWrongStep : ByteArray := prog_5_method_3_code
def yX3_firstWrongStep : MethodName := ⟨RX3, "firstWrongStep", "(LShiftHouse$Schema;LShiftHouse$Schema;)I"⟩
abbrev cX3_makeUp : ByteArray := prog_5_method_4_code
def yX3_makeUp : MethodName := ⟨RX3, "makeUp", "(LShiftHouse$Form;LShiftHouse$Form;)V"⟩
abbrev cX3_makeDown : ByteArray := prog_5_method_5_code
def yX3_makeDown : MethodName := ⟨RX3, "makeDown", "(LShiftHouse$Form;LShiftHouse$Form;I)V"⟩
abbrev cX3_lastPlace : ByteArray := prog_5_method_6_code
def yX3_lastPlace : MethodName := ⟨RX3, "lastPlace", "(I)I"⟩
abbrev cX3_makeBack : ByteArray := prog_5_method_7_code
def yX3_makeBack : MethodName := ⟨RX3, "makeBack", "(LShiftHouse$Form;I)V"⟩
def RX4 : String := "ShiftHouse$Row"
def TX4 : u_T := fun k => match k with
  | 0 => ("ShiftHouse$Row", "key", "I", false)
  | 1 => ("ShiftHouse$Row", "lag", "I", false)
  | 2 => ("ShiftHouse$Row", "wasBehind", "Z", false)
  | 3 => ("ShiftHouse$Row", "prior", "LShiftHouse$Form;", false)
  | _ => ("ShiftHouse$Row", "fresh", "LShiftHouse$Form;", false)
def tyX4 : Nat → FieldType := fun k => match k with
  | 0 => .int
  | 1 => .int
  | 2 => .boolean
  | 3 => .object "ShiftHouse$Form"
  | _ => .object "ShiftHouse$Form"
abbrev wsX40 : List Cond := u_ws RX4 TX4 5
theorem nmX4 : ∀ a, a < 5 → ∀ b, b < 5 → a ≠ b → (TX4 a).2.1 ≠ (TX4 b).2.1 := by decide +kernel
theorem tyX4_ok : ∀ k, k < 5 → parseFieldDescriptor (TX4 k).2.2.1 = some (tyX4 k) := by decide +kernel
abbrev cX4_init : ByteArray := prog_6_method_1_code
def yX4_init : MethodName := ⟨RX4, "<init>", "()V"⟩
abbrev cX4_startUnder : ByteArray := prog_6_method_2_code
def yX4_startUnder : MethodName := ⟨RX4, "startUnder", "(I)V"⟩
abbrev cX4_diskPlaces : ByteArray := prog_6_method_3_code
def yX4_diskPlaces : MethodName := ⟨RX4, "diskPlaces", "()I"⟩
abbrev cX4_markWritten : ByteArray := prog_6_method_4_code
def yX4_markWritten : MethodName := ⟨RX4, "markWritten", "()V"⟩
abbrev cX4_markBegun : ByteArray := prog_6_method_5_code
def yX4_markBegun : MethodName := ⟨RX4, "markBegun", "()V"⟩
abbrev cX4_keepFresh : ByteArray := prog_6_method_6_code
def yX4_keepFresh : MethodName := ⟨RX4, "keepFresh", "()V"⟩
abbrev cX4_keepPrior : ByteArray := prog_6_method_7_code
def yX4_keepPrior : MethodName := ⟨RX4, "keepPrior", "()V"⟩
def RX5 : String := "ShiftHouse$Schema"
def TX5 : u_T := fun k => match k with
  | 0 => ("ShiftHouse$Schema", "names", "[I", true)
  | 1 => ("ShiftHouse$Schema", "types", "[I", true)
  | _ => ("ShiftHouse$Schema", "size", "I", false)
def tyX5 : Nat → FieldType := fun k => match k with
  | 0 => .array .int
  | 1 => .array .int
  | _ => .int
abbrev wsX50 : List Cond := u_ws RX5 TX5 3
theorem nmX5 : ∀ a, a < 3 → ∀ b, b < 3 → a ≠ b → (TX5 a).2.1 ≠ (TX5 b).2.1 := by decide +kernel
theorem tyX5_ok : ∀ k, k < 3 → parseFieldDescriptor (TX5 k).2.2.1 = some (tyX5 k) := by decide +kernel
abbrev cX5_init : ByteArray := prog_7_method_1_code
def yX5_init : MethodName := ⟨RX5, "<init>", "()V"⟩
abbrev cX5_copyFrom : ByteArray := prog_7_method_2_code
def yX5_copyFrom : MethodName := ⟨RX5, "copyFrom", "(LShiftHouse$Schema;)V"⟩
abbrev cX5_change : ByteArray := prog_7_method_3_code
def yX5_change : MethodName := ⟨RX5, "change", "(LShiftHouse$Step;)Z"⟩
abbrev cX5_placeOf : ByteArray := prog_7_method_4_code
def yX5_placeOf : MethodName := ⟨RX5, "placeOf", "(I)I"⟩
abbrev cX5_addColumn : ByteArray := prog_7_method_5_code
def yX5_addColumn : MethodName := ⟨RX5, "addColumn", "(LShiftHouse$Step;)Z"⟩
abbrev cX5_dropColumn : ByteArray := prog_7_method_6_code
def yX5_dropColumn : MethodName := ⟨RX5, "dropColumn", "(I)V"⟩
abbrev cX5_renameColumn : ByteArray := prog_7_method_7_code
def yX5_renameColumn : MethodName := ⟨RX5, "renameColumn", "(II)Z"⟩
abbrev cX5_retypeColumn : ByteArray := prog_7_method_8_code
def yX5_retypeColumn : MethodName := ⟨RX5, "retypeColumn", "(II)Z"⟩
def RX6 : String := "ShiftHouse$Step"
def TX6 : u_T := fun k => match k with
  | 0 => ("ShiftHouse$Step", "what", "I", false)
  | 1 => ("ShiftHouse$Step", "name", "I", false)
  | 2 => ("ShiftHouse$Step", "other", "I", false)
  | 3 => ("ShiftHouse$Step", "told", "J", false)
  | 4 => ("ShiftHouse$Step", "place", "I", false)
  | _ => ("ShiftHouse$Step", "from", "I", false)
def tyX6 : Nat → FieldType := fun k => match k with
  | 0 => .int
  | 1 => .int
  | 2 => .int
  | 3 => .long
  | 4 => .int
  | _ => .int
abbrev wsX60 : List Cond := u_ws RX6 TX6 6
theorem nmX6 : ∀ a, a < 6 → ∀ b, b < 6 → a ≠ b → (TX6 a).2.1 ≠ (TX6 b).2.1 := by decide +kernel
theorem tyX6_ok : ∀ k, k < 6 → parseFieldDescriptor (TX6 k).2.2.1 = some (tyX6 k) := by decide +kernel
abbrev cX6_init : ByteArray := prog_8_method_1_code
def yX6_init : MethodName := ⟨RX6, "<init>", "()V"⟩
abbrev cX6_changeForm : ByteArray := prog_8_method_2_code
def yX6_changeForm : MethodName := ⟨RX6, "changeForm", "(LShiftHouse$Form;)V"⟩
abbrev cX6_placeBehind : ByteArray := prog_8_method_3_code
def yX6_placeBehind : MethodName := ⟨RX6, "placeBehind", "(I)I"⟩
def RX7 : String := "ShiftHouse$Table"
def TX7 : u_T := fun k => match k with
  | 0 => ("ShiftHouse$Table", "rows", "[LShiftHouse$Row;", true)
  | _ => ("ShiftHouse$Table", "size", "I", false)
def tyX7 : Nat → FieldType := fun k => match k with
  | 0 => .array (.object "ShiftHouse$Row")
  | _ => .int
abbrev wsX70 : List Cond := u_ws RX7 TX7 2
theorem nmX7 : ∀ a, a < 2 → ∀ b, b < 2 → a ≠ b → (TX7 a).2.1 ≠ (TX7 b).2.1 := by decide +kernel
theorem tyX7_ok : ∀ k, k < 2 → parseFieldDescriptor (TX7 k).2.2.1 = some (tyX7 k) := by decide +kernel
abbrev cX7_init : ByteArray := prog_9_method_1_code
def yX7_init : MethodName := ⟨RX7, "<init>", "()V"⟩
abbrev cX7_placeAbove : ByteArray := prog_9_method_2_code
def yX7_placeAbove : MethodName := ⟨RX7, "placeAbove", "(IZ)I"⟩
abbrev cX7_placeUnder : ByteArray := prog_9_method_3_code
def yX7_placeUnder : MethodName := ⟨RX7, "placeUnder", "(I)I"⟩
abbrev cX7_insert : ByteArray := prog_9_method_4_code
def yX7_insert : MethodName := ⟨RX7, "insert", "(I)LShiftHouse$Row;"⟩
abbrev cX7_takeOut : ByteArray := prog_9_method_5_code
def yX7_takeOut : MethodName := ⟨RX7, "takeOut", "(I)V"⟩
abbrev cX7_countLagging : ByteArray := prog_9_method_6_code
def yX7_countLagging : MethodName := ⟨RX7, "countLagging", "()I"⟩
abbrev cX7_countShadowed : ByteArray := prog_9_method_7_code
def yX7_countShadowed : MethodName := ⟨RX7, "countShadowed", "()I"⟩
def RX8 : String := "ShiftHouse"
def TX8 : u_T := fun k => match k with
  | 0 => ("ShiftHouse", "disk", "LShiftHouse$Disk;", true)
  | 1 => ("ShiftHouse", "table", "LShiftHouse$Table;", true)
  | 2 => ("ShiftHouse", "drafted", "LShiftHouse$Draft;", true)
  | 3 => ("ShiftHouse", "seenForm", "LShiftHouse$Form;", true)
  | 4 => ("ShiftHouse", "seenSchema", "LShiftHouse$Schema;", true)
  | 5 => ("ShiftHouse", "isSeen", "Z", false)
  | 6 => ("ShiftHouse", "schema", "LShiftHouse$Schema;", false)
  | 7 => ("ShiftHouse", "nextSchema", "LShiftHouse$Schema;", false)
  | 8 => ("ShiftHouse", "planned", "LShiftHouse$Migration;", false)
  | 9 => ("ShiftHouse", "migration", "LShiftHouse$Migration;", false)
  | 10 => ("ShiftHouse", "isRunning", "Z", false)
  | _ => ("ShiftHouse", "version", "I", false)
def tyX8 : Nat → FieldType := fun k => match k with
  | 0 => .object "ShiftHouse$Disk"
  | 1 => .object "ShiftHouse$Table"
  | 2 => .object "ShiftHouse$Draft"
  | 3 => .object "ShiftHouse$Form"
  | 4 => .object "ShiftHouse$Schema"
  | 5 => .boolean
  | 6 => .object "ShiftHouse$Schema"
  | 7 => .object "ShiftHouse$Schema"
  | 8 => .object "ShiftHouse$Migration"
  | 9 => .object "ShiftHouse$Migration"
  | 10 => .boolean
  | _ => .int
abbrev wsX80 : List Cond := u_ws RX8 TX8 12
theorem nmX8 : ∀ a, a < 12 → ∀ b, b < 12 → a ≠ b → (TX8 a).2.1 ≠ (TX8 b).2.1 := by decide +kernel
theorem tyX8_ok : ∀ k, k < 12 → parseFieldDescriptor (TX8 k).2.2.1 = some (tyX8 k) := by decide +kernel
abbrev cX8_init : ByteArray := prog_1_method_1_code
def yX8_init : MethodName := ⟨RX8, "<init>", "()V"⟩
abbrev cX8_plan : ByteArray := prog_1_method_2_code
def yX8_plan : MethodName := ⟨RX8, "plan", "(IIIII)I"⟩
abbrev cX8_scrap : ByteArray := prog_1_method_3_code
def yX8_scrap : MethodName := ⟨RX8, "scrap", "()I"⟩
abbrev cX8_draft : ByteArray := prog_1_method_4_code
def yX8_draft : MethodName := ⟨RX8, "draft", "(III)I"⟩
abbrev cX8_letters : ByteArray := prog_1_method_5_code
def yX8_letters : MethodName := ⟨RX8, "letters", "(III)I"⟩
abbrev cX8_write : ByteArray := prog_1_method_6_code
def yX8_write : MethodName := ⟨RX8, "write", "(IZ)I"⟩
abbrev cX8_remove : ByteArray := prog_1_method_7_code
def yX8_remove : MethodName := ⟨RX8, "remove", "(I)I"⟩
abbrev cX8_read : ByteArray := prog_1_method_8_code
def yX8_read : MethodName := ⟨RX8, "read", "(IZ)I"⟩
abbrev cX8_seen : ByteArray := prog_1_method_9_code
def yX8_seen : MethodName := ⟨RX8, "seen", "()I"⟩
abbrev cX8_value : ByteArray := prog_1_method_10_code
def yX8_value : MethodName := ⟨RX8, "value", "(I)J"⟩
abbrev cX8_letter : ByteArray := prog_1_method_11_code
def yX8_letter : MethodName := ⟨RX8, "letter", "(II)I"⟩
abbrev cX8_next : ByteArray := prog_1_method_12_code
def yX8_next : MethodName := ⟨RX8, "next", "(IZ)I"⟩
abbrev cX8_more : ByteArray := prog_1_method_13_code
def yX8_more : MethodName := ⟨RX8, "more", "(IZ)I"⟩
abbrev cX8_begin : ByteArray := prog_1_method_14_code
def yX8_begin : MethodName := ⟨RX8, "begin", "()I"⟩
abbrev cX8_finish : ByteArray := prog_1_method_15_code
def yX8_finish : MethodName := ⟨RX8, "finish", "()I"⟩
abbrev cX8_rollback : ByteArray := prog_1_method_16_code
def yX8_rollback : MethodName := ⟨RX8, "rollback", "()I"⟩
abbrev cX8_backfill : ByteArray := prog_1_method_17_code
def yX8_backfill : MethodName := ⟨RX8, "backfill", "()I"⟩
abbrev cX8_crash : ByteArray := prog_1_method_18_code
def yX8_crash : MethodName := ⟨RX8, "crash", "(I)I"⟩
abbrev cX8_restart : ByteArray := prog_1_method_19_code
def yX8_restart : MethodName := ⟨RX8, "restart", "()I"⟩
abbrev cX8_isDown : ByteArray := prog_1_method_20_code
def yX8_isDown : MethodName := ⟨RX8, "isDown", "()Z"⟩
abbrev cX8_count : ByteArray := prog_1_method_21_code
def yX8_count : MethodName := ⟨RX8, "count", "(I)I"⟩
abbrev cX8_column : ByteArray := prog_1_method_22_code
def yX8_column : MethodName := ⟨RX8, "column", "(IZ)I"⟩
abbrev cX8_isName : ByteArray := prog_1_method_23_code
def yX8_isName : MethodName := ⟨RX8, "isName", "(I)Z"⟩
abbrev cX8_isType : ByteArray := prog_1_method_24_code
def yX8_isType : MethodName := ⟨RX8, "isType", "(I)Z"⟩
abbrev cX8_isCell : ByteArray := prog_1_method_25_code
def yX8_isCell : MethodName := ⟨RX8, "isCell", "(I)Z"⟩
abbrev cX8_joined : ByteArray := prog_1_method_26_code
def yX8_joined : MethodName := ⟨RX8, "joined", "(II)J"⟩
abbrev cX8_isSeenColumn : ByteArray := prog_1_method_27_code
def yX8_isSeenColumn : MethodName := ⟨RX8, "isSeenColumn", "(I)Z"⟩
abbrev cX8_putDraft : ByteArray := prog_1_method_28_code
def yX8_putDraft : MethodName := ⟨RX8, "putDraft", "(IZ)V"⟩
abbrev cX8_runPlan : ByteArray := prog_1_method_29_code
def yX8_runPlan : MethodName := ⟨RX8, "runPlan", "()V"⟩
abbrev cX8_endRunning : ByteArray := prog_1_method_30_code
def yX8_endRunning : MethodName := ⟨RX8, "endRunning", "()I"⟩
abbrev cX8_countWhenUp : ByteArray := prog_1_method_31_code
def yX8_countWhenUp : MethodName := ⟨RX8, "countWhenUp", "(I)I"⟩
def RX9 : String := "ShiftHouseModel"
def TX9 : u_T := fun k => match k with
  | 0 => ("ShiftHouseModel", "numbers", "[J", true)
  | 1 => ("ShiftHouseModel", "lengths", "[I", true)
  | 2 => ("ShiftHouseModel", "chars", "[I", true)
  | 3 => ("ShiftHouseModel", "digits", "[I", true)
  | 4 => ("ShiftHouseModel", "keys", "[I", true)
  | 5 => ("ShiftHouseModel", "slots", "[I", true)
  | 6 => ("ShiftHouseModel", "rows", "I", false)
  | 7 => ("ShiftHouseModel", "sorts", "[I", true)
  | 8 => ("ShiftHouseModel", "lags", "[Z", true)
  | 9 => ("ShiftHouseModel", "wasBehind", "[Z", true)
  | 10 => ("ShiftHouseModel", "isUsed", "[Z", true)
  | 11 => ("ShiftHouseModel", "names", "[I", true)
  | 12 => ("ShiftHouseModel", "types", "[I", true)
  | 13 => ("ShiftHouseModel", "columns", "[I", true)
  | 14 => ("ShiftHouseModel", "version", "I", false)
  | 15 => ("ShiftHouseModel", "running", "Z", false)
  | 16 => ("ShiftHouseModel", "whats", "[I", true)
  | 17 => ("ShiftHouseModel", "stepNames", "[I", true)
  | 18 => ("ShiftHouseModel", "others", "[I", true)
  | 19 => ("ShiftHouseModel", "as", "[I", true)
  | 20 => ("ShiftHouseModel", "bs", "[I", true)
  | 21 => ("ShiftHouseModel", "planned", "I", false)
  | 22 => ("ShiftHouseModel", "steps", "I", false)
  | 23 => ("ShiftHouseModel", "draftA", "[I", true)
  | 24 => ("ShiftHouseModel", "draftB", "[I", true)
  | 25 => ("ShiftHouseModel", "letterCount", "[I", true)
  | 26 => ("ShiftHouseModel", "letterRow", "[I", true)
  | 27 => ("ShiftHouseModel", "seenMany", "I", false)
  | 28 => ("ShiftHouseModel", "seenTypes", "[I", true)
  | 29 => ("ShiftHouseModel", "actions", "I", false)
  | 30 => ("ShiftHouseModel", "latest", "I", false)
  | 31 => ("ShiftHouseModel", "crashIn", "I", false)
  | 32 => ("ShiftHouseModel", "down", "Z", false)
  | 33 => ("ShiftHouseModel", "noted", "Z", false)
  | 34 => ("ShiftHouseModel", "origins", "[I", true)
  | 35 => ("ShiftHouseModel", "dropped", "[Z", true)
  | 36 => ("ShiftHouseModel", "pastTypes", "[I", true)
  | _ => ("ShiftHouseModel", "pasts", "[I", true)
def tyX9 : Nat → FieldType := fun k => match k with
  | 0 => .array .long
  | 1 => .array .int
  | 2 => .array .int
  | 3 => .array .int
  | 4 => .array .int
  | 5 => .array .int
  | 6 => .int
  | 7 => .array .int
  | 8 => .array .boolean
  | 9 => .array .boolean
  | 10 => .array .boolean
  | 11 => .array .int
  | 12 => .array .int
  | 13 => .array .int
  | 14 => .int
  | 15 => .boolean
  | 16 => .array .int
  | 17 => .array .int
  | 18 => .array .int
  | 19 => .array .int
  | 20 => .array .int
  | 21 => .int
  | 22 => .int
  | 23 => .array .int
  | 24 => .array .int
  | 25 => .array .int
  | 26 => .array .int
  | 27 => .int
  | 28 => .array .int
  | 29 => .int
  | 30 => .int
  | 31 => .int
  | 32 => .boolean
  | 33 => .boolean
  | 34 => .array .int
  | 35 => .array .boolean
  | 36 => .array .int
  | _ => .array .int
abbrev wsX90 : List Cond := u_ws RX9 TX9 38
theorem nmX9 : ∀ a, a < 38 → ∀ b, b < 38 → a ≠ b → (TX9 a).2.1 ≠ (TX9 b).2.1 := by decide +kernel
theorem tyX9_ok : ∀ k, k < 38 → parseFieldDescriptor (TX9 k).2.2.1 = some (tyX9 k) := by decide +kernel
abbrev cX9_init : ByteArray := prog_11_method_1_code
def yX9_init : MethodName := ⟨RX9, "<init>", "()V"⟩
abbrev cX9_isIn : ByteArray := prog_11_method_2_code
def yX9_isIn : MethodName := ⟨RX9, "isIn", "(III)Z"⟩
abbrev cX9_clear : ByteArray := prog_11_method_3_code
def yX9_clear : MethodName := ⟨RX9, "clear", "(I)V"⟩
abbrev cX9_copy : ByteArray := prog_11_method_4_code
def yX9_copy : MethodName := ⟨RX9, "copy", "(II)V"⟩
abbrev cX9_copyForm : ByteArray := prog_11_method_5_code
def yX9_copyForm : MethodName := ⟨RX9, "copyForm", "(II)V"⟩
abbrev cX9_tell : ByteArray := prog_11_method_6_code
def yX9_tell : MethodName := ⟨RX9, "tell", "(IIII)V"⟩
abbrev cX9_addChar : ByteArray := prog_11_method_7_code
def yX9_addChar : MethodName := ⟨RX9, "addChar", "(II)V"⟩
abbrev cX9_told : ByteArray := prog_11_method_8_code
def yX9_told : MethodName := ⟨RX9, "told", "(I)J"⟩
abbrev cX9_putDigits : ByteArray := prog_11_method_9_code
def yX9_putDigits : MethodName := ⟨RX9, "putDigits", "(IJ)V"⟩
abbrev cX9_nearest : ByteArray := prog_11_method_10_code
def yX9_nearest : MethodName := ⟨RX9, "nearest", "(JJJ)J"⟩
abbrev cX9_become : ByteArray := prog_11_method_11_code
def yX9_become : MethodName := ⟨RX9, "become", "(III)V"⟩
abbrev cX9_canBecome : ByteArray := prog_11_method_12_code
def yX9_canBecome : MethodName := ⟨RX9, "canBecome", "(II)Z"⟩
abbrev cX9_copySchema : ByteArray := prog_11_method_13_code
def yX9_copySchema : MethodName := ⟨RX9, "copySchema", "(II)V"⟩
abbrev cX9_place : ByteArray := prog_11_method_14_code
def yX9_place : MethodName := ⟨RX9, "place", "(I)I"⟩
abbrev cX9_isWrong : ByteArray := prog_11_method_15_code
def yX9_isWrong : MethodName := ⟨RX9, "isWrong", "(I)Z"⟩
abbrev cX9_step : ByteArray := prog_11_method_16_code
def yX9_step : MethodName := ⟨RX9, "step", "(I)V"⟩
abbrev cX9_up : ByteArray := prog_11_method_17_code
def yX9_up : MethodName := ⟨RX9, "up", "(II)V"⟩
abbrev cX9_follow : ByteArray := prog_11_method_18_code
def yX9_follow : MethodName := ⟨RX9, "follow", "()V"⟩
abbrev cX9_down : ByteArray := prog_11_method_19_code
def yX9_down : MethodName := ⟨RX9, "down", "(III)V"⟩
abbrev cX9_act : ByteArray := prog_11_method_20_code
def yX9_act : MethodName := ⟨RX9, "act", "()Z"⟩
abbrev cX9_acts : ByteArray := prog_11_method_21_code
def yX9_acts : MethodName := ⟨RX9, "acts", "(I)I"⟩
abbrev cX9_plan : ByteArray := prog_11_method_22_code
def yX9_plan : MethodName := ⟨RX9, "plan", "(IIIII)I"⟩
abbrev cX9_scrap : ByteArray := prog_11_method_23_code
def yX9_scrap : MethodName := ⟨RX9, "scrap", "()I"⟩
abbrev cX9_draft : ByteArray := prog_11_method_24_code
def yX9_draft : MethodName := ⟨RX9, "draft", "(III)I"⟩
abbrev cX9_letters : ByteArray := prog_11_method_25_code
def yX9_letters : MethodName := ⟨RX9, "letters", "(III)I"⟩
abbrev cX9_drafted : ByteArray := prog_11_method_26_code
def yX9_drafted : MethodName := ⟨RX9, "drafted", "(II)V"⟩
abbrev cX9_find : ByteArray := prog_11_method_27_code
def yX9_find : MethodName := ⟨RX9, "find", "(I)I"⟩
abbrev cX9_form : ByteArray := prog_11_method_28_code
def yX9_form : MethodName := ⟨RX9, "form", "(II)I"⟩
abbrev cX9_moveRow : ByteArray := prog_11_method_29_code
def yX9_moveRow : MethodName := ⟨RX9, "moveRow", "(II)V"⟩
abbrev cX9_insert : ByteArray := prog_11_method_30_code
def yX9_insert : MethodName := ⟨RX9, "insert", "(I)I"⟩
abbrev cX9_drop : ByteArray := prog_11_method_31_code
def yX9_drop : MethodName := ⟨RX9, "drop", "(I)V"⟩
abbrev cX9_write : ByteArray := prog_11_method_32_code
def yX9_write : MethodName := ⟨RX9, "write", "(IZ)I"⟩
abbrev cX9_remove : ByteArray := prog_11_method_33_code
def yX9_remove : MethodName := ⟨RX9, "remove", "(I)I"⟩
abbrev cX9_read : ByteArray := prog_11_method_34_code
def yX9_read : MethodName := ⟨RX9, "read", "(IZ)I"⟩
abbrev cX9_seen : ByteArray := prog_11_method_35_code
def yX9_seen : MethodName := ⟨RX9, "seen", "()I"⟩
abbrev cX9_value : ByteArray := prog_11_method_36_code
def yX9_value : MethodName := ⟨RX9, "value", "(I)J"⟩
abbrev cX9_letter : ByteArray := prog_11_method_37_code
def yX9_letter : MethodName := ⟨RX9, "letter", "(II)I"⟩
abbrev cX9_next : ByteArray := prog_11_method_38_code
def yX9_next : MethodName := ⟨RX9, "next", "(IZ)I"⟩
abbrev cX9_more : ByteArray := prog_11_method_39_code
def yX9_more : MethodName := ⟨RX9, "more", "(IZ)I"⟩
abbrev cX9_shadowed : ByteArray := prog_11_method_40_code
def yX9_shadowed : MethodName := ⟨RX9, "shadowed", "()I"⟩
abbrev cX9_isLagging : ByteArray := prog_11_method_41_code
def yX9_isLagging : MethodName := ⟨RX9, "isLagging", "(I)Z"⟩
abbrev cX9_begin : ByteArray := prog_11_method_42_code
def yX9_begin : MethodName := ⟨RX9, "begin", "()I"⟩
abbrev cX9_finish : ByteArray := prog_11_method_43_code
def yX9_finish : MethodName := ⟨RX9, "finish", "()I"⟩
abbrev cX9_rollback : ByteArray := prog_11_method_44_code
def yX9_rollback : MethodName := ⟨RX9, "rollback", "()I"⟩
abbrev cX9_backfill : ByteArray := prog_11_method_45_code
def yX9_backfill : MethodName := ⟨RX9, "backfill", "()I"⟩
abbrev cX9_crash : ByteArray := prog_11_method_46_code
def yX9_crash : MethodName := ⟨RX9, "crash", "(I)I"⟩
abbrev cX9_restart : ByteArray := prog_11_method_47_code
def yX9_restart : MethodName := ⟨RX9, "restart", "()I"⟩
abbrev cX9_isDown : ByteArray := prog_11_method_48_code
def yX9_isDown : MethodName := ⟨RX9, "isDown", "()Z"⟩
abbrev cX9_lagging : ByteArray := prog_11_method_49_code
def yX9_lagging : MethodName := ⟨RX9, "lagging", "()I"⟩
abbrev cX9_count : ByteArray := prog_11_method_50_code
def yX9_count : MethodName := ⟨RX9, "count", "(I)I"⟩
abbrev cX9_column : ByteArray := prog_11_method_51_code
def yX9_column : MethodName := ⟨RX9, "column", "(IZ)I"⟩
def RL : String := "ShiftHouseLaw"
abbrev cL_law : ByteArray := code
def yL_law : MethodName := ⟨RL, "law", "([I)Z"⟩
abbrev vwCl : List vw_C := [(RX0, TX0, 5), (RX1, TX1, 2), (RX2, TX2, 1), (RX3, TX3, 3), (RX4, TX4, 5), (RX5, TX5, 3), (RX6, TX6, 6), (RX7, TX7, 2), (RX8, TX8, 12), (RX9, TX9, 38)]
end
section
theorem dX0_init_0 : decode cX0_init 0 = .ok (.aload_n 0, 1) := by decide +kernel
theorem dX0_init_1 : decode cX0_init 1 = .ok (.invokespecial 1, 3) := by decide +kernel
theorem dX0_init_4 : decode cX0_init 4 = .ok (.return_, 1) := by decide +kernel
theorem dX0_startCall_0 : decode cX0_startCall 0 = .ok (.aload_n 0, 1) := by decide +kernel
theorem dX0_startCall_1 : decode cX0_startCall 1 = .ok (.iconst 0, 1) := by decide +kernel
theorem dX0_startCall_2 : decode cX0_startCall 2 = .ok (.putfield 7, 3) := by decide +kernel
theorem dX0_startCall_5 : decode cX0_startCall 5 = .ok (.return_, 1) := by decide +kernel
theorem dX0_act_0 : decode cX0_act 0 = .ok (.aload_n 0, 1) := by decide +kernel
theorem dX0_act_1 : decode cX0_act 1 = .ok (.getfield 13, 3) := by decide +kernel
theorem dX0_act_4 : decode cX0_act 4 = .ok (.iconst 1, 1) := by decide +kernel
theorem dX0_act_5 : decode cX0_act 5 = .ok (.if_icmp .ne 15, 3) := by decide +kernel
theorem dX0_act_8 : decode cX0_act 8 = .ok (.aload_n 0, 1) := by decide +kernel
theorem dX0_act_9 : decode cX0_act 9 = .ok (.iconst 0, 1) := by decide +kernel
theorem dX0_act_10 : decode cX0_act 10 = .ok (.putfield 13, 3) := by decide +kernel
theorem dX0_act_13 : decode cX0_act 13 = .ok (.aload_n 0, 1) := by decide +kernel
theorem dX0_act_14 : decode cX0_act 14 = .ok (.iconst 1, 1) := by decide +kernel
theorem dX0_act_15 : decode cX0_act 15 = .ok (.putfield 16, 3) := by decide +kernel
theorem dX0_act_18 : decode cX0_act 18 = .ok (.iconst 0, 1) := by decide +kernel
theorem dX0_act_19 : decode cX0_act 19 = .ok (.ireturn, 1) := by decide +kernel
theorem dX0_act_20 : decode cX0_act 20 = .ok (.aload_n 0, 1) := by decide +kernel
theorem dX0_act_21 : decode cX0_act 21 = .ok (.getfield 13, 3) := by decide +kernel
theorem dX0_act_24 : decode cX0_act 24 = .ok (.ifCond .le 13, 3) := by decide +kernel
theorem dX0_act_27 : decode cX0_act 27 = .ok (.aload_n 0, 1) := by decide +kernel
theorem dX0_act_28 : decode cX0_act 28 = .ok (.dup, 1) := by decide +kernel
theorem dX0_act_29 : decode cX0_act 29 = .ok (.getfield 13, 3) := by decide +kernel
theorem dX0_act_32 : decode cX0_act 32 = .ok (.iconst 1, 1) := by decide +kernel
theorem dX0_act_33 : decode cX0_act 33 = .ok (.isub, 1) := by decide +kernel
theorem dX0_act_34 : decode cX0_act 34 = .ok (.putfield 13, 3) := by decide +kernel
theorem dX0_act_37 : decode cX0_act 37 = .ok (.aload_n 0, 1) := by decide +kernel
theorem dX0_act_38 : decode cX0_act 38 = .ok (.dup, 1) := by decide +kernel
theorem dX0_act_39 : decode cX0_act 39 = .ok (.getfield 20, 3) := by decide +kernel
theorem dX0_act_42 : decode cX0_act 42 = .ok (.iconst 1, 1) := by decide +kernel
theorem dX0_act_43 : decode cX0_act 43 = .ok (.iadd, 1) := by decide +kernel
theorem dX0_act_44 : decode cX0_act 44 = .ok (.putfield 20, 3) := by decide +kernel
theorem dX0_act_47 : decode cX0_act 47 = .ok (.aload_n 0, 1) := by decide +kernel
theorem dX0_act_48 : decode cX0_act 48 = .ok (.dup, 1) := by decide +kernel
theorem dX0_act_49 : decode cX0_act 49 = .ok (.getfield 7, 3) := by decide +kernel
theorem dX0_act_52 : decode cX0_act 52 = .ok (.iconst 1, 1) := by decide +kernel
theorem dX0_act_53 : decode cX0_act 53 = .ok (.iadd, 1) := by decide +kernel
theorem dX0_act_54 : decode cX0_act 54 = .ok (.putfield 7, 3) := by decide +kernel
theorem dX0_act_57 : decode cX0_act 57 = .ok (.iconst 1, 1) := by decide +kernel
theorem dX0_act_58 : decode cX0_act 58 = .ok (.ireturn, 1) := by decide +kernel
theorem dX0_actTimes_0 : decode cX0_actTimes 0 = .ok (.iconst 0, 1) := by decide +kernel
theorem dX0_actTimes_1 : decode cX0_actTimes 1 = .ok (.istore_n 2, 1) := by decide +kernel
theorem dX0_actTimes_2 : decode cX0_actTimes 2 = .ok (.iload_n 2, 1) := by decide +kernel
theorem dX0_actTimes_3 : decode cX0_actTimes 3 = .ok (.iload_n 1, 1) := by decide +kernel
theorem dX0_actTimes_4 : decode cX0_actTimes 4 = .ok (.if_icmp .ge 18, 3) := by decide +kernel
theorem dX0_actTimes_7 : decode cX0_actTimes 7 = .ok (.aload_n 0, 1) := by decide +kernel
theorem dX0_actTimes_8 : decode cX0_actTimes 8 = .ok (.invokevirtual 23, 3) := by decide +kernel
theorem dX0_actTimes_11 : decode cX0_actTimes 11 = .ok (.ifCond .ne 5, 3) := by decide +kernel
theorem dX0_actTimes_14 : decode cX0_actTimes 14 = .ok (.iconst 0, 1) := by decide +kernel
theorem dX0_actTimes_15 : decode cX0_actTimes 15 = .ok (.ireturn, 1) := by decide +kernel
theorem dX0_actTimes_16 : decode cX0_actTimes 16 = .ok (.iinc 2 1, 3) := by decide +kernel
theorem dX0_actTimes_19 : decode cX0_actTimes 19 = .ok (.goto (-17), 3) := by decide +kernel
theorem dX0_actTimes_22 : decode cX0_actTimes 22 = .ok (.iconst 1, 1) := by decide +kernel
theorem dX0_actTimes_23 : decode cX0_actTimes 23 = .ok (.ireturn, 1) := by decide +kernel
theorem dX0_carryOutNote_0 : decode cX0_carryOutNote 0 = .ok (.aload_n 0, 1) := by decide +kernel
theorem dX0_carryOutNote_1 : decode cX0_carryOutNote 1 = .ok (.iconst 1, 1) := by decide +kernel
theorem dX0_carryOutNote_2 : decode cX0_carryOutNote 2 = .ok (.putfield 27, 3) := by decide +kernel
theorem dX0_carryOutNote_5 : decode cX0_carryOutNote 5 = .ok (.aload_n 0, 1) := by decide +kernel
theorem dX0_carryOutNote_6 : decode cX0_carryOutNote 6 = .ok (.iconst 3, 1) := by decide +kernel
theorem dX0_carryOutNote_7 : decode cX0_carryOutNote 7 = .ok (.invokevirtual 30, 3) := by decide +kernel
theorem dX0_carryOutNote_10 : decode cX0_carryOutNote 10 = .ok (.ifCond .ne 5, 3) := by decide +kernel
theorem dX0_carryOutNote_13 : decode cX0_carryOutNote 13 = .ok (.iconst 0, 1) := by decide +kernel
theorem dX0_carryOutNote_14 : decode cX0_carryOutNote 14 = .ok (.ireturn, 1) := by decide +kernel
theorem dX0_carryOutNote_15 : decode cX0_carryOutNote 15 = .ok (.aload_n 0, 1) := by decide +kernel
theorem dX0_carryOutNote_16 : decode cX0_carryOutNote 16 = .ok (.iconst 0, 1) := by decide +kernel
theorem dX0_carryOutNote_17 : decode cX0_carryOutNote 17 = .ok (.putfield 27, 3) := by decide +kernel
theorem dX0_carryOutNote_20 : decode cX0_carryOutNote 20 = .ok (.iconst 1, 1) := by decide +kernel
theorem dX0_carryOutNote_21 : decode cX0_carryOutNote 21 = .ok (.ireturn, 1) := by decide +kernel
theorem dX1_init_0 : decode cX1_init 0 = .ok (.aload_n 0, 1) := by decide +kernel
theorem dX1_init_1 : decode cX1_init 1 = .ok (.invokespecial 3, 3) := by decide +kernel
theorem dX1_init_4 : decode cX1_init 4 = .ok (.aload_n 0, 1) := by decide +kernel
theorem dX1_init_5 : decode cX1_init 5 = .ok (.bipush 8, 2) := by decide +kernel
theorem dX1_init_7 : decode cX1_init 7 = .ok (.newarray .long, 2) := by decide +kernel
theorem dX1_init_9 : decode cX1_init 9 = .ok (.putfield 9, 3) := by decide +kernel
theorem dX1_init_12 : decode cX1_init 12 = .ok (.aload_n 0, 1) := by decide +kernel
theorem dX1_init_13 : decode cX1_init 13 = .ok (.new 15, 3) := by decide +kernel
theorem dX1_init_16 : decode cX1_init 16 = .ok (.dup, 1) := by decide +kernel
theorem dX1_init_17 : decode cX1_init 17 = .ok (.invokespecial 17, 3) := by decide +kernel
theorem dX1_init_20 : decode cX1_init 20 = .ok (.putfield 18, 3) := by decide +kernel
theorem dX1_init_23 : decode cX1_init 23 = .ok (.return_, 1) := by decide +kernel
theorem dX1_setCell_0 : decode cX1_setCell 0 = .ok (.aload_n 0, 1) := by decide +kernel
theorem dX1_setCell_1 : decode cX1_setCell 1 = .ok (.getfield 9, 3) := by decide +kernel
theorem dX1_setCell_4 : decode cX1_setCell 4 = .ok (.iload_n 1, 1) := by decide +kernel
theorem dX1_setCell_5 : decode cX1_setCell 5 = .ok (.lload_n 2, 1) := by decide +kernel
theorem dX1_setCell_6 : decode cX1_setCell 6 = .ok (.lastore, 1) := by decide +kernel
theorem dX1_setCell_7 : decode cX1_setCell 7 = .ok (.aload_n 0, 1) := by decide +kernel
theorem dX1_setCell_8 : decode cX1_setCell 8 = .ok (.getfield 18, 3) := by decide +kernel
theorem dX1_setCell_11 : decode cX1_setCell 11 = .ok (.iload_n 1, 1) := by decide +kernel
theorem dX1_setCell_12 : decode cX1_setCell 12 = .ok (.lconst 0, 1) := by decide +kernel
theorem dX1_setCell_13 : decode cX1_setCell 13 = .ok (.invokevirtual 22, 3) := by decide +kernel
theorem dX1_setCell_16 : decode cX1_setCell 16 = .ok (.return_, 1) := by decide +kernel
theorem dX1_addLetters_0 : decode cX1_addLetters 0 = .ok (.iconst 0, 1) := by decide +kernel
theorem dX1_addLetters_1 : decode cX1_addLetters 1 = .ok (.istore 4, 2) := by decide +kernel
theorem dX1_addLetters_3 : decode cX1_addLetters 3 = .ok (.iconst 0, 1) := by decide +kernel
theorem dX1_addLetters_4 : decode cX1_addLetters 4 = .ok (.istore 5, 2) := by decide +kernel
theorem dX1_addLetters_6 : decode cX1_addLetters 6 = .ok (.iload 5, 2) := by decide +kernel
theorem dX1_addLetters_8 : decode cX1_addLetters 8 = .ok (.bipush 64, 2) := by decide +kernel
theorem dX1_addLetters_10 : decode cX1_addLetters 10 = .ok (.if_icmp .ge 25, 3) := by decide +kernel
theorem dX1_addLetters_13 : decode cX1_addLetters 13 = .ok (.lload_n 2, 1) := by decide +kernel
theorem dX1_addLetters_14 : decode cX1_addLetters 14 = .ok (.iload 5, 2) := by decide +kernel
theorem dX1_addLetters_16 : decode cX1_addLetters 16 = .ok (.lushr, 1) := by decide +kernel
theorem dX1_addLetters_17 : decode cX1_addLetters 17 = .ok (.ldc2_w 26, 3) := by decide +kernel
theorem dX1_addLetters_20 : decode cX1_addLetters 20 = .ok (.land, 1) := by decide +kernel
theorem dX1_addLetters_21 : decode cX1_addLetters 21 = .ok (.lconst 0, 1) := by decide +kernel
theorem dX1_addLetters_22 : decode cX1_addLetters 22 = .ok (.lcmp, 1) := by decide +kernel
theorem dX1_addLetters_23 : decode cX1_addLetters 23 = .ok (.ifCond .eq 6, 3) := by decide +kernel
theorem dX1_addLetters_26 : decode cX1_addLetters 26 = .ok (.iinc 4 1, 3) := by decide +kernel
theorem dX1_addLetters_29 : decode cX1_addLetters 29 = .ok (.iinc 5 8, 3) := by decide +kernel
theorem dX1_addLetters_32 : decode cX1_addLetters 32 = .ok (.goto (-26), 3) := by decide +kernel
theorem dX1_addLetters_35 : decode cX1_addLetters 35 = .ok (.aload_n 0, 1) := by decide +kernel
theorem dX1_addLetters_36 : decode cX1_addLetters 36 = .ok (.iload_n 1, 1) := by decide +kernel
theorem dX1_addLetters_37 : decode cX1_addLetters 37 = .ok (.invokevirtual 28, 3) := by decide +kernel
theorem dX1_addLetters_40 : decode cX1_addLetters 40 = .ok (.iload 4, 2) := by decide +kernel
theorem dX1_addLetters_42 : decode cX1_addLetters 42 = .ok (.iadd, 1) := by decide +kernel
theorem dX1_addLetters_43 : decode cX1_addLetters 43 = .ok (.bipush 24, 2) := by decide +kernel
theorem dX1_addLetters_45 : decode cX1_addLetters 45 = .ok (.if_icmp .le 5, 3) := by decide +kernel
theorem dX1_addLetters_48 : decode cX1_addLetters 48 = .ok (.iconst 0, 1) := by decide +kernel
theorem dX1_addLetters_49 : decode cX1_addLetters 49 = .ok (.ireturn, 1) := by decide +kernel
theorem dX1_addLetters_50 : decode cX1_addLetters 50 = .ok (.aload_n 0, 1) := by decide +kernel
theorem dX1_addLetters_51 : decode cX1_addLetters 51 = .ok (.getfield 18, 3) := by decide +kernel
theorem dX1_addLetters_54 : decode cX1_addLetters 54 = .ok (.iload_n 1, 1) := by decide +kernel
theorem dX1_addLetters_55 : decode cX1_addLetters 55 = .ok (.lload_n 2, 1) := by decide +kernel
theorem dX1_addLetters_56 : decode cX1_addLetters 56 = .ok (.invokevirtual 32, 3) := by decide +kernel
theorem dX1_addLetters_59 : decode cX1_addLetters 59 = .ok (.iconst 1, 1) := by decide +kernel
theorem dX1_addLetters_60 : decode cX1_addLetters 60 = .ok (.ireturn, 1) := by decide +kernel
theorem dX1_letterCount_0 : decode cX1_letterCount 0 = .ok (.aload_n 0, 1) := by decide +kernel
theorem dX1_letterCount_1 : decode cX1_letterCount 1 = .ok (.getfield 18, 3) := by decide +kernel
theorem dX1_letterCount_4 : decode cX1_letterCount 4 = .ok (.iload_n 1, 1) := by decide +kernel
theorem dX1_letterCount_5 : decode cX1_letterCount 5 = .ok (.invokevirtual 35, 3) := by decide +kernel
theorem dX1_letterCount_8 : decode cX1_letterCount 8 = .ok (.l2i, 1) := by decide +kernel
theorem dX1_letterCount_9 : decode cX1_letterCount 9 = .ok (.ireturn, 1) := by decide +kernel
theorem dX1_putInto_0 : decode cX1_putInto 0 = .ok (.iconst 0, 1) := by decide +kernel
theorem dX1_putInto_1 : decode cX1_putInto 1 = .ok (.istore_n 3, 1) := by decide +kernel
theorem dX1_putInto_2 : decode cX1_putInto 2 = .ok (.iload_n 3, 1) := by decide +kernel
theorem dX1_putInto_3 : decode cX1_putInto 3 = .ok (.aload_n 2, 1) := by decide +kernel
theorem dX1_putInto_4 : decode cX1_putInto 4 = .ok (.getfield 39, 3) := by decide +kernel
theorem dX1_putInto_7 : decode cX1_putInto 7 = .ok (.if_icmp .ge 57, 3) := by decide +kernel
theorem dX1_putInto_10 : decode cX1_putInto 10 = .ok (.aload_n 2, 1) := by decide +kernel
theorem dX1_putInto_11 : decode cX1_putInto 11 = .ok (.getfield 45, 3) := by decide +kernel
theorem dX1_putInto_14 : decode cX1_putInto 14 = .ok (.iload_n 3, 1) := by decide +kernel
theorem dX1_putInto_15 : decode cX1_putInto 15 = .ok (.iaload, 1) := by decide +kernel
theorem dX1_putInto_16 : decode cX1_putInto 16 = .ok (.iconst 4, 1) := by decide +kernel
theorem dX1_putInto_17 : decode cX1_putInto 17 = .ok (.if_icmp .ne 24, 3) := by decide +kernel
theorem dX1_putInto_20 : decode cX1_putInto 20 = .ok (.aload_n 0, 1) := by decide +kernel
theorem dX1_putInto_21 : decode cX1_putInto 21 = .ok (.iload_n 3, 1) := by decide +kernel
theorem dX1_putInto_22 : decode cX1_putInto 22 = .ok (.invokevirtual 28, 3) := by decide +kernel
theorem dX1_putInto_25 : decode cX1_putInto 25 = .ok (.ifCond .le 16, 3) := by decide +kernel
theorem dX1_putInto_28 : decode cX1_putInto 28 = .ok (.aload_n 1, 1) := by decide +kernel
theorem dX1_putInto_29 : decode cX1_putInto 29 = .ok (.iload_n 3, 1) := by decide +kernel
theorem dX1_putInto_30 : decode cX1_putInto 30 = .ok (.aload_n 0, 1) := by decide +kernel
theorem dX1_putInto_31 : decode cX1_putInto 31 = .ok (.getfield 18, 3) := by decide +kernel
theorem dX1_putInto_34 : decode cX1_putInto 34 = .ok (.iload_n 3, 1) := by decide +kernel
theorem dX1_putInto_35 : decode cX1_putInto 35 = .ok (.invokevirtual 49, 3) := by decide +kernel
theorem dX1_putInto_38 : decode cX1_putInto 38 = .ok (.goto 20, 3) := by decide +kernel
theorem dX1_putInto_41 : decode cX1_putInto 41 = .ok (.aload_n 1, 1) := by decide +kernel
theorem dX1_putInto_42 : decode cX1_putInto 42 = .ok (.iload_n 3, 1) := by decide +kernel
theorem dX1_putInto_43 : decode cX1_putInto 43 = .ok (.aload_n 2, 1) := by decide +kernel
theorem dX1_putInto_44 : decode cX1_putInto 44 = .ok (.getfield 45, 3) := by decide +kernel
theorem dX1_putInto_47 : decode cX1_putInto 47 = .ok (.iload_n 3, 1) := by decide +kernel
theorem dX1_putInto_48 : decode cX1_putInto 48 = .ok (.iaload, 1) := by decide +kernel
theorem dX1_putInto_49 : decode cX1_putInto 49 = .ok (.aload_n 0, 1) := by decide +kernel
theorem dX1_putInto_50 : decode cX1_putInto 50 = .ok (.getfield 9, 3) := by decide +kernel
theorem dX1_putInto_53 : decode cX1_putInto 53 = .ok (.iload_n 3, 1) := by decide +kernel
theorem dX1_putInto_54 : decode cX1_putInto 54 = .ok (.laload, 1) := by decide +kernel
theorem dX1_putInto_55 : decode cX1_putInto 55 = .ok (.invokevirtual 53, 3) := by decide +kernel
theorem dX1_putInto_58 : decode cX1_putInto 58 = .ok (.iinc 3 1, 3) := by decide +kernel
theorem dX1_putInto_61 : decode cX1_putInto 61 = .ok (.goto (-59), 3) := by decide +kernel
theorem dX1_putInto_64 : decode cX1_putInto 64 = .ok (.return_, 1) := by decide +kernel
theorem dX2_init_0 : decode cX2_init 0 = .ok (.aload_n 0, 1) := by decide +kernel
theorem dX2_init_1 : decode cX2_init 1 = .ok (.invokespecial 3, 3) := by decide +kernel
theorem dX2_init_4 : decode cX2_init 4 = .ok (.aload_n 0, 1) := by decide +kernel
theorem dX2_init_5 : decode cX2_init 5 = .ok (.bipush 32, 2) := by decide +kernel
theorem dX2_init_7 : decode cX2_init 7 = .ok (.newarray .long, 2) := by decide +kernel
theorem dX2_init_9 : decode cX2_init 9 = .ok (.putfield 11, 3) := by decide +kernel
theorem dX2_init_12 : decode cX2_init 12 = .ok (.return_, 1) := by decide +kernel
theorem dX2_copyFrom_0 : decode cX2_copyFrom 0 = .ok (.aload_n 1, 1) := by decide +kernel
theorem dX2_copyFrom_1 : decode cX2_copyFrom 1 = .ok (.getfield 11, 3) := by decide +kernel
theorem dX2_copyFrom_4 : decode cX2_copyFrom 4 = .ok (.iconst 0, 1) := by decide +kernel
theorem dX2_copyFrom_5 : decode cX2_copyFrom 5 = .ok (.aload_n 0, 1) := by decide +kernel
theorem dX2_copyFrom_6 : decode cX2_copyFrom 6 = .ok (.getfield 11, 3) := by decide +kernel
theorem dX2_copyFrom_9 : decode cX2_copyFrom 9 = .ok (.iconst 0, 1) := by decide +kernel
theorem dX2_copyFrom_10 : decode cX2_copyFrom 10 = .ok (.aload_n 0, 1) := by decide +kernel
theorem dX2_copyFrom_11 : decode cX2_copyFrom 11 = .ok (.getfield 11, 3) := by decide +kernel
theorem dX2_copyFrom_14 : decode cX2_copyFrom 14 = .ok (.arraylength, 1) := by decide +kernel
theorem dX2_copyFrom_15 : decode cX2_copyFrom 15 = .ok (.invokestatic 15, 3) := by decide +kernel
theorem dX2_copyFrom_18 : decode cX2_copyFrom 18 = .ok (.return_, 1) := by decide +kernel
theorem dX2_copyValue_0 : decode cX2_copyValue 0 = .ok (.aload_n 2, 1) := by decide +kernel
theorem dX2_copyValue_1 : decode cX2_copyValue 1 = .ok (.getfield 11, 3) := by decide +kernel
theorem dX2_copyValue_4 : decode cX2_copyValue 4 = .ok (.iload_n 3, 1) := by decide +kernel
theorem dX2_copyValue_5 : decode cX2_copyValue 5 = .ok (.iconst 4, 1) := by decide +kernel
theorem dX2_copyValue_6 : decode cX2_copyValue 6 = .ok (.imul, 1) := by decide +kernel
theorem dX2_copyValue_7 : decode cX2_copyValue 7 = .ok (.aload_n 0, 1) := by decide +kernel
theorem dX2_copyValue_8 : decode cX2_copyValue 8 = .ok (.getfield 11, 3) := by decide +kernel
theorem dX2_copyValue_11 : decode cX2_copyValue 11 = .ok (.iload_n 1, 1) := by decide +kernel
theorem dX2_copyValue_12 : decode cX2_copyValue 12 = .ok (.iconst 4, 1) := by decide +kernel
theorem dX2_copyValue_13 : decode cX2_copyValue 13 = .ok (.imul, 1) := by decide +kernel
theorem dX2_copyValue_14 : decode cX2_copyValue 14 = .ok (.iconst 4, 1) := by decide +kernel
theorem dX2_copyValue_15 : decode cX2_copyValue 15 = .ok (.invokestatic 15, 3) := by decide +kernel
theorem dX2_copyValue_18 : decode cX2_copyValue 18 = .ok (.return_, 1) := by decide +kernel
theorem dX2_clearAll_0 : decode cX2_clearAll 0 = .ok (.iconst 0, 1) := by decide +kernel
theorem dX2_clearAll_1 : decode cX2_clearAll 1 = .ok (.istore_n 1, 1) := by decide +kernel
theorem dX2_clearAll_2 : decode cX2_clearAll 2 = .ok (.iload_n 1, 1) := by decide +kernel
theorem dX2_clearAll_3 : decode cX2_clearAll 3 = .ok (.bipush 8, 2) := by decide +kernel
theorem dX2_clearAll_5 : decode cX2_clearAll 5 = .ok (.if_icmp .ge 15, 3) := by decide +kernel
theorem dX2_clearAll_8 : decode cX2_clearAll 8 = .ok (.aload_n 0, 1) := by decide +kernel
theorem dX2_clearAll_9 : decode cX2_clearAll 9 = .ok (.iload_n 1, 1) := by decide +kernel
theorem dX2_clearAll_10 : decode cX2_clearAll 10 = .ok (.lconst 0, 1) := by decide +kernel
theorem dX2_clearAll_11 : decode cX2_clearAll 11 = .ok (.invokevirtual 21, 3) := by decide +kernel
theorem dX2_clearAll_14 : decode cX2_clearAll 14 = .ok (.iinc 1 1, 3) := by decide +kernel
theorem dX2_clearAll_17 : decode cX2_clearAll 17 = .ok (.goto (-15), 3) := by decide +kernel
theorem dX2_clearAll_20 : decode cX2_clearAll 20 = .ok (.return_, 1) := by decide +kernel
theorem dX2_takeValueOut_0 : decode cX2_takeValueOut 0 = .ok (.iload_n 1, 1) := by decide +kernel
theorem dX2_takeValueOut_1 : decode cX2_takeValueOut 1 = .ok (.iconst 1, 1) := by decide +kernel
theorem dX2_takeValueOut_2 : decode cX2_takeValueOut 2 = .ok (.iadd, 1) := by decide +kernel
theorem dX2_takeValueOut_3 : decode cX2_takeValueOut 3 = .ok (.iconst 4, 1) := by decide +kernel
theorem dX2_takeValueOut_4 : decode cX2_takeValueOut 4 = .ok (.imul, 1) := by decide +kernel
theorem dX2_takeValueOut_5 : decode cX2_takeValueOut 5 = .ok (.istore_n 2, 1) := by decide +kernel
theorem dX2_takeValueOut_6 : decode cX2_takeValueOut 6 = .ok (.aload_n 0, 1) := by decide +kernel
theorem dX2_takeValueOut_7 : decode cX2_takeValueOut 7 = .ok (.getfield 11, 3) := by decide +kernel
theorem dX2_takeValueOut_10 : decode cX2_takeValueOut 10 = .ok (.iload_n 2, 1) := by decide +kernel
theorem dX2_takeValueOut_11 : decode cX2_takeValueOut 11 = .ok (.aload_n 0, 1) := by decide +kernel
theorem dX2_takeValueOut_12 : decode cX2_takeValueOut 12 = .ok (.getfield 11, 3) := by decide +kernel
theorem dX2_takeValueOut_15 : decode cX2_takeValueOut 15 = .ok (.iload_n 1, 1) := by decide +kernel
theorem dX2_takeValueOut_16 : decode cX2_takeValueOut 16 = .ok (.iconst 4, 1) := by decide +kernel
theorem dX2_takeValueOut_17 : decode cX2_takeValueOut 17 = .ok (.imul, 1) := by decide +kernel
theorem dX2_takeValueOut_18 : decode cX2_takeValueOut 18 = .ok (.aload_n 0, 1) := by decide +kernel
theorem dX2_takeValueOut_19 : decode cX2_takeValueOut 19 = .ok (.getfield 11, 3) := by decide +kernel
theorem dX2_takeValueOut_22 : decode cX2_takeValueOut 22 = .ok (.arraylength, 1) := by decide +kernel
theorem dX2_takeValueOut_23 : decode cX2_takeValueOut 23 = .ok (.iload_n 2, 1) := by decide +kernel
theorem dX2_takeValueOut_24 : decode cX2_takeValueOut 24 = .ok (.isub, 1) := by decide +kernel
theorem dX2_takeValueOut_25 : decode cX2_takeValueOut 25 = .ok (.invokestatic 15, 3) := by decide +kernel
theorem dX2_takeValueOut_28 : decode cX2_takeValueOut 28 = .ok (.return_, 1) := by decide +kernel
theorem dX2_numberAt_0 : decode cX2_numberAt 0 = .ok (.aload_n 0, 1) := by decide +kernel
theorem dX2_numberAt_1 : decode cX2_numberAt 1 = .ok (.getfield 11, 3) := by decide +kernel
theorem dX2_numberAt_4 : decode cX2_numberAt 4 = .ok (.iload_n 1, 1) := by decide +kernel
theorem dX2_numberAt_5 : decode cX2_numberAt 5 = .ok (.iconst 4, 1) := by decide +kernel
theorem dX2_numberAt_6 : decode cX2_numberAt 6 = .ok (.imul, 1) := by decide +kernel
theorem dX2_numberAt_7 : decode cX2_numberAt 7 = .ok (.laload, 1) := by decide +kernel
theorem dX2_numberAt_8 : decode cX2_numberAt 8 = .ok (.lreturn, 1) := by decide +kernel
theorem dX2_setNumber_0 : decode cX2_setNumber 0 = .ok (.iload_n 1, 1) := by decide +kernel
theorem dX2_setNumber_1 : decode cX2_setNumber 1 = .ok (.iconst 4, 1) := by decide +kernel
theorem dX2_setNumber_2 : decode cX2_setNumber 2 = .ok (.imul, 1) := by decide +kernel
theorem dX2_setNumber_3 : decode cX2_setNumber 3 = .ok (.istore 4, 2) := by decide +kernel
theorem dX2_setNumber_5 : decode cX2_setNumber 5 = .ok (.aload_n 0, 1) := by decide +kernel
theorem dX2_setNumber_6 : decode cX2_setNumber 6 = .ok (.getfield 11, 3) := by decide +kernel
theorem dX2_setNumber_9 : decode cX2_setNumber 9 = .ok (.iload 4, 2) := by decide +kernel
theorem dX2_setNumber_11 : decode cX2_setNumber 11 = .ok (.lload_n 2, 1) := by decide +kernel
theorem dX2_setNumber_12 : decode cX2_setNumber 12 = .ok (.lastore, 1) := by decide +kernel
theorem dX2_setNumber_13 : decode cX2_setNumber 13 = .ok (.iconst 1, 1) := by decide +kernel
theorem dX2_setNumber_14 : decode cX2_setNumber 14 = .ok (.istore 5, 2) := by decide +kernel
theorem dX2_setNumber_16 : decode cX2_setNumber 16 = .ok (.iload 5, 2) := by decide +kernel
theorem dX2_setNumber_18 : decode cX2_setNumber 18 = .ok (.iconst 4, 1) := by decide +kernel
theorem dX2_setNumber_19 : decode cX2_setNumber 19 = .ok (.if_icmp .ge 20, 3) := by decide +kernel
theorem dX2_setNumber_22 : decode cX2_setNumber 22 = .ok (.aload_n 0, 1) := by decide +kernel
theorem dX2_setNumber_23 : decode cX2_setNumber 23 = .ok (.getfield 11, 3) := by decide +kernel
theorem dX2_setNumber_26 : decode cX2_setNumber 26 = .ok (.iload 4, 2) := by decide +kernel
theorem dX2_setNumber_28 : decode cX2_setNumber 28 = .ok (.iload 5, 2) := by decide +kernel
theorem dX2_setNumber_30 : decode cX2_setNumber 30 = .ok (.iadd, 1) := by decide +kernel
theorem dX2_setNumber_31 : decode cX2_setNumber 31 = .ok (.lconst 0, 1) := by decide +kernel
theorem dX2_setNumber_32 : decode cX2_setNumber 32 = .ok (.lastore, 1) := by decide +kernel
theorem dX2_setNumber_33 : decode cX2_setNumber 33 = .ok (.iinc 5 1, 3) := by decide +kernel
theorem dX2_setNumber_36 : decode cX2_setNumber 36 = .ok (.goto (-20), 3) := by decide +kernel
theorem dX2_setNumber_39 : decode cX2_setNumber 39 = .ok (.return_, 1) := by decide +kernel
theorem dX2_letterAt_0 : decode cX2_letterAt 0 = .ok (.aload_n 0, 1) := by decide +kernel
theorem dX2_letterAt_1 : decode cX2_letterAt 1 = .ok (.getfield 11, 3) := by decide +kernel
theorem dX2_letterAt_4 : decode cX2_letterAt 4 = .ok (.iload_n 1, 1) := by decide +kernel
theorem dX2_letterAt_5 : decode cX2_letterAt 5 = .ok (.iconst 4, 1) := by decide +kernel
theorem dX2_letterAt_6 : decode cX2_letterAt 6 = .ok (.imul, 1) := by decide +kernel
theorem dX2_letterAt_7 : decode cX2_letterAt 7 = .ok (.iconst 1, 1) := by decide +kernel
theorem dX2_letterAt_8 : decode cX2_letterAt 8 = .ok (.iadd, 1) := by decide +kernel
theorem dX2_letterAt_9 : decode cX2_letterAt 9 = .ok (.iload_n 2, 1) := by decide +kernel
theorem dX2_letterAt_10 : decode cX2_letterAt 10 = .ok (.bipush 8, 2) := by decide +kernel
theorem dX2_letterAt_12 : decode cX2_letterAt 12 = .ok (.idiv, 1) := by decide +kernel
theorem dX2_letterAt_13 : decode cX2_letterAt 13 = .ok (.iadd, 1) := by decide +kernel
theorem dX2_letterAt_14 : decode cX2_letterAt 14 = .ok (.laload, 1) := by decide +kernel
theorem dX2_letterAt_15 : decode cX2_letterAt 15 = .ok (.lstore_n 3, 1) := by decide +kernel
theorem dX2_letterAt_16 : decode cX2_letterAt 16 = .ok (.lload_n 3, 1) := by decide +kernel
theorem dX2_letterAt_17 : decode cX2_letterAt 17 = .ok (.bipush 8, 2) := by decide +kernel
theorem dX2_letterAt_19 : decode cX2_letterAt 19 = .ok (.iload_n 2, 1) := by decide +kernel
theorem dX2_letterAt_20 : decode cX2_letterAt 20 = .ok (.bipush 8, 2) := by decide +kernel
theorem dX2_letterAt_22 : decode cX2_letterAt 22 = .ok (.irem, 1) := by decide +kernel
theorem dX2_letterAt_23 : decode cX2_letterAt 23 = .ok (.imul, 1) := by decide +kernel
theorem dX2_letterAt_24 : decode cX2_letterAt 24 = .ok (.lushr, 1) := by decide +kernel
theorem dX2_letterAt_25 : decode cX2_letterAt 25 = .ok (.l2i, 1) := by decide +kernel
theorem dX2_letterAt_26 : decode cX2_letterAt 26 = .ok (.sipush 255, 3) := by decide +kernel
theorem dX2_letterAt_29 : decode cX2_letterAt 29 = .ok (.iand, 1) := by decide +kernel
theorem dX2_letterAt_30 : decode cX2_letterAt 30 = .ok (.ireturn, 1) := by decide +kernel
theorem dX2_appendLetter_0 : decode cX2_appendLetter 0 = .ok (.iload_n 1, 1) := by decide +kernel
theorem dX2_appendLetter_1 : decode cX2_appendLetter 1 = .ok (.iconst 4, 1) := by decide +kernel
theorem dX2_appendLetter_2 : decode cX2_appendLetter 2 = .ok (.imul, 1) := by decide +kernel
theorem dX2_appendLetter_3 : decode cX2_appendLetter 3 = .ok (.istore_n 3, 1) := by decide +kernel
theorem dX2_appendLetter_4 : decode cX2_appendLetter 4 = .ok (.aload_n 0, 1) := by decide +kernel
theorem dX2_appendLetter_5 : decode cX2_appendLetter 5 = .ok (.getfield 11, 3) := by decide +kernel
theorem dX2_appendLetter_8 : decode cX2_appendLetter 8 = .ok (.iload_n 3, 1) := by decide +kernel
theorem dX2_appendLetter_9 : decode cX2_appendLetter 9 = .ok (.laload, 1) := by decide +kernel
theorem dX2_appendLetter_10 : decode cX2_appendLetter 10 = .ok (.l2i, 1) := by decide +kernel
theorem dX2_appendLetter_11 : decode cX2_appendLetter 11 = .ok (.istore 4, 2) := by decide +kernel
theorem dX2_appendLetter_13 : decode cX2_appendLetter 13 = .ok (.iload 4, 2) := by decide +kernel
theorem dX2_appendLetter_15 : decode cX2_appendLetter 15 = .ok (.ifCond .lt 10, 3) := by decide +kernel
theorem dX2_appendLetter_18 : decode cX2_appendLetter 18 = .ok (.iload 4, 2) := by decide +kernel
theorem dX2_appendLetter_20 : decode cX2_appendLetter 20 = .ok (.bipush 24, 2) := by decide +kernel
theorem dX2_appendLetter_22 : decode cX2_appendLetter 22 = .ok (.if_icmp .lt 4, 3) := by decide +kernel
theorem dX2_appendLetter_25 : decode cX2_appendLetter 25 = .ok (.return_, 1) := by decide +kernel
theorem dX2_appendLetter_26 : decode cX2_appendLetter 26 = .ok (.aload_n 0, 1) := by decide +kernel
theorem dX2_appendLetter_27 : decode cX2_appendLetter 27 = .ok (.getfield 11, 3) := by decide +kernel
theorem dX2_appendLetter_30 : decode cX2_appendLetter 30 = .ok (.iload_n 3, 1) := by decide +kernel
theorem dX2_appendLetter_31 : decode cX2_appendLetter 31 = .ok (.iconst 1, 1) := by decide +kernel
theorem dX2_appendLetter_32 : decode cX2_appendLetter 32 = .ok (.iadd, 1) := by decide +kernel
theorem dX2_appendLetter_33 : decode cX2_appendLetter 33 = .ok (.iload 4, 2) := by decide +kernel
theorem dX2_appendLetter_35 : decode cX2_appendLetter 35 = .ok (.bipush 8, 2) := by decide +kernel
theorem dX2_appendLetter_37 : decode cX2_appendLetter 37 = .ok (.idiv, 1) := by decide +kernel
theorem dX2_appendLetter_38 : decode cX2_appendLetter 38 = .ok (.iadd, 1) := by decide +kernel
theorem dX2_appendLetter_39 : decode cX2_appendLetter 39 = .ok (.dup2, 1) := by decide +kernel
theorem dX2_appendLetter_40 : decode cX2_appendLetter 40 = .ok (.laload, 1) := by decide +kernel
theorem dX2_appendLetter_41 : decode cX2_appendLetter 41 = .ok (.iload_n 2, 1) := by decide +kernel
theorem dX2_appendLetter_42 : decode cX2_appendLetter 42 = .ok (.i2l, 1) := by decide +kernel
theorem dX2_appendLetter_43 : decode cX2_appendLetter 43 = .ok (.bipush 8, 2) := by decide +kernel
theorem dX2_appendLetter_45 : decode cX2_appendLetter 45 = .ok (.iload 4, 2) := by decide +kernel
theorem dX2_appendLetter_47 : decode cX2_appendLetter 47 = .ok (.bipush 8, 2) := by decide +kernel
theorem dX2_appendLetter_49 : decode cX2_appendLetter 49 = .ok (.irem, 1) := by decide +kernel
theorem dX2_appendLetter_50 : decode cX2_appendLetter 50 = .ok (.imul, 1) := by decide +kernel
theorem dX2_appendLetter_51 : decode cX2_appendLetter 51 = .ok (.lshl, 1) := by decide +kernel
theorem dX2_appendLetter_52 : decode cX2_appendLetter 52 = .ok (.lor, 1) := by decide +kernel
theorem dX2_appendLetter_53 : decode cX2_appendLetter 53 = .ok (.lastore, 1) := by decide +kernel
theorem dX2_appendLetter_54 : decode cX2_appendLetter 54 = .ok (.aload_n 0, 1) := by decide +kernel
theorem dX2_appendLetter_55 : decode cX2_appendLetter 55 = .ok (.getfield 11, 3) := by decide +kernel
theorem dX2_appendLetter_58 : decode cX2_appendLetter 58 = .ok (.iload_n 3, 1) := by decide +kernel
theorem dX2_appendLetter_59 : decode cX2_appendLetter 59 = .ok (.iload 4, 2) := by decide +kernel
theorem dX2_appendLetter_61 : decode cX2_appendLetter 61 = .ok (.iconst 1, 1) := by decide +kernel
theorem dX2_appendLetter_62 : decode cX2_appendLetter 62 = .ok (.iadd, 1) := by decide +kernel
theorem dX2_appendLetter_63 : decode cX2_appendLetter 63 = .ok (.i2l, 1) := by decide +kernel
theorem dX2_appendLetter_64 : decode cX2_appendLetter 64 = .ok (.lastore, 1) := by decide +kernel
theorem dX2_appendLetter_65 : decode cX2_appendLetter 65 = .ok (.return_, 1) := by decide +kernel
theorem dX2_appendLetters_0 : decode cX2_appendLetters 0 = .ok (.bipush 56, 2) := by decide +kernel
theorem dX2_appendLetters_2 : decode cX2_appendLetters 2 = .ok (.istore 4, 2) := by decide +kernel
theorem dX2_appendLetters_4 : decode cX2_appendLetters 4 = .ok (.iload 4, 2) := by decide +kernel
theorem dX2_appendLetters_6 : decode cX2_appendLetters 6 = .ok (.ifCond .lt 32, 3) := by decide +kernel
theorem dX2_appendLetters_9 : decode cX2_appendLetters 9 = .ok (.lload_n 2, 1) := by decide +kernel
theorem dX2_appendLetters_10 : decode cX2_appendLetters 10 = .ok (.iload 4, 2) := by decide +kernel
theorem dX2_appendLetters_12 : decode cX2_appendLetters 12 = .ok (.lushr, 1) := by decide +kernel
theorem dX2_appendLetters_13 : decode cX2_appendLetters 13 = .ok (.l2i, 1) := by decide +kernel
theorem dX2_appendLetters_14 : decode cX2_appendLetters 14 = .ok (.sipush 255, 3) := by decide +kernel
theorem dX2_appendLetters_17 : decode cX2_appendLetters 17 = .ok (.iand, 1) := by decide +kernel
theorem dX2_appendLetters_18 : decode cX2_appendLetters 18 = .ok (.istore 5, 2) := by decide +kernel
theorem dX2_appendLetters_20 : decode cX2_appendLetters 20 = .ok (.iload 5, 2) := by decide +kernel
theorem dX2_appendLetters_22 : decode cX2_appendLetters 22 = .ok (.ifCond .eq 10, 3) := by decide +kernel
theorem dX2_appendLetters_25 : decode cX2_appendLetters 25 = .ok (.aload_n 0, 1) := by decide +kernel
theorem dX2_appendLetters_26 : decode cX2_appendLetters 26 = .ok (.iload_n 1, 1) := by decide +kernel
theorem dX2_appendLetters_27 : decode cX2_appendLetters 27 = .ok (.iload 5, 2) := by decide +kernel
theorem dX2_appendLetters_29 : decode cX2_appendLetters 29 = .ok (.invokevirtual 25, 3) := by decide +kernel
theorem dX2_appendLetters_32 : decode cX2_appendLetters 32 = .ok (.iinc 4 (-8), 3) := by decide +kernel
theorem dX2_appendLetters_35 : decode cX2_appendLetters 35 = .ok (.goto (-31), 3) := by decide +kernel
theorem dX2_appendLetters_38 : decode cX2_appendLetters 38 = .ok (.return_, 1) := by decide +kernel
theorem dX2_setTold_0 : decode cX2_setTold 0 = .ok (.iload_n 2, 1) := by decide +kernel
theorem dX2_setTold_1 : decode cX2_setTold 1 = .ok (.tableswitch 74 0 3 #[31, 42, 54, 65], 31) := by decide +kernel
theorem dX2_setTold_32 : decode cX2_setTold 32 = .ok (.aload_n 0, 1) := by decide +kernel
theorem dX2_setTold_33 : decode cX2_setTold 33 = .ok (.iload_n 1, 1) := by decide +kernel
theorem dX2_setTold_34 : decode cX2_setTold 34 = .ok (.lload_n 3, 1) := by decide +kernel
theorem dX2_setTold_35 : decode cX2_setTold 35 = .ok (.lconst 1, 1) := by decide +kernel
theorem dX2_setTold_36 : decode cX2_setTold 36 = .ok (.land, 1) := by decide +kernel
theorem dX2_setTold_37 : decode cX2_setTold 37 = .ok (.invokevirtual 21, 3) := by decide +kernel
theorem dX2_setTold_40 : decode cX2_setTold 40 = .ok (.goto 47, 3) := by decide +kernel
theorem dX2_setTold_43 : decode cX2_setTold 43 = .ok (.aload_n 0, 1) := by decide +kernel
theorem dX2_setTold_44 : decode cX2_setTold 44 = .ok (.iload_n 1, 1) := by decide +kernel
theorem dX2_setTold_45 : decode cX2_setTold 45 = .ok (.lload_n 3, 1) := by decide +kernel
theorem dX2_setTold_46 : decode cX2_setTold 46 = .ok (.l2i, 1) := by decide +kernel
theorem dX2_setTold_47 : decode cX2_setTold 47 = .ok (.i2s, 1) := by decide +kernel
theorem dX2_setTold_48 : decode cX2_setTold 48 = .ok (.i2l, 1) := by decide +kernel
theorem dX2_setTold_49 : decode cX2_setTold 49 = .ok (.invokevirtual 21, 3) := by decide +kernel
theorem dX2_setTold_52 : decode cX2_setTold 52 = .ok (.goto 35, 3) := by decide +kernel
theorem dX2_setTold_55 : decode cX2_setTold 55 = .ok (.aload_n 0, 1) := by decide +kernel
theorem dX2_setTold_56 : decode cX2_setTold 56 = .ok (.iload_n 1, 1) := by decide +kernel
theorem dX2_setTold_57 : decode cX2_setTold 57 = .ok (.lload_n 3, 1) := by decide +kernel
theorem dX2_setTold_58 : decode cX2_setTold 58 = .ok (.l2i, 1) := by decide +kernel
theorem dX2_setTold_59 : decode cX2_setTold 59 = .ok (.i2l, 1) := by decide +kernel
theorem dX2_setTold_60 : decode cX2_setTold 60 = .ok (.invokevirtual 21, 3) := by decide +kernel
theorem dX2_setTold_63 : decode cX2_setTold 63 = .ok (.goto 24, 3) := by decide +kernel
theorem dX2_setTold_66 : decode cX2_setTold 66 = .ok (.aload_n 0, 1) := by decide +kernel
theorem dX2_setTold_67 : decode cX2_setTold 67 = .ok (.iload_n 1, 1) := by decide +kernel
theorem dX2_setTold_68 : decode cX2_setTold 68 = .ok (.lload_n 3, 1) := by decide +kernel
theorem dX2_setTold_69 : decode cX2_setTold 69 = .ok (.invokevirtual 21, 3) := by decide +kernel
theorem dX2_setTold_72 : decode cX2_setTold 72 = .ok (.goto 15, 3) := by decide +kernel
theorem dX2_setTold_75 : decode cX2_setTold 75 = .ok (.aload_n 0, 1) := by decide +kernel
theorem dX2_setTold_76 : decode cX2_setTold 76 = .ok (.iload_n 1, 1) := by decide +kernel
theorem dX2_setTold_77 : decode cX2_setTold 77 = .ok (.lconst 0, 1) := by decide +kernel
theorem dX2_setTold_78 : decode cX2_setTold 78 = .ok (.invokevirtual 21, 3) := by decide +kernel
theorem dX2_setTold_81 : decode cX2_setTold 81 = .ok (.aload_n 0, 1) := by decide +kernel
theorem dX2_setTold_82 : decode cX2_setTold 82 = .ok (.iload_n 1, 1) := by decide +kernel
theorem dX2_setTold_83 : decode cX2_setTold 83 = .ok (.lload_n 3, 1) := by decide +kernel
theorem dX2_setTold_84 : decode cX2_setTold 84 = .ok (.invokevirtual 29, 3) := by decide +kernel
theorem dX2_setTold_87 : decode cX2_setTold 87 = .ok (.return_, 1) := by decide +kernel
theorem dX2_become_0 : decode cX2_become 0 = .ok (.iload_n 2, 1) := by decide +kernel
theorem dX2_become_1 : decode cX2_become 1 = .ok (.iconst 4, 1) := by decide +kernel
theorem dX2_become_2 : decode cX2_become 2 = .ok (.if_icmp .ne 11, 3) := by decide +kernel
theorem dX2_become_5 : decode cX2_become 5 = .ok (.aload_n 0, 1) := by decide +kernel
theorem dX2_become_6 : decode cX2_become 6 = .ok (.iload_n 1, 1) := by decide +kernel
theorem dX2_become_7 : decode cX2_become 7 = .ok (.invokevirtual 32, 3) := by decide +kernel
theorem dX2_become_10 : decode cX2_become 10 = .ok (.goto 8, 3) := by decide +kernel
theorem dX2_become_13 : decode cX2_become 13 = .ok (.aload_n 0, 1) := by decide +kernel
theorem dX2_become_14 : decode cX2_become 14 = .ok (.iload_n 1, 1) := by decide +kernel
theorem dX2_become_15 : decode cX2_become 15 = .ok (.invokevirtual 36, 3) := by decide +kernel
theorem dX2_become_18 : decode cX2_become 18 = .ok (.lstore 4, 2) := by decide +kernel
theorem dX2_become_20 : decode cX2_become 20 = .ok (.iload_n 3, 1) := by decide +kernel
theorem dX2_become_21 : decode cX2_become 21 = .ok (.tableswitch 105 0 3 #[31, 51, 73, 95], 31) := by decide +kernel
theorem dX2_become_52 : decode cX2_become 52 = .ok (.aload_n 0, 1) := by decide +kernel
theorem dX2_become_53 : decode cX2_become 53 = .ok (.iload_n 1, 1) := by decide +kernel
theorem dX2_become_54 : decode cX2_become 54 = .ok (.lload 4, 2) := by decide +kernel
theorem dX2_become_56 : decode cX2_become 56 = .ok (.lconst 0, 1) := by decide +kernel
theorem dX2_become_57 : decode cX2_become 57 = .ok (.lcmp, 1) := by decide +kernel
theorem dX2_become_58 : decode cX2_become 58 = .ok (.ifCond .ne 7, 3) := by decide +kernel
theorem dX2_become_61 : decode cX2_become 61 = .ok (.lconst 0, 1) := by decide +kernel
theorem dX2_become_62 : decode cX2_become 62 = .ok (.goto 4, 3) := by decide +kernel
theorem dX2_become_65 : decode cX2_become 65 = .ok (.lconst 1, 1) := by decide +kernel
theorem dX2_become_66 : decode cX2_become 66 = .ok (.invokevirtual 21, 3) := by decide +kernel
theorem dX2_become_69 : decode cX2_become 69 = .ok (.goto 64, 3) := by decide +kernel
theorem dX2_become_72 : decode cX2_become 72 = .ok (.aload_n 0, 1) := by decide +kernel
theorem dX2_become_73 : decode cX2_become 73 = .ok (.iload_n 1, 1) := by decide +kernel
theorem dX2_become_74 : decode cX2_become 74 = .ok (.ldc2_w 39, 3) := by decide +kernel
theorem dX2_become_77 : decode cX2_become 77 = .ok (.ldc2_w 41, 3) := by decide +kernel
theorem dX2_become_80 : decode cX2_become 80 = .ok (.lload 4, 2) := by decide +kernel
theorem dX2_become_82 : decode cX2_become 82 = .ok (.invokestatic 43, 3) := by decide +kernel
theorem dX2_become_85 : decode cX2_become 85 = .ok (.invokestatic 49, 3) := by decide +kernel
theorem dX2_become_88 : decode cX2_become 88 = .ok (.invokevirtual 21, 3) := by decide +kernel
theorem dX2_become_91 : decode cX2_become 91 = .ok (.goto 42, 3) := by decide +kernel
theorem dX2_become_94 : decode cX2_become 94 = .ok (.aload_n 0, 1) := by decide +kernel
theorem dX2_become_95 : decode cX2_become 95 = .ok (.iload_n 1, 1) := by decide +kernel
theorem dX2_become_96 : decode cX2_become 96 = .ok (.ldc2_w 52, 3) := by decide +kernel
theorem dX2_become_99 : decode cX2_become 99 = .ok (.ldc2_w 54, 3) := by decide +kernel
theorem dX2_become_102 : decode cX2_become 102 = .ok (.lload 4, 2) := by decide +kernel
theorem dX2_become_104 : decode cX2_become 104 = .ok (.invokestatic 43, 3) := by decide +kernel
theorem dX2_become_107 : decode cX2_become 107 = .ok (.invokestatic 49, 3) := by decide +kernel
theorem dX2_become_110 : decode cX2_become 110 = .ok (.invokevirtual 21, 3) := by decide +kernel
theorem dX2_become_113 : decode cX2_become 113 = .ok (.goto 20, 3) := by decide +kernel
theorem dX2_become_116 : decode cX2_become 116 = .ok (.aload_n 0, 1) := by decide +kernel
theorem dX2_become_117 : decode cX2_become 117 = .ok (.iload_n 1, 1) := by decide +kernel
theorem dX2_become_118 : decode cX2_become 118 = .ok (.lload 4, 2) := by decide +kernel
theorem dX2_become_120 : decode cX2_become 120 = .ok (.invokevirtual 21, 3) := by decide +kernel
theorem dX2_become_123 : decode cX2_become 123 = .ok (.goto 10, 3) := by decide +kernel
theorem dX2_become_126 : decode cX2_become 126 = .ok (.aload_n 0, 1) := by decide +kernel
theorem dX2_become_127 : decode cX2_become 127 = .ok (.iload_n 1, 1) := by decide +kernel
theorem dX2_become_128 : decode cX2_become 128 = .ok (.lload 4, 2) := by decide +kernel
theorem dX2_become_130 : decode cX2_become 130 = .ok (.invokevirtual 56, 3) := by decide +kernel
theorem dX2_become_133 : decode cX2_become 133 = .ok (.return_, 1) := by decide +kernel
theorem dX2_numberTold_0 : decode cX2_numberTold 0 = .ok (.aload_n 0, 1) := by decide +kernel
theorem dX2_numberTold_1 : decode cX2_numberTold 1 = .ok (.iload_n 1, 1) := by decide +kernel
theorem dX2_numberTold_2 : decode cX2_numberTold 2 = .ok (.invokevirtual 36, 3) := by decide +kernel
theorem dX2_numberTold_5 : decode cX2_numberTold 5 = .ok (.l2i, 1) := by decide +kernel
theorem dX2_numberTold_6 : decode cX2_numberTold 6 = .ok (.istore_n 2, 1) := by decide +kernel
theorem dX2_numberTold_7 : decode cX2_numberTold 7 = .ok (.iload_n 2, 1) := by decide +kernel
theorem dX2_numberTold_8 : decode cX2_numberTold 8 = .ok (.ifCond .le 18, 3) := by decide +kernel
theorem dX2_numberTold_11 : decode cX2_numberTold 11 = .ok (.aload_n 0, 1) := by decide +kernel
theorem dX2_numberTold_12 : decode cX2_numberTold 12 = .ok (.iload_n 1, 1) := by decide +kernel
theorem dX2_numberTold_13 : decode cX2_numberTold 13 = .ok (.iconst 0, 1) := by decide +kernel
theorem dX2_numberTold_14 : decode cX2_numberTold 14 = .ok (.invokevirtual 59, 3) := by decide +kernel
theorem dX2_numberTold_17 : decode cX2_numberTold 17 = .ok (.bipush 45, 2) := by decide +kernel
theorem dX2_numberTold_19 : decode cX2_numberTold 19 = .ok (.if_icmp .ne 7, 3) := by decide +kernel
theorem dX2_numberTold_22 : decode cX2_numberTold 22 = .ok (.iconst 1, 1) := by decide +kernel
theorem dX2_numberTold_23 : decode cX2_numberTold 23 = .ok (.goto 4, 3) := by decide +kernel
theorem dX2_numberTold_26 : decode cX2_numberTold 26 = .ok (.iconst 0, 1) := by decide +kernel
theorem dX2_numberTold_27 : decode cX2_numberTold 27 = .ok (.istore_n 3, 1) := by decide +kernel
theorem dX2_numberTold_28 : decode cX2_numberTold 28 = .ok (.iload_n 2, 1) := by decide +kernel
theorem dX2_numberTold_29 : decode cX2_numberTold 29 = .ok (.iload_n 3, 1) := by decide +kernel
theorem dX2_numberTold_30 : decode cX2_numberTold 30 = .ok (.isub, 1) := by decide +kernel
theorem dX2_numberTold_31 : decode cX2_numberTold 31 = .ok (.iconst 1, 1) := by decide +kernel
theorem dX2_numberTold_32 : decode cX2_numberTold 32 = .ok (.if_icmp .lt 11, 3) := by decide +kernel
theorem dX2_numberTold_35 : decode cX2_numberTold 35 = .ok (.iload_n 2, 1) := by decide +kernel
theorem dX2_numberTold_36 : decode cX2_numberTold 36 = .ok (.iload_n 3, 1) := by decide +kernel
theorem dX2_numberTold_37 : decode cX2_numberTold 37 = .ok (.isub, 1) := by decide +kernel
theorem dX2_numberTold_38 : decode cX2_numberTold 38 = .ok (.bipush 18, 2) := by decide +kernel
theorem dX2_numberTold_40 : decode cX2_numberTold 40 = .ok (.if_icmp .le 5, 3) := by decide +kernel
theorem dX2_numberTold_43 : decode cX2_numberTold 43 = .ok (.lconst 0, 1) := by decide +kernel
theorem dX2_numberTold_44 : decode cX2_numberTold 44 = .ok (.lreturn, 1) := by decide +kernel
theorem dX2_numberTold_45 : decode cX2_numberTold 45 = .ok (.lconst 0, 1) := by decide +kernel
theorem dX2_numberTold_46 : decode cX2_numberTold 46 = .ok (.lstore 4, 2) := by decide +kernel
theorem dX2_numberTold_48 : decode cX2_numberTold 48 = .ok (.iload_n 3, 1) := by decide +kernel
theorem dX2_numberTold_49 : decode cX2_numberTold 49 = .ok (.istore 6, 2) := by decide +kernel
theorem dX2_numberTold_51 : decode cX2_numberTold 51 = .ok (.iload 6, 2) := by decide +kernel
theorem dX2_numberTold_53 : decode cX2_numberTold 53 = .ok (.iload_n 2, 1) := by decide +kernel
theorem dX2_numberTold_54 : decode cX2_numberTold 54 = .ok (.if_icmp .ge 49, 3) := by decide +kernel
theorem dX2_numberTold_57 : decode cX2_numberTold 57 = .ok (.aload_n 0, 1) := by decide +kernel
theorem dX2_numberTold_58 : decode cX2_numberTold 58 = .ok (.iload_n 1, 1) := by decide +kernel
theorem dX2_numberTold_59 : decode cX2_numberTold 59 = .ok (.iload 6, 2) := by decide +kernel
theorem dX2_numberTold_61 : decode cX2_numberTold 61 = .ok (.invokevirtual 59, 3) := by decide +kernel
theorem dX2_numberTold_64 : decode cX2_numberTold 64 = .ok (.istore 7, 2) := by decide +kernel
theorem dX2_numberTold_66 : decode cX2_numberTold 66 = .ok (.iload 7, 2) := by decide +kernel
theorem dX2_numberTold_68 : decode cX2_numberTold 68 = .ok (.bipush 48, 2) := by decide +kernel
theorem dX2_numberTold_70 : decode cX2_numberTold 70 = .ok (.if_icmp .lt 10, 3) := by decide +kernel
theorem dX2_numberTold_73 : decode cX2_numberTold 73 = .ok (.iload 7, 2) := by decide +kernel
theorem dX2_numberTold_75 : decode cX2_numberTold 75 = .ok (.bipush 57, 2) := by decide +kernel
theorem dX2_numberTold_77 : decode cX2_numberTold 77 = .ok (.if_icmp .le 5, 3) := by decide +kernel
theorem dX2_numberTold_80 : decode cX2_numberTold 80 = .ok (.lconst 0, 1) := by decide +kernel
theorem dX2_numberTold_81 : decode cX2_numberTold 81 = .ok (.lreturn, 1) := by decide +kernel
theorem dX2_numberTold_82 : decode cX2_numberTold 82 = .ok (.ldc2_w 63, 3) := by decide +kernel
theorem dX2_numberTold_85 : decode cX2_numberTold 85 = .ok (.lload 4, 2) := by decide +kernel
theorem dX2_numberTold_87 : decode cX2_numberTold 87 = .ok (.lmul, 1) := by decide +kernel
theorem dX2_numberTold_88 : decode cX2_numberTold 88 = .ok (.iload 7, 2) := by decide +kernel
theorem dX2_numberTold_90 : decode cX2_numberTold 90 = .ok (.bipush 48, 2) := by decide +kernel
theorem dX2_numberTold_92 : decode cX2_numberTold 92 = .ok (.isub, 1) := by decide +kernel
theorem dX2_numberTold_93 : decode cX2_numberTold 93 = .ok (.i2l, 1) := by decide +kernel
theorem dX2_numberTold_94 : decode cX2_numberTold 94 = .ok (.ladd, 1) := by decide +kernel
theorem dX2_numberTold_95 : decode cX2_numberTold 95 = .ok (.lstore 4, 2) := by decide +kernel
theorem dX2_numberTold_97 : decode cX2_numberTold 97 = .ok (.iinc 6 1, 3) := by decide +kernel
theorem dX2_numberTold_100 : decode cX2_numberTold 100 = .ok (.goto (-49), 3) := by decide +kernel
theorem dX2_numberTold_103 : decode cX2_numberTold 103 = .ok (.iload_n 3, 1) := by decide +kernel
theorem dX2_numberTold_104 : decode cX2_numberTold 104 = .ok (.iconst 1, 1) := by decide +kernel
theorem dX2_numberTold_105 : decode cX2_numberTold 105 = .ok (.if_icmp .ne 9, 3) := by decide +kernel
theorem dX2_numberTold_108 : decode cX2_numberTold 108 = .ok (.lload 4, 2) := by decide +kernel
theorem dX2_numberTold_110 : decode cX2_numberTold 110 = .ok (.lneg, 1) := by decide +kernel
theorem dX2_numberTold_111 : decode cX2_numberTold 111 = .ok (.goto 5, 3) := by decide +kernel
theorem dX2_numberTold_114 : decode cX2_numberTold 114 = .ok (.lload 4, 2) := by decide +kernel
theorem dX2_numberTold_116 : decode cX2_numberTold 116 = .ok (.lreturn, 1) := by decide +kernel
theorem dX2_setDigits_0 : decode cX2_setDigits 0 = .ok (.aload_n 0, 1) := by decide +kernel
theorem dX2_setDigits_1 : decode cX2_setDigits 1 = .ok (.iload_n 1, 1) := by decide +kernel
theorem dX2_setDigits_2 : decode cX2_setDigits 2 = .ok (.lconst 0, 1) := by decide +kernel
theorem dX2_setDigits_3 : decode cX2_setDigits 3 = .ok (.invokevirtual 21, 3) := by decide +kernel
theorem dX2_setDigits_6 : decode cX2_setDigits 6 = .ok (.lload_n 2, 1) := by decide +kernel
theorem dX2_setDigits_7 : decode cX2_setDigits 7 = .ok (.lconst 0, 1) := by decide +kernel
theorem dX2_setDigits_8 : decode cX2_setDigits 8 = .ok (.lcmp, 1) := by decide +kernel
theorem dX2_setDigits_9 : decode cX2_setDigits 9 = .ok (.ifCond .ge 10, 3) := by decide +kernel
theorem dX2_setDigits_12 : decode cX2_setDigits 12 = .ok (.aload_n 0, 1) := by decide +kernel
theorem dX2_setDigits_13 : decode cX2_setDigits 13 = .ok (.iload_n 1, 1) := by decide +kernel
theorem dX2_setDigits_14 : decode cX2_setDigits 14 = .ok (.bipush 45, 2) := by decide +kernel
theorem dX2_setDigits_16 : decode cX2_setDigits 16 = .ok (.invokevirtual 25, 3) := by decide +kernel
theorem dX2_setDigits_19 : decode cX2_setDigits 19 = .ok (.iconst 1, 1) := by decide +kernel
theorem dX2_setDigits_20 : decode cX2_setDigits 20 = .ok (.istore 4, 2) := by decide +kernel
theorem dX2_setDigits_22 : decode cX2_setDigits 22 = .ok (.ldc2_w 65, 3) := by decide +kernel
theorem dX2_setDigits_25 : decode cX2_setDigits 25 = .ok (.lstore 5, 2) := by decide +kernel
theorem dX2_setDigits_27 : decode cX2_setDigits 27 = .ok (.lload 5, 2) := by decide +kernel
theorem dX2_setDigits_29 : decode cX2_setDigits 29 = .ok (.lconst 0, 1) := by decide +kernel
theorem dX2_setDigits_30 : decode cX2_setDigits 30 = .ok (.lcmp, 1) := by decide +kernel
theorem dX2_setDigits_31 : decode cX2_setDigits 31 = .ok (.ifCond .le 67, 3) := by decide +kernel
theorem dX2_setDigits_34 : decode cX2_setDigits 34 = .ok (.lload_n 2, 1) := by decide +kernel
theorem dX2_setDigits_35 : decode cX2_setDigits 35 = .ok (.lload 5, 2) := by decide +kernel
theorem dX2_setDigits_37 : decode cX2_setDigits 37 = .ok (.ldiv, 1) := by decide +kernel
theorem dX2_setDigits_38 : decode cX2_setDigits 38 = .ok (.ldc2_w 63, 3) := by decide +kernel
theorem dX2_setDigits_41 : decode cX2_setDigits 41 = .ok (.lrem, 1) := by decide +kernel
theorem dX2_setDigits_42 : decode cX2_setDigits 42 = .ok (.invokestatic 67, 3) := by decide +kernel
theorem dX2_setDigits_45 : decode cX2_setDigits 45 = .ok (.l2i, 1) := by decide +kernel
theorem dX2_setDigits_46 : decode cX2_setDigits 46 = .ok (.istore 7, 2) := by decide +kernel
theorem dX2_setDigits_48 : decode cX2_setDigits 48 = .ok (.iload 4, 2) := by decide +kernel
theorem dX2_setDigits_50 : decode cX2_setDigits 50 = .ok (.ifCond .eq 19, 3) := by decide +kernel
theorem dX2_setDigits_53 : decode cX2_setDigits 53 = .ok (.iload 7, 2) := by decide +kernel
theorem dX2_setDigits_55 : decode cX2_setDigits 55 = .ok (.ifCond .ne 14, 3) := by decide +kernel
theorem dX2_setDigits_58 : decode cX2_setDigits 58 = .ok (.lload 5, 2) := by decide +kernel
theorem dX2_setDigits_60 : decode cX2_setDigits 60 = .ok (.lconst 1, 1) := by decide +kernel
theorem dX2_setDigits_61 : decode cX2_setDigits 61 = .ok (.lcmp, 1) := by decide +kernel
theorem dX2_setDigits_62 : decode cX2_setDigits 62 = .ok (.ifCond .le 7, 3) := by decide +kernel
theorem dX2_setDigits_65 : decode cX2_setDigits 65 = .ok (.iconst 1, 1) := by decide +kernel
theorem dX2_setDigits_66 : decode cX2_setDigits 66 = .ok (.goto 4, 3) := by decide +kernel
theorem dX2_setDigits_69 : decode cX2_setDigits 69 = .ok (.iconst 0, 1) := by decide +kernel
theorem dX2_setDigits_70 : decode cX2_setDigits 70 = .ok (.istore 4, 2) := by decide +kernel
theorem dX2_setDigits_72 : decode cX2_setDigits 72 = .ok (.iload 4, 2) := by decide +kernel
theorem dX2_setDigits_74 : decode cX2_setDigits 74 = .ok (.ifCond .ne 13, 3) := by decide +kernel
theorem dX2_setDigits_77 : decode cX2_setDigits 77 = .ok (.aload_n 0, 1) := by decide +kernel
theorem dX2_setDigits_78 : decode cX2_setDigits 78 = .ok (.iload_n 1, 1) := by decide +kernel
theorem dX2_setDigits_79 : decode cX2_setDigits 79 = .ok (.bipush 48, 2) := by decide +kernel
theorem dX2_setDigits_81 : decode cX2_setDigits 81 = .ok (.iload 7, 2) := by decide +kernel
theorem dX2_setDigits_83 : decode cX2_setDigits 83 = .ok (.iadd, 1) := by decide +kernel
theorem dX2_setDigits_84 : decode cX2_setDigits 84 = .ok (.invokevirtual 25, 3) := by decide +kernel
theorem dX2_setDigits_87 : decode cX2_setDigits 87 = .ok (.lload 5, 2) := by decide +kernel
theorem dX2_setDigits_89 : decode cX2_setDigits 89 = .ok (.ldc2_w 63, 3) := by decide +kernel
theorem dX2_setDigits_92 : decode cX2_setDigits 92 = .ok (.ldiv, 1) := by decide +kernel
theorem dX2_setDigits_93 : decode cX2_setDigits 93 = .ok (.lstore 5, 2) := by decide +kernel
theorem dX2_setDigits_95 : decode cX2_setDigits 95 = .ok (.goto (-68), 3) := by decide +kernel
theorem dX2_setDigits_98 : decode cX2_setDigits 98 = .ok (.return_, 1) := by decide +kernel
theorem dX3_init_0 : decode cX3_init 0 = .ok (.aload_n 0, 1) := by decide +kernel
theorem dX3_init_1 : decode cX3_init 1 = .ok (.invokespecial 3, 3) := by decide +kernel
theorem dX3_init_4 : decode cX3_init 4 = .ok (.aload_n 0, 1) := by decide +kernel
theorem dX3_init_5 : decode cX3_init 5 = .ok (.bipush 6, 2) := by decide +kernel
theorem dX3_init_7 : decode cX3_init 7 = .ok (.anewarray 9, 3) := by decide +kernel
theorem dX3_init_10 : decode cX3_init 10 = .ok (.putfield 11, 3) := by decide +kernel
theorem dX3_init_13 : decode cX3_init 13 = .ok (.aload_n 0, 1) := by decide +kernel
theorem dX3_init_14 : decode cX3_init 14 = .ok (.bipush 6, 2) := by decide +kernel
theorem dX3_init_16 : decode cX3_init 16 = .ok (.newarray .int, 2) := by decide +kernel
theorem dX3_init_18 : decode cX3_init 18 = .ok (.putfield 17, 3) := by decide +kernel
theorem dX3_init_21 : decode cX3_init 21 = .ok (.iconst 0, 1) := by decide +kernel
theorem dX3_init_22 : decode cX3_init 22 = .ok (.istore_n 1, 1) := by decide +kernel
theorem dX3_init_23 : decode cX3_init 23 = .ok (.iload_n 1, 1) := by decide +kernel
theorem dX3_init_24 : decode cX3_init 24 = .ok (.bipush 6, 2) := by decide +kernel
theorem dX3_init_26 : decode cX3_init 26 = .ok (.if_icmp .ge 22, 3) := by decide +kernel
theorem dX3_init_29 : decode cX3_init 29 = .ok (.aload_n 0, 1) := by decide +kernel
theorem dX3_init_30 : decode cX3_init 30 = .ok (.getfield 11, 3) := by decide +kernel
theorem dX3_init_33 : decode cX3_init 33 = .ok (.iload_n 1, 1) := by decide +kernel
theorem dX3_init_34 : decode cX3_init 34 = .ok (.new 9, 3) := by decide +kernel
theorem dX3_init_37 : decode cX3_init 37 = .ok (.dup, 1) := by decide +kernel
theorem dX3_init_38 : decode cX3_init 38 = .ok (.invokespecial 21, 3) := by decide +kernel
theorem dX3_init_41 : decode cX3_init 41 = .ok (.aastore, 1) := by decide +kernel
theorem dX3_init_42 : decode cX3_init 42 = .ok (.iinc 1 1, 3) := by decide +kernel
theorem dX3_init_45 : decode cX3_init 45 = .ok (.goto (-22), 3) := by decide +kernel
theorem dX3_init_48 : decode cX3_init 48 = .ok (.return_, 1) := by decide +kernel
theorem dX3_append_0 : decode cX3_append 0 = .ok (.aload_n 0, 1) := by decide +kernel
theorem dX3_append_1 : decode cX3_append 1 = .ok (.getfield 11, 3) := by decide +kernel
theorem dX3_append_4 : decode cX3_append 4 = .ok (.aload_n 0, 1) := by decide +kernel
theorem dX3_append_5 : decode cX3_append 5 = .ok (.getfield 22, 3) := by decide +kernel
theorem dX3_append_8 : decode cX3_append 8 = .ok (.aaload, 1) := by decide +kernel
theorem dX3_append_9 : decode cX3_append 9 = .ok (.astore 6, 2) := by decide +kernel
theorem dX3_append_11 : decode cX3_append 11 = .ok (.aload 6, 2) := by decide +kernel
theorem dX3_append_13 : decode cX3_append 13 = .ok (.iload_n 1, 1) := by decide +kernel
theorem dX3_append_14 : decode cX3_append 14 = .ok (.putfield 26, 3) := by decide +kernel
theorem dX3_append_17 : decode cX3_append 17 = .ok (.aload 6, 2) := by decide +kernel
theorem dX3_append_19 : decode cX3_append 19 = .ok (.iload_n 2, 1) := by decide +kernel
theorem dX3_append_20 : decode cX3_append 20 = .ok (.putfield 29, 3) := by decide +kernel
theorem dX3_append_23 : decode cX3_append 23 = .ok (.aload 6, 2) := by decide +kernel
theorem dX3_append_25 : decode cX3_append 25 = .ok (.iload_n 3, 1) := by decide +kernel
theorem dX3_append_26 : decode cX3_append 26 = .ok (.putfield 32, 3) := by decide +kernel
theorem dX3_append_29 : decode cX3_append 29 = .ok (.aload 6, 2) := by decide +kernel
theorem dX3_append_31 : decode cX3_append 31 = .ok (.lload 4, 2) := by decide +kernel
theorem dX3_append_33 : decode cX3_append 33 = .ok (.putfield 35, 3) := by decide +kernel
theorem dX3_append_36 : decode cX3_append 36 = .ok (.aload_n 0, 1) := by decide +kernel
theorem dX3_append_37 : decode cX3_append 37 = .ok (.dup, 1) := by decide +kernel
theorem dX3_append_38 : decode cX3_append 38 = .ok (.getfield 22, 3) := by decide +kernel
theorem dX3_append_41 : decode cX3_append 41 = .ok (.iconst 1, 1) := by decide +kernel
theorem dX3_append_42 : decode cX3_append 42 = .ok (.iadd, 1) := by decide +kernel
theorem dX3_append_43 : decode cX3_append 43 = .ok (.putfield 22, 3) := by decide +kernel
theorem dX3_append_46 : decode cX3_append 46 = .ok (.return_, 1) := by decide +kernel
theorem dX3_firstWrongStep_0 : decode cX3_firstWrongStep 0 = .ok (.aload_n 2, 1) := by decide +kernel
theorem dX3_firstWrongStep_1 : decode cX3_firstWrongStep 1 = .ok (.aload_n 1, 1) := by decide +kernel
theorem dX3_firstWrongStep_2 : decode cX3_firstWrongStep 2 = .ok (.invokevirtual 39, 3) := by decide +kernel
theorem dX3_firstWrongStep_5 : decode cX3_firstWrongStep 5 = .ok (.iconst 0, 1) := by decide +kernel
theorem dX3_firstWrongStep_6 : decode cX3_firstWrongStep 6 = .ok (.istore_n 3, 1) := by decide +kernel
theorem dX3_firstWrongStep_7 : decode cX3_firstWrongStep 7 = .ok (.iload_n 3, 1) := by decide +kernel
theorem dX3_firstWrongStep_8 : decode cX3_firstWrongStep 8 = .ok (.aload_n 0, 1) := by decide +kernel
theorem dX3_firstWrongStep_9 : decode cX3_firstWrongStep 9 = .ok (.getfield 22, 3) := by decide +kernel
theorem dX3_firstWrongStep_12 : decode cX3_firstWrongStep 12 = .ok (.if_icmp .ge 24, 3) := by decide +kernel
theorem dX3_firstWrongStep_15 : decode cX3_firstWrongStep 15 = .ok (.aload_n 2, 1) := by decide +kernel
theorem dX3_firstWrongStep_16 : decode cX3_firstWrongStep 16 = .ok (.aload_n 0, 1) := by decide +kernel
theorem dX3_firstWrongStep_17 : decode cX3_firstWrongStep 17 = .ok (.getfield 11, 3) := by decide +kernel
theorem dX3_firstWrongStep_20 : decode cX3_firstWrongStep 20 = .ok (.iload_n 3, 1) := by decide +kernel
theorem dX3_firstWrongStep_21 : decode cX3_firstWrongStep 21 = .ok (.aaload, 1) := by decide +kernel
theorem dX3_firstWrongStep_22 : decode cX3_firstWrongStep 22 = .ok (.invokevirtual 45, 3) := by decide +kernel
theorem dX3_firstWrongStep_25 : decode cX3_firstWrongStep 25 = .ok (.ifCond .ne 5, 3) := by decide +kernel
theorem dX3_firstWrongStep_28 : decode cX3_firstWrongStep 28 = .ok (.iload_n 3, 1) := by decide +kernel
theorem dX3_firstWrongStep_29 : decode cX3_firstWrongStep 29 = .ok (.ireturn, 1) := by decide +kernel
theorem dX3_firstWrongStep_30 : decode cX3_firstWrongStep 30 = .ok (.iinc 3 1, 3) := by decide +kernel
theorem dX3_firstWrongStep_33 : decode cX3_firstWrongStep 33 = .ok (.goto (-26), 3) := by decide +kernel
theorem dX3_firstWrongStep_36 : decode cX3_firstWrongStep 36 = .ok (.iconst (-1), 1) := by decide +kernel
theorem dX3_firstWrongStep_37 : decode cX3_firstWrongStep 37 = .ok (.ireturn, 1) := by decide +kernel
theorem dX3_makeUp_0 : decode cX3_makeUp 0 = .ok (.aload_n 2, 1) := by decide +kernel
theorem dX3_makeUp_1 : decode cX3_makeUp 1 = .ok (.aload_n 1, 1) := by decide +kernel
theorem dX3_makeUp_2 : decode cX3_makeUp 2 = .ok (.invokevirtual 49, 3) := by decide +kernel
theorem dX3_makeUp_5 : decode cX3_makeUp 5 = .ok (.iconst 0, 1) := by decide +kernel
theorem dX3_makeUp_6 : decode cX3_makeUp 6 = .ok (.istore_n 3, 1) := by decide +kernel
theorem dX3_makeUp_7 : decode cX3_makeUp 7 = .ok (.iload_n 3, 1) := by decide +kernel
theorem dX3_makeUp_8 : decode cX3_makeUp 8 = .ok (.aload_n 0, 1) := by decide +kernel
theorem dX3_makeUp_9 : decode cX3_makeUp 9 = .ok (.getfield 22, 3) := by decide +kernel
theorem dX3_makeUp_12 : decode cX3_makeUp 12 = .ok (.if_icmp .ge 19, 3) := by decide +kernel
theorem dX3_makeUp_15 : decode cX3_makeUp 15 = .ok (.aload_n 0, 1) := by decide +kernel
theorem dX3_makeUp_16 : decode cX3_makeUp 16 = .ok (.getfield 11, 3) := by decide +kernel
theorem dX3_makeUp_19 : decode cX3_makeUp 19 = .ok (.iload_n 3, 1) := by decide +kernel
theorem dX3_makeUp_20 : decode cX3_makeUp 20 = .ok (.aaload, 1) := by decide +kernel
theorem dX3_makeUp_21 : decode cX3_makeUp 21 = .ok (.aload_n 2, 1) := by decide +kernel
theorem dX3_makeUp_22 : decode cX3_makeUp 22 = .ok (.invokevirtual 54, 3) := by decide +kernel
theorem dX3_makeUp_25 : decode cX3_makeUp 25 = .ok (.iinc 3 1, 3) := by decide +kernel
theorem dX3_makeUp_28 : decode cX3_makeUp 28 = .ok (.goto (-21), 3) := by decide +kernel
theorem dX3_makeUp_31 : decode cX3_makeUp 31 = .ok (.return_, 1) := by decide +kernel
theorem dX3_makeDown_0 : decode cX3_makeDown 0 = .ok (.iconst 0, 1) := by decide +kernel
theorem dX3_makeDown_1 : decode cX3_makeDown 1 = .ok (.istore 4, 2) := by decide +kernel
theorem dX3_makeDown_3 : decode cX3_makeDown 3 = .ok (.iload 4, 2) := by decide +kernel
theorem dX3_makeDown_5 : decode cX3_makeDown 5 = .ok (.iload_n 3, 1) := by decide +kernel
theorem dX3_makeDown_6 : decode cX3_makeDown 6 = .ok (.if_icmp .ge 39, 3) := by decide +kernel
theorem dX3_makeDown_9 : decode cX3_makeDown 9 = .ok (.aload_n 0, 1) := by decide +kernel
theorem dX3_makeDown_10 : decode cX3_makeDown 10 = .ok (.iload 4, 2) := by decide +kernel
theorem dX3_makeDown_12 : decode cX3_makeDown 12 = .ok (.invokevirtual 57, 3) := by decide +kernel
theorem dX3_makeDown_15 : decode cX3_makeDown 15 = .ok (.istore 5, 2) := by decide +kernel
theorem dX3_makeDown_17 : decode cX3_makeDown 17 = .ok (.iload 5, 2) := by decide +kernel
theorem dX3_makeDown_19 : decode cX3_makeDown 19 = .ok (.iconst (-1), 1) := by decide +kernel
theorem dX3_makeDown_20 : decode cX3_makeDown 20 = .ok (.if_icmp .eq 19, 3) := by decide +kernel
theorem dX3_makeDown_23 : decode cX3_makeDown 23 = .ok (.aload_n 2, 1) := by decide +kernel
theorem dX3_makeDown_24 : decode cX3_makeDown 24 = .ok (.iload 4, 2) := by decide +kernel
theorem dX3_makeDown_26 : decode cX3_makeDown 26 = .ok (.aload_n 1, 1) := by decide +kernel
theorem dX3_makeDown_27 : decode cX3_makeDown 27 = .ok (.iload 5, 2) := by decide +kernel
theorem dX3_makeDown_29 : decode cX3_makeDown 29 = .ok (.invokevirtual 61, 3) := by decide +kernel
theorem dX3_makeDown_32 : decode cX3_makeDown 32 = .ok (.aload_n 0, 1) := by decide +kernel
theorem dX3_makeDown_33 : decode cX3_makeDown 33 = .ok (.aload_n 2, 1) := by decide +kernel
theorem dX3_makeDown_34 : decode cX3_makeDown 34 = .ok (.iload 4, 2) := by decide +kernel
theorem dX3_makeDown_36 : decode cX3_makeDown 36 = .ok (.invokevirtual 65, 3) := by decide +kernel
theorem dX3_makeDown_39 : decode cX3_makeDown 39 = .ok (.iinc 4 1, 3) := by decide +kernel
theorem dX3_makeDown_42 : decode cX3_makeDown 42 = .ok (.goto (-39), 3) := by decide +kernel
theorem dX3_makeDown_45 : decode cX3_makeDown 45 = .ok (.return_, 1) := by decide +kernel
theorem dX3_lastPlace_0 : decode cX3_lastPlace 0 = .ok (.iload_n 1, 1) := by decide +kernel
theorem dX3_lastPlace_1 : decode cX3_lastPlace 1 = .ok (.istore_n 2, 1) := by decide +kernel
theorem dX3_lastPlace_2 : decode cX3_lastPlace 2 = .ok (.iconst 0, 1) := by decide +kernel
theorem dX3_lastPlace_3 : decode cX3_lastPlace 3 = .ok (.istore_n 3, 1) := by decide +kernel
theorem dX3_lastPlace_4 : decode cX3_lastPlace 4 = .ok (.iload_n 3, 1) := by decide +kernel
theorem dX3_lastPlace_5 : decode cX3_lastPlace 5 = .ok (.aload_n 0, 1) := by decide +kernel
theorem dX3_lastPlace_6 : decode cX3_lastPlace 6 = .ok (.getfield 22, 3) := by decide +kernel
theorem dX3_lastPlace_9 : decode cX3_lastPlace 9 = .ok (.if_icmp .ge 32, 3) := by decide +kernel
theorem dX3_lastPlace_12 : decode cX3_lastPlace 12 = .ok (.iload_n 2, 1) := by decide +kernel
theorem dX3_lastPlace_13 : decode cX3_lastPlace 13 = .ok (.iconst (-1), 1) := by decide +kernel
theorem dX3_lastPlace_14 : decode cX3_lastPlace 14 = .ok (.if_icmp .eq 27, 3) := by decide +kernel
theorem dX3_lastPlace_17 : decode cX3_lastPlace 17 = .ok (.aload_n 0, 1) := by decide +kernel
theorem dX3_lastPlace_18 : decode cX3_lastPlace 18 = .ok (.getfield 17, 3) := by decide +kernel
theorem dX3_lastPlace_21 : decode cX3_lastPlace 21 = .ok (.iload_n 3, 1) := by decide +kernel
theorem dX3_lastPlace_22 : decode cX3_lastPlace 22 = .ok (.iload_n 2, 1) := by decide +kernel
theorem dX3_lastPlace_23 : decode cX3_lastPlace 23 = .ok (.iastore, 1) := by decide +kernel
theorem dX3_lastPlace_24 : decode cX3_lastPlace 24 = .ok (.aload_n 0, 1) := by decide +kernel
theorem dX3_lastPlace_25 : decode cX3_lastPlace 25 = .ok (.getfield 11, 3) := by decide +kernel
theorem dX3_lastPlace_28 : decode cX3_lastPlace 28 = .ok (.iload_n 3, 1) := by decide +kernel
theorem dX3_lastPlace_29 : decode cX3_lastPlace 29 = .ok (.aaload, 1) := by decide +kernel
theorem dX3_lastPlace_30 : decode cX3_lastPlace 30 = .ok (.iload_n 2, 1) := by decide +kernel
theorem dX3_lastPlace_31 : decode cX3_lastPlace 31 = .ok (.invokevirtual 69, 3) := by decide +kernel
theorem dX3_lastPlace_34 : decode cX3_lastPlace 34 = .ok (.istore_n 2, 1) := by decide +kernel
theorem dX3_lastPlace_35 : decode cX3_lastPlace 35 = .ok (.iinc 3 1, 3) := by decide +kernel
theorem dX3_lastPlace_38 : decode cX3_lastPlace 38 = .ok (.goto (-34), 3) := by decide +kernel
theorem dX3_lastPlace_41 : decode cX3_lastPlace 41 = .ok (.iload_n 2, 1) := by decide +kernel
theorem dX3_lastPlace_42 : decode cX3_lastPlace 42 = .ok (.ireturn, 1) := by decide +kernel
theorem dX3_makeBack_0 : decode cX3_makeBack 0 = .ok (.aload_n 0, 1) := by decide +kernel
theorem dX3_makeBack_1 : decode cX3_makeBack 1 = .ok (.getfield 22, 3) := by decide +kernel
theorem dX3_makeBack_4 : decode cX3_makeBack 4 = .ok (.iconst 1, 1) := by decide +kernel
theorem dX3_makeBack_5 : decode cX3_makeBack 5 = .ok (.isub, 1) := by decide +kernel
theorem dX3_makeBack_6 : decode cX3_makeBack 6 = .ok (.istore_n 3, 1) := by decide +kernel
theorem dX3_makeBack_7 : decode cX3_makeBack 7 = .ok (.iload_n 3, 1) := by decide +kernel
theorem dX3_makeBack_8 : decode cX3_makeBack 8 = .ok (.ifCond .lt 55, 3) := by decide +kernel
theorem dX3_makeBack_11 : decode cX3_makeBack 11 = .ok (.aload_n 0, 1) := by decide +kernel
theorem dX3_makeBack_12 : decode cX3_makeBack 12 = .ok (.getfield 11, 3) := by decide +kernel
theorem dX3_makeBack_15 : decode cX3_makeBack 15 = .ok (.iload_n 3, 1) := by decide +kernel
theorem dX3_makeBack_16 : decode cX3_makeBack 16 = .ok (.aaload, 1) := by decide +kernel
theorem dX3_makeBack_17 : decode cX3_makeBack 17 = .ok (.astore 4, 2) := by decide +kernel
theorem dX3_makeBack_19 : decode cX3_makeBack 19 = .ok (.aload 4, 2) := by decide +kernel
theorem dX3_makeBack_21 : decode cX3_makeBack 21 = .ok (.getfield 26, 3) := by decide +kernel
theorem dX3_makeBack_24 : decode cX3_makeBack 24 = .ok (.iconst 3, 1) := by decide +kernel
theorem dX3_makeBack_25 : decode cX3_makeBack 25 = .ok (.if_icmp .ne 32, 3) := by decide +kernel
theorem dX3_makeBack_28 : decode cX3_makeBack 28 = .ok (.aload 4, 2) := by decide +kernel
theorem dX3_makeBack_30 : decode cX3_makeBack 30 = .ok (.getfield 72, 3) := by decide +kernel
theorem dX3_makeBack_33 : decode cX3_makeBack 33 = .ok (.aload_n 0, 1) := by decide +kernel
theorem dX3_makeBack_34 : decode cX3_makeBack 34 = .ok (.getfield 17, 3) := by decide +kernel
theorem dX3_makeBack_37 : decode cX3_makeBack 37 = .ok (.iload_n 3, 1) := by decide +kernel
theorem dX3_makeBack_38 : decode cX3_makeBack 38 = .ok (.iaload, 1) := by decide +kernel
theorem dX3_makeBack_39 : decode cX3_makeBack 39 = .ok (.if_icmp .ne 18, 3) := by decide +kernel
theorem dX3_makeBack_42 : decode cX3_makeBack 42 = .ok (.aload_n 1, 1) := by decide +kernel
theorem dX3_makeBack_43 : decode cX3_makeBack 43 = .ok (.iload_n 2, 1) := by decide +kernel
theorem dX3_makeBack_44 : decode cX3_makeBack 44 = .ok (.aload 4, 2) := by decide +kernel
theorem dX3_makeBack_46 : decode cX3_makeBack 46 = .ok (.getfield 32, 3) := by decide +kernel
theorem dX3_makeBack_49 : decode cX3_makeBack 49 = .ok (.aload 4, 2) := by decide +kernel
theorem dX3_makeBack_51 : decode cX3_makeBack 51 = .ok (.getfield 75, 3) := by decide +kernel
theorem dX3_makeBack_54 : decode cX3_makeBack 54 = .ok (.invokevirtual 78, 3) := by decide +kernel
theorem dX3_makeBack_57 : decode cX3_makeBack 57 = .ok (.iinc 3 (-1), 3) := by decide +kernel
theorem dX3_makeBack_60 : decode cX3_makeBack 60 = .ok (.goto (-53), 3) := by decide +kernel
theorem dX3_makeBack_63 : decode cX3_makeBack 63 = .ok (.return_, 1) := by decide +kernel
theorem dX4_init_0 : decode cX4_init 0 = .ok (.aload_n 0, 1) := by decide +kernel
theorem dX4_init_1 : decode cX4_init 1 = .ok (.invokespecial 3, 3) := by decide +kernel
theorem dX4_init_4 : decode cX4_init 4 = .ok (.aload_n 0, 1) := by decide +kernel
theorem dX4_init_5 : decode cX4_init 5 = .ok (.new 9, 3) := by decide +kernel
theorem dX4_init_8 : decode cX4_init 8 = .ok (.dup, 1) := by decide +kernel
theorem dX4_init_9 : decode cX4_init 9 = .ok (.invokespecial 11, 3) := by decide +kernel
theorem dX4_init_12 : decode cX4_init 12 = .ok (.putfield 12, 3) := by decide +kernel
theorem dX4_init_15 : decode cX4_init 15 = .ok (.aload_n 0, 1) := by decide +kernel
theorem dX4_init_16 : decode cX4_init 16 = .ok (.new 9, 3) := by decide +kernel
theorem dX4_init_19 : decode cX4_init 19 = .ok (.dup, 1) := by decide +kernel
theorem dX4_init_20 : decode cX4_init 20 = .ok (.invokespecial 11, 3) := by decide +kernel
theorem dX4_init_23 : decode cX4_init 23 = .ok (.putfield 18, 3) := by decide +kernel
theorem dX4_init_26 : decode cX4_init 26 = .ok (.return_, 1) := by decide +kernel
theorem dX4_startUnder_0 : decode cX4_startUnder 0 = .ok (.aload_n 0, 1) := by decide +kernel
theorem dX4_startUnder_1 : decode cX4_startUnder 1 = .ok (.iload_n 1, 1) := by decide +kernel
theorem dX4_startUnder_2 : decode cX4_startUnder 2 = .ok (.putfield 21, 3) := by decide +kernel
theorem dX4_startUnder_5 : decode cX4_startUnder 5 = .ok (.aload_n 0, 1) := by decide +kernel
theorem dX4_startUnder_6 : decode cX4_startUnder 6 = .ok (.iconst 0, 1) := by decide +kernel
theorem dX4_startUnder_7 : decode cX4_startUnder 7 = .ok (.putfield 25, 3) := by decide +kernel
theorem dX4_startUnder_10 : decode cX4_startUnder 10 = .ok (.aload_n 0, 1) := by decide +kernel
theorem dX4_startUnder_11 : decode cX4_startUnder 11 = .ok (.getfield 12, 3) := by decide +kernel
theorem dX4_startUnder_14 : decode cX4_startUnder 14 = .ok (.invokevirtual 28, 3) := by decide +kernel
theorem dX4_startUnder_17 : decode cX4_startUnder 17 = .ok (.return_, 1) := by decide +kernel
theorem dX4_diskPlaces_0 : decode cX4_diskPlaces 0 = .ok (.aload_n 0, 1) := by decide +kernel
theorem dX4_diskPlaces_1 : decode cX4_diskPlaces 1 = .ok (.getfield 25, 3) := by decide +kernel
theorem dX4_diskPlaces_4 : decode cX4_diskPlaces 4 = .ok (.iconst 2, 1) := by decide +kernel
theorem dX4_diskPlaces_5 : decode cX4_diskPlaces 5 = .ok (.if_icmp .ne 7, 3) := by decide +kernel
theorem dX4_diskPlaces_8 : decode cX4_diskPlaces 8 = .ok (.iconst 2, 1) := by decide +kernel
theorem dX4_diskPlaces_9 : decode cX4_diskPlaces 9 = .ok (.goto 4, 3) := by decide +kernel
theorem dX4_diskPlaces_12 : decode cX4_diskPlaces 12 = .ok (.iconst 1, 1) := by decide +kernel
theorem dX4_diskPlaces_13 : decode cX4_diskPlaces 13 = .ok (.ireturn, 1) := by decide +kernel
theorem dX4_markWritten_0 : decode cX4_markWritten 0 = .ok (.aload_n 0, 1) := by decide +kernel
theorem dX4_markWritten_1 : decode cX4_markWritten 1 = .ok (.iconst 0, 1) := by decide +kernel
theorem dX4_markWritten_2 : decode cX4_markWritten 2 = .ok (.putfield 31, 3) := by decide +kernel
theorem dX4_markWritten_5 : decode cX4_markWritten 5 = .ok (.aload_n 0, 1) := by decide +kernel
theorem dX4_markWritten_6 : decode cX4_markWritten 6 = .ok (.getfield 25, 3) := by decide +kernel
theorem dX4_markWritten_9 : decode cX4_markWritten 9 = .ok (.iconst 1, 1) := by decide +kernel
theorem dX4_markWritten_10 : decode cX4_markWritten 10 = .ok (.if_icmp .ne 8, 3) := by decide +kernel
theorem dX4_markWritten_13 : decode cX4_markWritten 13 = .ok (.aload_n 0, 1) := by decide +kernel
theorem dX4_markWritten_14 : decode cX4_markWritten 14 = .ok (.iconst 0, 1) := by decide +kernel
theorem dX4_markWritten_15 : decode cX4_markWritten 15 = .ok (.putfield 25, 3) := by decide +kernel
theorem dX4_markWritten_18 : decode cX4_markWritten 18 = .ok (.return_, 1) := by decide +kernel
theorem dX4_markBegun_0 : decode cX4_markBegun 0 = .ok (.aload_n 0, 1) := by decide +kernel
theorem dX4_markBegun_1 : decode cX4_markBegun 1 = .ok (.aload_n 0, 1) := by decide +kernel
theorem dX4_markBegun_2 : decode cX4_markBegun 2 = .ok (.getfield 25, 3) := by decide +kernel
theorem dX4_markBegun_5 : decode cX4_markBegun 5 = .ok (.iconst 1, 1) := by decide +kernel
theorem dX4_markBegun_6 : decode cX4_markBegun 6 = .ok (.if_icmp .ne 7, 3) := by decide +kernel
theorem dX4_markBegun_9 : decode cX4_markBegun 9 = .ok (.iconst 1, 1) := by decide +kernel
theorem dX4_markBegun_10 : decode cX4_markBegun 10 = .ok (.goto 4, 3) := by decide +kernel
theorem dX4_markBegun_13 : decode cX4_markBegun 13 = .ok (.iconst 0, 1) := by decide +kernel
theorem dX4_markBegun_14 : decode cX4_markBegun 14 = .ok (.putfield 31, 3) := by decide +kernel
theorem dX4_markBegun_17 : decode cX4_markBegun 17 = .ok (.aload_n 0, 1) := by decide +kernel
theorem dX4_markBegun_18 : decode cX4_markBegun 18 = .ok (.iconst 1, 1) := by decide +kernel
theorem dX4_markBegun_19 : decode cX4_markBegun 19 = .ok (.putfield 25, 3) := by decide +kernel
theorem dX4_markBegun_22 : decode cX4_markBegun 22 = .ok (.return_, 1) := by decide +kernel
theorem dX4_keepFresh_0 : decode cX4_keepFresh 0 = .ok (.aload_n 0, 1) := by decide +kernel
theorem dX4_keepFresh_1 : decode cX4_keepFresh 1 = .ok (.getfield 12, 3) := by decide +kernel
theorem dX4_keepFresh_4 : decode cX4_keepFresh 4 = .ok (.astore_n 1, 1) := by decide +kernel
theorem dX4_keepFresh_5 : decode cX4_keepFresh 5 = .ok (.aload_n 0, 1) := by decide +kernel
theorem dX4_keepFresh_6 : decode cX4_keepFresh 6 = .ok (.aload_n 0, 1) := by decide +kernel
theorem dX4_keepFresh_7 : decode cX4_keepFresh 7 = .ok (.getfield 18, 3) := by decide +kernel
theorem dX4_keepFresh_10 : decode cX4_keepFresh 10 = .ok (.putfield 12, 3) := by decide +kernel
theorem dX4_keepFresh_13 : decode cX4_keepFresh 13 = .ok (.aload_n 0, 1) := by decide +kernel
theorem dX4_keepFresh_14 : decode cX4_keepFresh 14 = .ok (.aload_n 1, 1) := by decide +kernel
theorem dX4_keepFresh_15 : decode cX4_keepFresh 15 = .ok (.putfield 18, 3) := by decide +kernel
theorem dX4_keepFresh_18 : decode cX4_keepFresh 18 = .ok (.aload_n 0, 1) := by decide +kernel
theorem dX4_keepFresh_19 : decode cX4_keepFresh 19 = .ok (.aload_n 0, 1) := by decide +kernel
theorem dX4_keepFresh_20 : decode cX4_keepFresh 20 = .ok (.getfield 25, 3) := by decide +kernel
theorem dX4_keepFresh_23 : decode cX4_keepFresh 23 = .ok (.iconst 1, 1) := by decide +kernel
theorem dX4_keepFresh_24 : decode cX4_keepFresh 24 = .ok (.if_icmp .ne 7, 3) := by decide +kernel
theorem dX4_keepFresh_27 : decode cX4_keepFresh 27 = .ok (.iconst 1, 1) := by decide +kernel
theorem dX4_keepFresh_28 : decode cX4_keepFresh 28 = .ok (.goto 4, 3) := by decide +kernel
theorem dX4_keepFresh_31 : decode cX4_keepFresh 31 = .ok (.iconst 2, 1) := by decide +kernel
theorem dX4_keepFresh_32 : decode cX4_keepFresh 32 = .ok (.putfield 25, 3) := by decide +kernel
theorem dX4_keepFresh_35 : decode cX4_keepFresh 35 = .ok (.return_, 1) := by decide +kernel
theorem dX4_keepPrior_0 : decode cX4_keepPrior 0 = .ok (.aload_n 0, 1) := by decide +kernel
theorem dX4_keepPrior_1 : decode cX4_keepPrior 1 = .ok (.aload_n 0, 1) := by decide +kernel
theorem dX4_keepPrior_2 : decode cX4_keepPrior 2 = .ok (.getfield 31, 3) := by decide +kernel
theorem dX4_keepPrior_5 : decode cX4_keepPrior 5 = .ok (.ifCond .eq 7, 3) := by decide +kernel
theorem dX4_keepPrior_8 : decode cX4_keepPrior 8 = .ok (.iconst 1, 1) := by decide +kernel
theorem dX4_keepPrior_9 : decode cX4_keepPrior 9 = .ok (.goto 4, 3) := by decide +kernel
theorem dX4_keepPrior_12 : decode cX4_keepPrior 12 = .ok (.iconst 0, 1) := by decide +kernel
theorem dX4_keepPrior_13 : decode cX4_keepPrior 13 = .ok (.putfield 25, 3) := by decide +kernel
theorem dX4_keepPrior_16 : decode cX4_keepPrior 16 = .ok (.return_, 1) := by decide +kernel
theorem dX5_init_0 : decode cX5_init 0 = .ok (.aload_n 0, 1) := by decide +kernel
theorem dX5_init_1 : decode cX5_init 1 = .ok (.invokespecial 3, 3) := by decide +kernel
theorem dX5_init_4 : decode cX5_init 4 = .ok (.aload_n 0, 1) := by decide +kernel
theorem dX5_init_5 : decode cX5_init 5 = .ok (.bipush 8, 2) := by decide +kernel
theorem dX5_init_7 : decode cX5_init 7 = .ok (.newarray .int, 2) := by decide +kernel
theorem dX5_init_9 : decode cX5_init 9 = .ok (.putfield 9, 3) := by decide +kernel
theorem dX5_init_12 : decode cX5_init 12 = .ok (.aload_n 0, 1) := by decide +kernel
theorem dX5_init_13 : decode cX5_init 13 = .ok (.bipush 8, 2) := by decide +kernel
theorem dX5_init_15 : decode cX5_init 15 = .ok (.newarray .int, 2) := by decide +kernel
theorem dX5_init_17 : decode cX5_init 17 = .ok (.putfield 15, 3) := by decide +kernel
theorem dX5_init_20 : decode cX5_init 20 = .ok (.return_, 1) := by decide +kernel
theorem dX5_copyFrom_0 : decode cX5_copyFrom 0 = .ok (.aload_n 1, 1) := by decide +kernel
theorem dX5_copyFrom_1 : decode cX5_copyFrom 1 = .ok (.getfield 9, 3) := by decide +kernel
theorem dX5_copyFrom_4 : decode cX5_copyFrom 4 = .ok (.iconst 0, 1) := by decide +kernel
theorem dX5_copyFrom_5 : decode cX5_copyFrom 5 = .ok (.aload_n 0, 1) := by decide +kernel
theorem dX5_copyFrom_6 : decode cX5_copyFrom 6 = .ok (.getfield 9, 3) := by decide +kernel
theorem dX5_copyFrom_9 : decode cX5_copyFrom 9 = .ok (.iconst 0, 1) := by decide +kernel
theorem dX5_copyFrom_10 : decode cX5_copyFrom 10 = .ok (.bipush 8, 2) := by decide +kernel
theorem dX5_copyFrom_12 : decode cX5_copyFrom 12 = .ok (.invokestatic 18, 3) := by decide +kernel
theorem dX5_copyFrom_15 : decode cX5_copyFrom 15 = .ok (.aload_n 1, 1) := by decide +kernel
theorem dX5_copyFrom_16 : decode cX5_copyFrom 16 = .ok (.getfield 15, 3) := by decide +kernel
theorem dX5_copyFrom_19 : decode cX5_copyFrom 19 = .ok (.iconst 0, 1) := by decide +kernel
theorem dX5_copyFrom_20 : decode cX5_copyFrom 20 = .ok (.aload_n 0, 1) := by decide +kernel
theorem dX5_copyFrom_21 : decode cX5_copyFrom 21 = .ok (.getfield 15, 3) := by decide +kernel
theorem dX5_copyFrom_24 : decode cX5_copyFrom 24 = .ok (.iconst 0, 1) := by decide +kernel
theorem dX5_copyFrom_25 : decode cX5_copyFrom 25 = .ok (.bipush 8, 2) := by decide +kernel
theorem dX5_copyFrom_27 : decode cX5_copyFrom 27 = .ok (.invokestatic 18, 3) := by decide +kernel
theorem dX5_copyFrom_30 : decode cX5_copyFrom 30 = .ok (.aload_n 0, 1) := by decide +kernel
theorem dX5_copyFrom_31 : decode cX5_copyFrom 31 = .ok (.aload_n 1, 1) := by decide +kernel
theorem dX5_copyFrom_32 : decode cX5_copyFrom 32 = .ok (.getfield 24, 3) := by decide +kernel
theorem dX5_copyFrom_35 : decode cX5_copyFrom 35 = .ok (.putfield 24, 3) := by decide +kernel
theorem dX5_copyFrom_38 : decode cX5_copyFrom 38 = .ok (.return_, 1) := by decide +kernel
theorem dX5_change_0 : decode cX5_change 0 = .ok (.aload_n 0, 1) := by decide +kernel
theorem dX5_change_1 : decode cX5_change 1 = .ok (.aload_n 1, 1) := by decide +kernel
theorem dX5_change_2 : decode cX5_change 2 = .ok (.getfield 28, 3) := by decide +kernel
theorem dX5_change_5 : decode cX5_change 5 = .ok (.invokevirtual 33, 3) := by decide +kernel
theorem dX5_change_8 : decode cX5_change 8 = .ok (.istore_n 2, 1) := by decide +kernel
theorem dX5_change_9 : decode cX5_change 9 = .ok (.aload_n 1, 1) := by decide +kernel
theorem dX5_change_10 : decode cX5_change 10 = .ok (.getfield 37, 3) := by decide +kernel
theorem dX5_change_13 : decode cX5_change 13 = .ok (.ifCond .ne 21, 3) := by decide +kernel
theorem dX5_change_16 : decode cX5_change 16 = .ok (.iload_n 2, 1) := by decide +kernel
theorem dX5_change_17 : decode cX5_change 17 = .ok (.ifCond .ge 15, 3) := by decide +kernel
theorem dX5_change_20 : decode cX5_change 20 = .ok (.aload_n 0, 1) := by decide +kernel
theorem dX5_change_21 : decode cX5_change 21 = .ok (.aload_n 1, 1) := by decide +kernel
theorem dX5_change_22 : decode cX5_change 22 = .ok (.invokevirtual 40, 3) := by decide +kernel
theorem dX5_change_25 : decode cX5_change 25 = .ok (.ifCond .eq 7, 3) := by decide +kernel
theorem dX5_change_28 : decode cX5_change 28 = .ok (.iconst 1, 1) := by decide +kernel
theorem dX5_change_29 : decode cX5_change 29 = .ok (.goto 4, 3) := by decide +kernel
theorem dX5_change_32 : decode cX5_change 32 = .ok (.iconst 0, 1) := by decide +kernel
theorem dX5_change_33 : decode cX5_change 33 = .ok (.ireturn, 1) := by decide +kernel
theorem dX5_change_34 : decode cX5_change 34 = .ok (.iload_n 2, 1) := by decide +kernel
theorem dX5_change_35 : decode cX5_change 35 = .ok (.ifCond .ge 5, 3) := by decide +kernel
theorem dX5_change_38 : decode cX5_change 38 = .ok (.iconst 0, 1) := by decide +kernel
theorem dX5_change_39 : decode cX5_change 39 = .ok (.ireturn, 1) := by decide +kernel
theorem dX5_change_40 : decode cX5_change 40 = .ok (.aload_n 1, 1) := by decide +kernel
theorem dX5_change_41 : decode cX5_change 41 = .ok (.iload_n 2, 1) := by decide +kernel
theorem dX5_change_42 : decode cX5_change 42 = .ok (.putfield 44, 3) := by decide +kernel
theorem dX5_change_45 : decode cX5_change 45 = .ok (.aload_n 1, 1) := by decide +kernel
theorem dX5_change_46 : decode cX5_change 46 = .ok (.aload_n 0, 1) := by decide +kernel
theorem dX5_change_47 : decode cX5_change 47 = .ok (.getfield 15, 3) := by decide +kernel
theorem dX5_change_50 : decode cX5_change 50 = .ok (.iload_n 2, 1) := by decide +kernel
theorem dX5_change_51 : decode cX5_change 51 = .ok (.iaload, 1) := by decide +kernel
theorem dX5_change_52 : decode cX5_change 52 = .ok (.putfield 47, 3) := by decide +kernel
theorem dX5_change_55 : decode cX5_change 55 = .ok (.aload_n 1, 1) := by decide +kernel
theorem dX5_change_56 : decode cX5_change 56 = .ok (.getfield 37, 3) := by decide +kernel
theorem dX5_change_59 : decode cX5_change 59 = .ok (.lookupswitch 42 #[(1, 25), (2, 32)], 25) := by decide +kernel
theorem dX5_change_84 : decode cX5_change 84 = .ok (.aload_n 0, 1) := by decide +kernel
theorem dX5_change_85 : decode cX5_change 85 = .ok (.iload_n 2, 1) := by decide +kernel
theorem dX5_change_86 : decode cX5_change 86 = .ok (.invokevirtual 50, 3) := by decide +kernel
theorem dX5_change_89 : decode cX5_change 89 = .ok (.iconst 1, 1) := by decide +kernel
theorem dX5_change_90 : decode cX5_change 90 = .ok (.ireturn, 1) := by decide +kernel
theorem dX5_change_91 : decode cX5_change 91 = .ok (.aload_n 0, 1) := by decide +kernel
theorem dX5_change_92 : decode cX5_change 92 = .ok (.iload_n 2, 1) := by decide +kernel
theorem dX5_change_93 : decode cX5_change 93 = .ok (.aload_n 1, 1) := by decide +kernel
theorem dX5_change_94 : decode cX5_change 94 = .ok (.getfield 54, 3) := by decide +kernel
theorem dX5_change_97 : decode cX5_change 97 = .ok (.invokevirtual 57, 3) := by decide +kernel
theorem dX5_change_100 : decode cX5_change 100 = .ok (.ireturn, 1) := by decide +kernel
theorem dX5_change_101 : decode cX5_change 101 = .ok (.aload_n 0, 1) := by decide +kernel
theorem dX5_change_102 : decode cX5_change 102 = .ok (.iload_n 2, 1) := by decide +kernel
theorem dX5_change_103 : decode cX5_change 103 = .ok (.aload_n 1, 1) := by decide +kernel
theorem dX5_change_104 : decode cX5_change 104 = .ok (.getfield 54, 3) := by decide +kernel
theorem dX5_change_107 : decode cX5_change 107 = .ok (.invokevirtual 61, 3) := by decide +kernel
theorem dX5_change_110 : decode cX5_change 110 = .ok (.ireturn, 1) := by decide +kernel
theorem dX5_placeOf_0 : decode cX5_placeOf 0 = .ok (.iconst 0, 1) := by decide +kernel
theorem dX5_placeOf_1 : decode cX5_placeOf 1 = .ok (.istore_n 2, 1) := by decide +kernel
theorem dX5_placeOf_2 : decode cX5_placeOf 2 = .ok (.iload_n 2, 1) := by decide +kernel
theorem dX5_placeOf_3 : decode cX5_placeOf 3 = .ok (.aload_n 0, 1) := by decide +kernel
theorem dX5_placeOf_4 : decode cX5_placeOf 4 = .ok (.getfield 24, 3) := by decide +kernel
theorem dX5_placeOf_7 : decode cX5_placeOf 7 = .ok (.if_icmp .ge 21, 3) := by decide +kernel
theorem dX5_placeOf_10 : decode cX5_placeOf 10 = .ok (.aload_n 0, 1) := by decide +kernel
theorem dX5_placeOf_11 : decode cX5_placeOf 11 = .ok (.getfield 9, 3) := by decide +kernel
theorem dX5_placeOf_14 : decode cX5_placeOf 14 = .ok (.iload_n 2, 1) := by decide +kernel
theorem dX5_placeOf_15 : decode cX5_placeOf 15 = .ok (.iaload, 1) := by decide +kernel
theorem dX5_placeOf_16 : decode cX5_placeOf 16 = .ok (.iload_n 1, 1) := by decide +kernel
theorem dX5_placeOf_17 : decode cX5_placeOf 17 = .ok (.if_icmp .ne 5, 3) := by decide +kernel
theorem dX5_placeOf_20 : decode cX5_placeOf 20 = .ok (.iload_n 2, 1) := by decide +kernel
theorem dX5_placeOf_21 : decode cX5_placeOf 21 = .ok (.ireturn, 1) := by decide +kernel
theorem dX5_placeOf_22 : decode cX5_placeOf 22 = .ok (.iinc 2 1, 3) := by decide +kernel
theorem dX5_placeOf_25 : decode cX5_placeOf 25 = .ok (.goto (-23), 3) := by decide +kernel
theorem dX5_placeOf_28 : decode cX5_placeOf 28 = .ok (.iconst (-1), 1) := by decide +kernel
theorem dX5_placeOf_29 : decode cX5_placeOf 29 = .ok (.ireturn, 1) := by decide +kernel
theorem dX5_addColumn_0 : decode cX5_addColumn 0 = .ok (.aload_n 0, 1) := by decide +kernel
theorem dX5_addColumn_1 : decode cX5_addColumn 1 = .ok (.getfield 24, 3) := by decide +kernel
theorem dX5_addColumn_4 : decode cX5_addColumn 4 = .ok (.bipush 8, 2) := by decide +kernel
theorem dX5_addColumn_6 : decode cX5_addColumn 6 = .ok (.if_icmp .lt 5, 3) := by decide +kernel
theorem dX5_addColumn_9 : decode cX5_addColumn 9 = .ok (.iconst 0, 1) := by decide +kernel
theorem dX5_addColumn_10 : decode cX5_addColumn 10 = .ok (.ireturn, 1) := by decide +kernel
theorem dX5_addColumn_11 : decode cX5_addColumn 11 = .ok (.aload_n 1, 1) := by decide +kernel
theorem dX5_addColumn_12 : decode cX5_addColumn 12 = .ok (.aload_n 0, 1) := by decide +kernel
theorem dX5_addColumn_13 : decode cX5_addColumn 13 = .ok (.getfield 24, 3) := by decide +kernel
theorem dX5_addColumn_16 : decode cX5_addColumn 16 = .ok (.putfield 44, 3) := by decide +kernel
theorem dX5_addColumn_19 : decode cX5_addColumn 19 = .ok (.aload_n 0, 1) := by decide +kernel
theorem dX5_addColumn_20 : decode cX5_addColumn 20 = .ok (.getfield 9, 3) := by decide +kernel
theorem dX5_addColumn_23 : decode cX5_addColumn 23 = .ok (.aload_n 0, 1) := by decide +kernel
theorem dX5_addColumn_24 : decode cX5_addColumn 24 = .ok (.getfield 24, 3) := by decide +kernel
theorem dX5_addColumn_27 : decode cX5_addColumn 27 = .ok (.aload_n 1, 1) := by decide +kernel
theorem dX5_addColumn_28 : decode cX5_addColumn 28 = .ok (.getfield 28, 3) := by decide +kernel
theorem dX5_addColumn_31 : decode cX5_addColumn 31 = .ok (.iastore, 1) := by decide +kernel
theorem dX5_addColumn_32 : decode cX5_addColumn 32 = .ok (.aload_n 0, 1) := by decide +kernel
theorem dX5_addColumn_33 : decode cX5_addColumn 33 = .ok (.getfield 15, 3) := by decide +kernel
theorem dX5_addColumn_36 : decode cX5_addColumn 36 = .ok (.aload_n 0, 1) := by decide +kernel
theorem dX5_addColumn_37 : decode cX5_addColumn 37 = .ok (.getfield 24, 3) := by decide +kernel
theorem dX5_addColumn_40 : decode cX5_addColumn 40 = .ok (.aload_n 1, 1) := by decide +kernel
theorem dX5_addColumn_41 : decode cX5_addColumn 41 = .ok (.getfield 54, 3) := by decide +kernel
theorem dX5_addColumn_44 : decode cX5_addColumn 44 = .ok (.iastore, 1) := by decide +kernel
theorem dX5_addColumn_45 : decode cX5_addColumn 45 = .ok (.aload_n 0, 1) := by decide +kernel
theorem dX5_addColumn_46 : decode cX5_addColumn 46 = .ok (.dup, 1) := by decide +kernel
theorem dX5_addColumn_47 : decode cX5_addColumn 47 = .ok (.getfield 24, 3) := by decide +kernel
theorem dX5_addColumn_50 : decode cX5_addColumn 50 = .ok (.iconst 1, 1) := by decide +kernel
theorem dX5_addColumn_51 : decode cX5_addColumn 51 = .ok (.iadd, 1) := by decide +kernel
theorem dX5_addColumn_52 : decode cX5_addColumn 52 = .ok (.putfield 24, 3) := by decide +kernel
theorem dX5_addColumn_55 : decode cX5_addColumn 55 = .ok (.iconst 1, 1) := by decide +kernel
theorem dX5_addColumn_56 : decode cX5_addColumn 56 = .ok (.ireturn, 1) := by decide +kernel
theorem dX5_dropColumn_0 : decode cX5_dropColumn 0 = .ok (.aload_n 0, 1) := by decide +kernel
theorem dX5_dropColumn_1 : decode cX5_dropColumn 1 = .ok (.getfield 24, 3) := by decide +kernel
theorem dX5_dropColumn_4 : decode cX5_dropColumn 4 = .ok (.iload_n 1, 1) := by decide +kernel
theorem dX5_dropColumn_5 : decode cX5_dropColumn 5 = .ok (.isub, 1) := by decide +kernel
theorem dX5_dropColumn_6 : decode cX5_dropColumn 6 = .ok (.iconst 1, 1) := by decide +kernel
theorem dX5_dropColumn_7 : decode cX5_dropColumn 7 = .ok (.isub, 1) := by decide +kernel
theorem dX5_dropColumn_8 : decode cX5_dropColumn 8 = .ok (.istore_n 2, 1) := by decide +kernel
theorem dX5_dropColumn_9 : decode cX5_dropColumn 9 = .ok (.aload_n 0, 1) := by decide +kernel
theorem dX5_dropColumn_10 : decode cX5_dropColumn 10 = .ok (.getfield 9, 3) := by decide +kernel
theorem dX5_dropColumn_13 : decode cX5_dropColumn 13 = .ok (.iload_n 1, 1) := by decide +kernel
theorem dX5_dropColumn_14 : decode cX5_dropColumn 14 = .ok (.iconst 1, 1) := by decide +kernel
theorem dX5_dropColumn_15 : decode cX5_dropColumn 15 = .ok (.iadd, 1) := by decide +kernel
theorem dX5_dropColumn_16 : decode cX5_dropColumn 16 = .ok (.aload_n 0, 1) := by decide +kernel
theorem dX5_dropColumn_17 : decode cX5_dropColumn 17 = .ok (.getfield 9, 3) := by decide +kernel
theorem dX5_dropColumn_20 : decode cX5_dropColumn 20 = .ok (.iload_n 1, 1) := by decide +kernel
theorem dX5_dropColumn_21 : decode cX5_dropColumn 21 = .ok (.iload_n 2, 1) := by decide +kernel
theorem dX5_dropColumn_22 : decode cX5_dropColumn 22 = .ok (.invokestatic 18, 3) := by decide +kernel
theorem dX5_dropColumn_25 : decode cX5_dropColumn 25 = .ok (.aload_n 0, 1) := by decide +kernel
theorem dX5_dropColumn_26 : decode cX5_dropColumn 26 = .ok (.getfield 15, 3) := by decide +kernel
theorem dX5_dropColumn_29 : decode cX5_dropColumn 29 = .ok (.iload_n 1, 1) := by decide +kernel
theorem dX5_dropColumn_30 : decode cX5_dropColumn 30 = .ok (.iconst 1, 1) := by decide +kernel
theorem dX5_dropColumn_31 : decode cX5_dropColumn 31 = .ok (.iadd, 1) := by decide +kernel
theorem dX5_dropColumn_32 : decode cX5_dropColumn 32 = .ok (.aload_n 0, 1) := by decide +kernel
theorem dX5_dropColumn_33 : decode cX5_dropColumn 33 = .ok (.getfield 15, 3) := by decide +kernel
theorem dX5_dropColumn_36 : decode cX5_dropColumn 36 = .ok (.iload_n 1, 1) := by decide +kernel
theorem dX5_dropColumn_37 : decode cX5_dropColumn 37 = .ok (.iload_n 2, 1) := by decide +kernel
theorem dX5_dropColumn_38 : decode cX5_dropColumn 38 = .ok (.invokestatic 18, 3) := by decide +kernel
theorem dX5_dropColumn_41 : decode cX5_dropColumn 41 = .ok (.aload_n 0, 1) := by decide +kernel
theorem dX5_dropColumn_42 : decode cX5_dropColumn 42 = .ok (.dup, 1) := by decide +kernel
theorem dX5_dropColumn_43 : decode cX5_dropColumn 43 = .ok (.getfield 24, 3) := by decide +kernel
theorem dX5_dropColumn_46 : decode cX5_dropColumn 46 = .ok (.iconst 1, 1) := by decide +kernel
theorem dX5_dropColumn_47 : decode cX5_dropColumn 47 = .ok (.isub, 1) := by decide +kernel
theorem dX5_dropColumn_48 : decode cX5_dropColumn 48 = .ok (.putfield 24, 3) := by decide +kernel
theorem dX5_dropColumn_51 : decode cX5_dropColumn 51 = .ok (.return_, 1) := by decide +kernel
theorem dX5_renameColumn_0 : decode cX5_renameColumn 0 = .ok (.aload_n 0, 1) := by decide +kernel
theorem dX5_renameColumn_1 : decode cX5_renameColumn 1 = .ok (.iload_n 2, 1) := by decide +kernel
theorem dX5_renameColumn_2 : decode cX5_renameColumn 2 = .ok (.invokevirtual 33, 3) := by decide +kernel
theorem dX5_renameColumn_5 : decode cX5_renameColumn 5 = .ok (.ifCond .lt 5, 3) := by decide +kernel
theorem dX5_renameColumn_8 : decode cX5_renameColumn 8 = .ok (.iconst 0, 1) := by decide +kernel
theorem dX5_renameColumn_9 : decode cX5_renameColumn 9 = .ok (.ireturn, 1) := by decide +kernel
theorem dX5_renameColumn_10 : decode cX5_renameColumn 10 = .ok (.aload_n 0, 1) := by decide +kernel
theorem dX5_renameColumn_11 : decode cX5_renameColumn 11 = .ok (.getfield 9, 3) := by decide +kernel
theorem dX5_renameColumn_14 : decode cX5_renameColumn 14 = .ok (.iload_n 1, 1) := by decide +kernel
theorem dX5_renameColumn_15 : decode cX5_renameColumn 15 = .ok (.iload_n 2, 1) := by decide +kernel
theorem dX5_renameColumn_16 : decode cX5_renameColumn 16 = .ok (.iastore, 1) := by decide +kernel
theorem dX5_renameColumn_17 : decode cX5_renameColumn 17 = .ok (.iconst 1, 1) := by decide +kernel
theorem dX5_renameColumn_18 : decode cX5_renameColumn 18 = .ok (.ireturn, 1) := by decide +kernel
theorem dX5_retypeColumn_0 : decode cX5_retypeColumn 0 = .ok (.getstatic 64, 3) := by decide +kernel
theorem dX5_retypeColumn_3 : decode cX5_retypeColumn 3 = .ok (.aload_n 0, 1) := by decide +kernel
theorem dX5_retypeColumn_4 : decode cX5_retypeColumn 4 = .ok (.getfield 15, 3) := by decide +kernel
theorem dX5_retypeColumn_7 : decode cX5_retypeColumn 7 = .ok (.iload_n 1, 1) := by decide +kernel
theorem dX5_retypeColumn_8 : decode cX5_retypeColumn 8 = .ok (.iaload, 1) := by decide +kernel
theorem dX5_retypeColumn_9 : decode cX5_retypeColumn 9 = .ok (.iaload, 1) := by decide +kernel
theorem dX5_retypeColumn_10 : decode cX5_retypeColumn 10 = .ok (.iload_n 2, 1) := by decide +kernel
theorem dX5_retypeColumn_11 : decode cX5_retypeColumn 11 = .ok (.ishr, 1) := by decide +kernel
theorem dX5_retypeColumn_12 : decode cX5_retypeColumn 12 = .ok (.iconst 1, 1) := by decide +kernel
theorem dX5_retypeColumn_13 : decode cX5_retypeColumn 13 = .ok (.iand, 1) := by decide +kernel
theorem dX5_retypeColumn_14 : decode cX5_retypeColumn 14 = .ok (.ifCond .ne 5, 3) := by decide +kernel
theorem dX5_retypeColumn_17 : decode cX5_retypeColumn 17 = .ok (.iconst 0, 1) := by decide +kernel
theorem dX5_retypeColumn_18 : decode cX5_retypeColumn 18 = .ok (.ireturn, 1) := by decide +kernel
theorem dX5_retypeColumn_19 : decode cX5_retypeColumn 19 = .ok (.aload_n 0, 1) := by decide +kernel
theorem dX5_retypeColumn_20 : decode cX5_retypeColumn 20 = .ok (.getfield 15, 3) := by decide +kernel
theorem dX5_retypeColumn_23 : decode cX5_retypeColumn 23 = .ok (.iload_n 1, 1) := by decide +kernel
theorem dX5_retypeColumn_24 : decode cX5_retypeColumn 24 = .ok (.iload_n 2, 1) := by decide +kernel
theorem dX5_retypeColumn_25 : decode cX5_retypeColumn 25 = .ok (.iastore, 1) := by decide +kernel
theorem dX5_retypeColumn_26 : decode cX5_retypeColumn 26 = .ok (.iconst 1, 1) := by decide +kernel
theorem dX5_retypeColumn_27 : decode cX5_retypeColumn 27 = .ok (.ireturn, 1) := by decide +kernel
theorem dX6_init_0 : decode cX6_init 0 = .ok (.aload_n 0, 1) := by decide +kernel
theorem dX6_init_1 : decode cX6_init 1 = .ok (.invokespecial 3, 3) := by decide +kernel
theorem dX6_init_4 : decode cX6_init 4 = .ok (.return_, 1) := by decide +kernel
theorem dX6_changeForm_0 : decode cX6_changeForm 0 = .ok (.aload_n 0, 1) := by decide +kernel
theorem dX6_changeForm_1 : decode cX6_changeForm 1 = .ok (.getfield 9, 3) := by decide +kernel
theorem dX6_changeForm_4 : decode cX6_changeForm 4 = .ok (.tableswitch 81 0 3 #[32, 51, 81, 62], 32) := by decide +kernel
theorem dX6_changeForm_36 : decode cX6_changeForm 36 = .ok (.aload_n 1, 1) := by decide +kernel
theorem dX6_changeForm_37 : decode cX6_changeForm 37 = .ok (.aload_n 0, 1) := by decide +kernel
theorem dX6_changeForm_38 : decode cX6_changeForm 38 = .ok (.getfield 15, 3) := by decide +kernel
theorem dX6_changeForm_41 : decode cX6_changeForm 41 = .ok (.aload_n 0, 1) := by decide +kernel
theorem dX6_changeForm_42 : decode cX6_changeForm 42 = .ok (.getfield 18, 3) := by decide +kernel
theorem dX6_changeForm_45 : decode cX6_changeForm 45 = .ok (.aload_n 0, 1) := by decide +kernel
theorem dX6_changeForm_46 : decode cX6_changeForm 46 = .ok (.getfield 21, 3) := by decide +kernel
theorem dX6_changeForm_49 : decode cX6_changeForm 49 = .ok (.invokevirtual 25, 3) := by decide +kernel
theorem dX6_changeForm_52 : decode cX6_changeForm 52 = .ok (.goto 33, 3) := by decide +kernel
theorem dX6_changeForm_55 : decode cX6_changeForm 55 = .ok (.aload_n 1, 1) := by decide +kernel
theorem dX6_changeForm_56 : decode cX6_changeForm 56 = .ok (.aload_n 0, 1) := by decide +kernel
theorem dX6_changeForm_57 : decode cX6_changeForm 57 = .ok (.getfield 15, 3) := by decide +kernel
theorem dX6_changeForm_60 : decode cX6_changeForm 60 = .ok (.invokevirtual 31, 3) := by decide +kernel
theorem dX6_changeForm_63 : decode cX6_changeForm 63 = .ok (.goto 22, 3) := by decide +kernel
theorem dX6_changeForm_66 : decode cX6_changeForm 66 = .ok (.aload_n 1, 1) := by decide +kernel
theorem dX6_changeForm_67 : decode cX6_changeForm 67 = .ok (.aload_n 0, 1) := by decide +kernel
theorem dX6_changeForm_68 : decode cX6_changeForm 68 = .ok (.getfield 15, 3) := by decide +kernel
theorem dX6_changeForm_71 : decode cX6_changeForm 71 = .ok (.aload_n 0, 1) := by decide +kernel
theorem dX6_changeForm_72 : decode cX6_changeForm 72 = .ok (.getfield 35, 3) := by decide +kernel
theorem dX6_changeForm_75 : decode cX6_changeForm 75 = .ok (.aload_n 0, 1) := by decide +kernel
theorem dX6_changeForm_76 : decode cX6_changeForm 76 = .ok (.getfield 18, 3) := by decide +kernel
theorem dX6_changeForm_79 : decode cX6_changeForm 79 = .ok (.invokevirtual 38, 3) := by decide +kernel
theorem dX6_changeForm_82 : decode cX6_changeForm 82 = .ok (.goto 3, 3) := by decide +kernel
theorem dX6_changeForm_85 : decode cX6_changeForm 85 = .ok (.return_, 1) := by decide +kernel
theorem dX6_placeBehind_0 : decode cX6_placeBehind 0 = .ok (.aload_n 0, 1) := by decide +kernel
theorem dX6_placeBehind_1 : decode cX6_placeBehind 1 = .ok (.getfield 9, 3) := by decide +kernel
theorem dX6_placeBehind_4 : decode cX6_placeBehind 4 = .ok (.iconst 1, 1) := by decide +kernel
theorem dX6_placeBehind_5 : decode cX6_placeBehind 5 = .ok (.if_icmp .ne 11, 3) := by decide +kernel
theorem dX6_placeBehind_8 : decode cX6_placeBehind 8 = .ok (.iload_n 1, 1) := by decide +kernel
theorem dX6_placeBehind_9 : decode cX6_placeBehind 9 = .ok (.aload_n 0, 1) := by decide +kernel
theorem dX6_placeBehind_10 : decode cX6_placeBehind 10 = .ok (.getfield 15, 3) := by decide +kernel
theorem dX6_placeBehind_13 : decode cX6_placeBehind 13 = .ok (.if_icmp .ge 5, 3) := by decide +kernel
theorem dX6_placeBehind_16 : decode cX6_placeBehind 16 = .ok (.iload_n 1, 1) := by decide +kernel
theorem dX6_placeBehind_17 : decode cX6_placeBehind 17 = .ok (.ireturn, 1) := by decide +kernel
theorem dX6_placeBehind_18 : decode cX6_placeBehind 18 = .ok (.iload_n 1, 1) := by decide +kernel
theorem dX6_placeBehind_19 : decode cX6_placeBehind 19 = .ok (.aload_n 0, 1) := by decide +kernel
theorem dX6_placeBehind_20 : decode cX6_placeBehind 20 = .ok (.getfield 15, 3) := by decide +kernel
theorem dX6_placeBehind_23 : decode cX6_placeBehind 23 = .ok (.if_icmp .ne 7, 3) := by decide +kernel
theorem dX6_placeBehind_26 : decode cX6_placeBehind 26 = .ok (.iconst (-1), 1) := by decide +kernel
theorem dX6_placeBehind_27 : decode cX6_placeBehind 27 = .ok (.goto 6, 3) := by decide +kernel
theorem dX6_placeBehind_30 : decode cX6_placeBehind 30 = .ok (.iload_n 1, 1) := by decide +kernel
theorem dX6_placeBehind_31 : decode cX6_placeBehind 31 = .ok (.iconst 1, 1) := by decide +kernel
theorem dX6_placeBehind_32 : decode cX6_placeBehind 32 = .ok (.isub, 1) := by decide +kernel
theorem dX6_placeBehind_33 : decode cX6_placeBehind 33 = .ok (.ireturn, 1) := by decide +kernel
theorem dX7_init_0 : decode cX7_init 0 = .ok (.aload_n 0, 1) := by decide +kernel
theorem dX7_init_1 : decode cX7_init 1 = .ok (.invokespecial 3, 3) := by decide +kernel
theorem dX7_init_4 : decode cX7_init 4 = .ok (.aload_n 0, 1) := by decide +kernel
theorem dX7_init_5 : decode cX7_init 5 = .ok (.bipush 40, 2) := by decide +kernel
theorem dX7_init_7 : decode cX7_init 7 = .ok (.anewarray 9, 3) := by decide +kernel
theorem dX7_init_10 : decode cX7_init 10 = .ok (.putfield 11, 3) := by decide +kernel
theorem dX7_init_13 : decode cX7_init 13 = .ok (.iconst 0, 1) := by decide +kernel
theorem dX7_init_14 : decode cX7_init 14 = .ok (.istore_n 1, 1) := by decide +kernel
theorem dX7_init_15 : decode cX7_init 15 = .ok (.iload_n 1, 1) := by decide +kernel
theorem dX7_init_16 : decode cX7_init 16 = .ok (.bipush 40, 2) := by decide +kernel
theorem dX7_init_18 : decode cX7_init 18 = .ok (.if_icmp .ge 22, 3) := by decide +kernel
theorem dX7_init_21 : decode cX7_init 21 = .ok (.aload_n 0, 1) := by decide +kernel
theorem dX7_init_22 : decode cX7_init 22 = .ok (.getfield 11, 3) := by decide +kernel
theorem dX7_init_25 : decode cX7_init 25 = .ok (.iload_n 1, 1) := by decide +kernel
theorem dX7_init_26 : decode cX7_init 26 = .ok (.new 9, 3) := by decide +kernel
theorem dX7_init_29 : decode cX7_init 29 = .ok (.dup, 1) := by decide +kernel
theorem dX7_init_30 : decode cX7_init 30 = .ok (.invokespecial 17, 3) := by decide +kernel
theorem dX7_init_33 : decode cX7_init 33 = .ok (.aastore, 1) := by decide +kernel
theorem dX7_init_34 : decode cX7_init 34 = .ok (.iinc 1 1, 3) := by decide +kernel
theorem dX7_init_37 : decode cX7_init 37 = .ok (.goto (-22), 3) := by decide +kernel
theorem dX7_init_40 : decode cX7_init 40 = .ok (.return_, 1) := by decide +kernel
theorem dX7_placeAbove_0 : decode cX7_placeAbove 0 = .ok (.iconst 0, 1) := by decide +kernel
theorem dX7_placeAbove_1 : decode cX7_placeAbove 1 = .ok (.istore_n 3, 1) := by decide +kernel
theorem dX7_placeAbove_2 : decode cX7_placeAbove 2 = .ok (.iload_n 2, 1) := by decide +kernel
theorem dX7_placeAbove_3 : decode cX7_placeAbove 3 = .ok (.ifCond .ne 30, 3) := by decide +kernel
theorem dX7_placeAbove_6 : decode cX7_placeAbove 6 = .ok (.iload_n 3, 1) := by decide +kernel
theorem dX7_placeAbove_7 : decode cX7_placeAbove 7 = .ok (.aload_n 0, 1) := by decide +kernel
theorem dX7_placeAbove_8 : decode cX7_placeAbove 8 = .ok (.getfield 18, 3) := by decide +kernel
theorem dX7_placeAbove_11 : decode cX7_placeAbove 11 = .ok (.if_icmp .ge 22, 3) := by decide +kernel
theorem dX7_placeAbove_14 : decode cX7_placeAbove 14 = .ok (.aload_n 0, 1) := by decide +kernel
theorem dX7_placeAbove_15 : decode cX7_placeAbove 15 = .ok (.getfield 11, 3) := by decide +kernel
theorem dX7_placeAbove_18 : decode cX7_placeAbove 18 = .ok (.iload_n 3, 1) := by decide +kernel
theorem dX7_placeAbove_19 : decode cX7_placeAbove 19 = .ok (.aaload, 1) := by decide +kernel
theorem dX7_placeAbove_20 : decode cX7_placeAbove 20 = .ok (.getfield 22, 3) := by decide +kernel
theorem dX7_placeAbove_23 : decode cX7_placeAbove 23 = .ok (.iload_n 1, 1) := by decide +kernel
theorem dX7_placeAbove_24 : decode cX7_placeAbove 24 = .ok (.if_icmp .gt 9, 3) := by decide +kernel
theorem dX7_placeAbove_27 : decode cX7_placeAbove 27 = .ok (.iinc 3 1, 3) := by decide +kernel
theorem dX7_placeAbove_30 : decode cX7_placeAbove 30 = .ok (.goto (-28), 3) := by decide +kernel
theorem dX7_placeAbove_33 : decode cX7_placeAbove 33 = .ok (.iload_n 3, 1) := by decide +kernel
theorem dX7_placeAbove_34 : decode cX7_placeAbove 34 = .ok (.ireturn, 1) := by decide +kernel
theorem dX7_placeUnder_0 : decode cX7_placeUnder 0 = .ok (.aload_n 0, 1) := by decide +kernel
theorem dX7_placeUnder_1 : decode cX7_placeUnder 1 = .ok (.iload_n 1, 1) := by decide +kernel
theorem dX7_placeUnder_2 : decode cX7_placeUnder 2 = .ok (.iconst 0, 1) := by decide +kernel
theorem dX7_placeUnder_3 : decode cX7_placeUnder 3 = .ok (.invokevirtual 25, 3) := by decide +kernel
theorem dX7_placeUnder_6 : decode cX7_placeUnder 6 = .ok (.iconst 1, 1) := by decide +kernel
theorem dX7_placeUnder_7 : decode cX7_placeUnder 7 = .ok (.isub, 1) := by decide +kernel
theorem dX7_placeUnder_8 : decode cX7_placeUnder 8 = .ok (.istore_n 2, 1) := by decide +kernel
theorem dX7_placeUnder_9 : decode cX7_placeUnder 9 = .ok (.iload_n 2, 1) := by decide +kernel
theorem dX7_placeUnder_10 : decode cX7_placeUnder 10 = .ok (.ifCond .lt 20, 3) := by decide +kernel
theorem dX7_placeUnder_13 : decode cX7_placeUnder 13 = .ok (.aload_n 0, 1) := by decide +kernel
theorem dX7_placeUnder_14 : decode cX7_placeUnder 14 = .ok (.getfield 11, 3) := by decide +kernel
theorem dX7_placeUnder_17 : decode cX7_placeUnder 17 = .ok (.iload_n 2, 1) := by decide +kernel
theorem dX7_placeUnder_18 : decode cX7_placeUnder 18 = .ok (.aaload, 1) := by decide +kernel
theorem dX7_placeUnder_19 : decode cX7_placeUnder 19 = .ok (.getfield 22, 3) := by decide +kernel
theorem dX7_placeUnder_22 : decode cX7_placeUnder 22 = .ok (.iload_n 1, 1) := by decide +kernel
theorem dX7_placeUnder_23 : decode cX7_placeUnder 23 = .ok (.if_icmp .ne 7, 3) := by decide +kernel
theorem dX7_placeUnder_26 : decode cX7_placeUnder 26 = .ok (.iload_n 2, 1) := by decide +kernel
theorem dX7_placeUnder_27 : decode cX7_placeUnder 27 = .ok (.goto 4, 3) := by decide +kernel
theorem dX7_placeUnder_30 : decode cX7_placeUnder 30 = .ok (.iconst (-1), 1) := by decide +kernel
theorem dX7_placeUnder_31 : decode cX7_placeUnder 31 = .ok (.ireturn, 1) := by decide +kernel
theorem dX7_insert_0 : decode cX7_insert 0 = .ok (.aload_n 0, 1) := by decide +kernel
theorem dX7_insert_1 : decode cX7_insert 1 = .ok (.iload_n 1, 1) := by decide +kernel
theorem dX7_insert_2 : decode cX7_insert 2 = .ok (.iconst 0, 1) := by decide +kernel
theorem dX7_insert_3 : decode cX7_insert 3 = .ok (.invokevirtual 25, 3) := by decide +kernel
theorem dX7_insert_6 : decode cX7_insert 6 = .ok (.istore_n 2, 1) := by decide +kernel
theorem dX7_insert_7 : decode cX7_insert 7 = .ok (.aload_n 0, 1) := by decide +kernel
theorem dX7_insert_8 : decode cX7_insert 8 = .ok (.getfield 11, 3) := by decide +kernel
theorem dX7_insert_11 : decode cX7_insert 11 = .ok (.aload_n 0, 1) := by decide +kernel
theorem dX7_insert_12 : decode cX7_insert 12 = .ok (.getfield 18, 3) := by decide +kernel
theorem dX7_insert_15 : decode cX7_insert 15 = .ok (.aaload, 1) := by decide +kernel
theorem dX7_insert_16 : decode cX7_insert 16 = .ok (.astore_n 3, 1) := by decide +kernel
theorem dX7_insert_17 : decode cX7_insert 17 = .ok (.aload_n 0, 1) := by decide +kernel
theorem dX7_insert_18 : decode cX7_insert 18 = .ok (.getfield 18, 3) := by decide +kernel
theorem dX7_insert_21 : decode cX7_insert 21 = .ok (.istore 4, 2) := by decide +kernel
theorem dX7_insert_23 : decode cX7_insert 23 = .ok (.iload 4, 2) := by decide +kernel
theorem dX7_insert_25 : decode cX7_insert 25 = .ok (.iload_n 2, 1) := by decide +kernel
theorem dX7_insert_26 : decode cX7_insert 26 = .ok (.if_icmp .le 25, 3) := by decide +kernel
theorem dX7_insert_29 : decode cX7_insert 29 = .ok (.aload_n 0, 1) := by decide +kernel
theorem dX7_insert_30 : decode cX7_insert 30 = .ok (.getfield 11, 3) := by decide +kernel
theorem dX7_insert_33 : decode cX7_insert 33 = .ok (.iload 4, 2) := by decide +kernel
theorem dX7_insert_35 : decode cX7_insert 35 = .ok (.aload_n 0, 1) := by decide +kernel
theorem dX7_insert_36 : decode cX7_insert 36 = .ok (.getfield 11, 3) := by decide +kernel
theorem dX7_insert_39 : decode cX7_insert 39 = .ok (.iload 4, 2) := by decide +kernel
theorem dX7_insert_41 : decode cX7_insert 41 = .ok (.iconst 1, 1) := by decide +kernel
theorem dX7_insert_42 : decode cX7_insert 42 = .ok (.isub, 1) := by decide +kernel
theorem dX7_insert_43 : decode cX7_insert 43 = .ok (.aaload, 1) := by decide +kernel
theorem dX7_insert_44 : decode cX7_insert 44 = .ok (.aastore, 1) := by decide +kernel
theorem dX7_insert_45 : decode cX7_insert 45 = .ok (.iinc 4 (-1), 3) := by decide +kernel
theorem dX7_insert_48 : decode cX7_insert 48 = .ok (.goto (-25), 3) := by decide +kernel
theorem dX7_insert_51 : decode cX7_insert 51 = .ok (.aload_n 0, 1) := by decide +kernel
theorem dX7_insert_52 : decode cX7_insert 52 = .ok (.getfield 11, 3) := by decide +kernel
theorem dX7_insert_55 : decode cX7_insert 55 = .ok (.iload_n 2, 1) := by decide +kernel
theorem dX7_insert_56 : decode cX7_insert 56 = .ok (.aload_n 3, 1) := by decide +kernel
theorem dX7_insert_57 : decode cX7_insert 57 = .ok (.aastore, 1) := by decide +kernel
theorem dX7_insert_58 : decode cX7_insert 58 = .ok (.aload_n 0, 1) := by decide +kernel
theorem dX7_insert_59 : decode cX7_insert 59 = .ok (.dup, 1) := by decide +kernel
theorem dX7_insert_60 : decode cX7_insert 60 = .ok (.getfield 18, 3) := by decide +kernel
theorem dX7_insert_63 : decode cX7_insert 63 = .ok (.iconst 1, 1) := by decide +kernel
theorem dX7_insert_64 : decode cX7_insert 64 = .ok (.iadd, 1) := by decide +kernel
theorem dX7_insert_65 : decode cX7_insert 65 = .ok (.putfield 18, 3) := by decide +kernel
theorem dX7_insert_68 : decode cX7_insert 68 = .ok (.aload_n 3, 1) := by decide +kernel
theorem dX7_insert_69 : decode cX7_insert 69 = .ok (.iload_n 1, 1) := by decide +kernel
theorem dX7_insert_70 : decode cX7_insert 70 = .ok (.invokevirtual 29, 3) := by decide +kernel
theorem dX7_insert_73 : decode cX7_insert 73 = .ok (.aload_n 3, 1) := by decide +kernel
theorem dX7_insert_74 : decode cX7_insert 74 = .ok (.areturn, 1) := by decide +kernel
theorem dX7_takeOut_0 : decode cX7_takeOut 0 = .ok (.aload_n 0, 1) := by decide +kernel
theorem dX7_takeOut_1 : decode cX7_takeOut 1 = .ok (.getfield 11, 3) := by decide +kernel
theorem dX7_takeOut_4 : decode cX7_takeOut 4 = .ok (.iload_n 1, 1) := by decide +kernel
theorem dX7_takeOut_5 : decode cX7_takeOut 5 = .ok (.aaload, 1) := by decide +kernel
theorem dX7_takeOut_6 : decode cX7_takeOut 6 = .ok (.astore_n 2, 1) := by decide +kernel
theorem dX7_takeOut_7 : decode cX7_takeOut 7 = .ok (.iload_n 1, 1) := by decide +kernel
theorem dX7_takeOut_8 : decode cX7_takeOut 8 = .ok (.istore_n 3, 1) := by decide +kernel
theorem dX7_takeOut_9 : decode cX7_takeOut 9 = .ok (.iload_n 3, 1) := by decide +kernel
theorem dX7_takeOut_10 : decode cX7_takeOut 10 = .ok (.aload_n 0, 1) := by decide +kernel
theorem dX7_takeOut_11 : decode cX7_takeOut 11 = .ok (.getfield 18, 3) := by decide +kernel
theorem dX7_takeOut_14 : decode cX7_takeOut 14 = .ok (.iconst 1, 1) := by decide +kernel
theorem dX7_takeOut_15 : decode cX7_takeOut 15 = .ok (.isub, 1) := by decide +kernel
theorem dX7_takeOut_16 : decode cX7_takeOut 16 = .ok (.if_icmp .ge 23, 3) := by decide +kernel
theorem dX7_takeOut_19 : decode cX7_takeOut 19 = .ok (.aload_n 0, 1) := by decide +kernel
theorem dX7_takeOut_20 : decode cX7_takeOut 20 = .ok (.getfield 11, 3) := by decide +kernel
theorem dX7_takeOut_23 : decode cX7_takeOut 23 = .ok (.iload_n 3, 1) := by decide +kernel
theorem dX7_takeOut_24 : decode cX7_takeOut 24 = .ok (.aload_n 0, 1) := by decide +kernel
theorem dX7_takeOut_25 : decode cX7_takeOut 25 = .ok (.getfield 11, 3) := by decide +kernel
theorem dX7_takeOut_28 : decode cX7_takeOut 28 = .ok (.iload_n 3, 1) := by decide +kernel
theorem dX7_takeOut_29 : decode cX7_takeOut 29 = .ok (.iconst 1, 1) := by decide +kernel
theorem dX7_takeOut_30 : decode cX7_takeOut 30 = .ok (.iadd, 1) := by decide +kernel
theorem dX7_takeOut_31 : decode cX7_takeOut 31 = .ok (.aaload, 1) := by decide +kernel
theorem dX7_takeOut_32 : decode cX7_takeOut 32 = .ok (.aastore, 1) := by decide +kernel
theorem dX7_takeOut_33 : decode cX7_takeOut 33 = .ok (.iinc 3 1, 3) := by decide +kernel
theorem dX7_takeOut_36 : decode cX7_takeOut 36 = .ok (.goto (-27), 3) := by decide +kernel
theorem dX7_takeOut_39 : decode cX7_takeOut 39 = .ok (.aload_n 0, 1) := by decide +kernel
theorem dX7_takeOut_40 : decode cX7_takeOut 40 = .ok (.dup, 1) := by decide +kernel
theorem dX7_takeOut_41 : decode cX7_takeOut 41 = .ok (.getfield 18, 3) := by decide +kernel
theorem dX7_takeOut_44 : decode cX7_takeOut 44 = .ok (.iconst 1, 1) := by decide +kernel
theorem dX7_takeOut_45 : decode cX7_takeOut 45 = .ok (.isub, 1) := by decide +kernel
theorem dX7_takeOut_46 : decode cX7_takeOut 46 = .ok (.putfield 18, 3) := by decide +kernel
theorem dX7_takeOut_49 : decode cX7_takeOut 49 = .ok (.aload_n 0, 1) := by decide +kernel
theorem dX7_takeOut_50 : decode cX7_takeOut 50 = .ok (.getfield 11, 3) := by decide +kernel
theorem dX7_takeOut_53 : decode cX7_takeOut 53 = .ok (.aload_n 0, 1) := by decide +kernel
theorem dX7_takeOut_54 : decode cX7_takeOut 54 = .ok (.getfield 18, 3) := by decide +kernel
theorem dX7_takeOut_57 : decode cX7_takeOut 57 = .ok (.aload_n 2, 1) := by decide +kernel
theorem dX7_takeOut_58 : decode cX7_takeOut 58 = .ok (.aastore, 1) := by decide +kernel
theorem dX7_takeOut_59 : decode cX7_takeOut 59 = .ok (.return_, 1) := by decide +kernel
theorem dX7_countLagging_0 : decode cX7_countLagging 0 = .ok (.iconst 0, 1) := by decide +kernel
theorem dX7_countLagging_1 : decode cX7_countLagging 1 = .ok (.istore_n 1, 1) := by decide +kernel
theorem dX7_countLagging_2 : decode cX7_countLagging 2 = .ok (.iconst 0, 1) := by decide +kernel
theorem dX7_countLagging_3 : decode cX7_countLagging 3 = .ok (.istore_n 2, 1) := by decide +kernel
theorem dX7_countLagging_4 : decode cX7_countLagging 4 = .ok (.iload_n 2, 1) := by decide +kernel
theorem dX7_countLagging_5 : decode cX7_countLagging 5 = .ok (.aload_n 0, 1) := by decide +kernel
theorem dX7_countLagging_6 : decode cX7_countLagging 6 = .ok (.getfield 18, 3) := by decide +kernel
theorem dX7_countLagging_9 : decode cX7_countLagging 9 = .ok (.if_icmp .ge 24, 3) := by decide +kernel
theorem dX7_countLagging_12 : decode cX7_countLagging 12 = .ok (.aload_n 0, 1) := by decide +kernel
theorem dX7_countLagging_13 : decode cX7_countLagging 13 = .ok (.getfield 11, 3) := by decide +kernel
theorem dX7_countLagging_16 : decode cX7_countLagging 16 = .ok (.iload_n 2, 1) := by decide +kernel
theorem dX7_countLagging_17 : decode cX7_countLagging 17 = .ok (.aaload, 1) := by decide +kernel
theorem dX7_countLagging_18 : decode cX7_countLagging 18 = .ok (.getfield 33, 3) := by decide +kernel
theorem dX7_countLagging_21 : decode cX7_countLagging 21 = .ok (.ifCond .eq 6, 3) := by decide +kernel
theorem dX7_countLagging_24 : decode cX7_countLagging 24 = .ok (.iinc 1 1, 3) := by decide +kernel
theorem dX7_countLagging_27 : decode cX7_countLagging 27 = .ok (.iinc 2 1, 3) := by decide +kernel
theorem dX7_countLagging_30 : decode cX7_countLagging 30 = .ok (.goto (-26), 3) := by decide +kernel
theorem dX7_countLagging_33 : decode cX7_countLagging 33 = .ok (.iload_n 1, 1) := by decide +kernel
theorem dX7_countLagging_34 : decode cX7_countLagging 34 = .ok (.ireturn, 1) := by decide +kernel
theorem dX7_countShadowed_0 : decode cX7_countShadowed 0 = .ok (.iconst 0, 1) := by decide +kernel
theorem dX7_countShadowed_1 : decode cX7_countShadowed 1 = .ok (.istore_n 1, 1) := by decide +kernel
theorem dX7_countShadowed_2 : decode cX7_countShadowed 2 = .ok (.iconst 0, 1) := by decide +kernel
theorem dX7_countShadowed_3 : decode cX7_countShadowed 3 = .ok (.istore_n 2, 1) := by decide +kernel
theorem dX7_countShadowed_4 : decode cX7_countShadowed 4 = .ok (.iload_n 2, 1) := by decide +kernel
theorem dX7_countShadowed_5 : decode cX7_countShadowed 5 = .ok (.aload_n 0, 1) := by decide +kernel
theorem dX7_countShadowed_6 : decode cX7_countShadowed 6 = .ok (.getfield 18, 3) := by decide +kernel
theorem dX7_countShadowed_9 : decode cX7_countShadowed 9 = .ok (.if_icmp .ge 25, 3) := by decide +kernel
theorem dX7_countShadowed_12 : decode cX7_countShadowed 12 = .ok (.aload_n 0, 1) := by decide +kernel
theorem dX7_countShadowed_13 : decode cX7_countShadowed 13 = .ok (.getfield 11, 3) := by decide +kernel
theorem dX7_countShadowed_16 : decode cX7_countShadowed 16 = .ok (.iload_n 2, 1) := by decide +kernel
theorem dX7_countShadowed_17 : decode cX7_countShadowed 17 = .ok (.aaload, 1) := by decide +kernel
theorem dX7_countShadowed_18 : decode cX7_countShadowed 18 = .ok (.getfield 33, 3) := by decide +kernel
theorem dX7_countShadowed_21 : decode cX7_countShadowed 21 = .ok (.iconst 2, 1) := by decide +kernel
theorem dX7_countShadowed_22 : decode cX7_countShadowed 22 = .ok (.if_icmp .ne 6, 3) := by decide +kernel
theorem dX7_countShadowed_25 : decode cX7_countShadowed 25 = .ok (.iinc 1 1, 3) := by decide +kernel
theorem dX7_countShadowed_28 : decode cX7_countShadowed 28 = .ok (.iinc 2 1, 3) := by decide +kernel
theorem dX7_countShadowed_31 : decode cX7_countShadowed 31 = .ok (.goto (-27), 3) := by decide +kernel
theorem dX7_countShadowed_34 : decode cX7_countShadowed 34 = .ok (.iload_n 1, 1) := by decide +kernel
theorem dX7_countShadowed_35 : decode cX7_countShadowed 35 = .ok (.ireturn, 1) := by decide +kernel
theorem dX8_init_0 : decode cX8_init 0 = .ok (.aload_n 0, 1) := by decide +kernel
theorem dX8_init_1 : decode cX8_init 1 = .ok (.invokespecial 1, 3) := by decide +kernel
theorem dX8_init_4 : decode cX8_init 4 = .ok (.aload_n 0, 1) := by decide +kernel
theorem dX8_init_5 : decode cX8_init 5 = .ok (.new 7, 3) := by decide +kernel
theorem dX8_init_8 : decode cX8_init 8 = .ok (.dup, 1) := by decide +kernel
theorem dX8_init_9 : decode cX8_init 9 = .ok (.invokespecial 9, 3) := by decide +kernel
theorem dX8_init_12 : decode cX8_init 12 = .ok (.putfield 10, 3) := by decide +kernel
theorem dX8_init_15 : decode cX8_init 15 = .ok (.aload_n 0, 1) := by decide +kernel
theorem dX8_init_16 : decode cX8_init 16 = .ok (.new 16, 3) := by decide +kernel
theorem dX8_init_19 : decode cX8_init 19 = .ok (.dup, 1) := by decide +kernel
theorem dX8_init_20 : decode cX8_init 20 = .ok (.invokespecial 18, 3) := by decide +kernel
theorem dX8_init_23 : decode cX8_init 23 = .ok (.putfield 19, 3) := by decide +kernel
theorem dX8_init_26 : decode cX8_init 26 = .ok (.aload_n 0, 1) := by decide +kernel
theorem dX8_init_27 : decode cX8_init 27 = .ok (.new 23, 3) := by decide +kernel
theorem dX8_init_30 : decode cX8_init 30 = .ok (.dup, 1) := by decide +kernel
theorem dX8_init_31 : decode cX8_init 31 = .ok (.invokespecial 25, 3) := by decide +kernel
theorem dX8_init_34 : decode cX8_init 34 = .ok (.putfield 26, 3) := by decide +kernel
theorem dX8_init_37 : decode cX8_init 37 = .ok (.aload_n 0, 1) := by decide +kernel
theorem dX8_init_38 : decode cX8_init 38 = .ok (.new 30, 3) := by decide +kernel
theorem dX8_init_41 : decode cX8_init 41 = .ok (.dup, 1) := by decide +kernel
theorem dX8_init_42 : decode cX8_init 42 = .ok (.invokespecial 32, 3) := by decide +kernel
theorem dX8_init_45 : decode cX8_init 45 = .ok (.putfield 33, 3) := by decide +kernel
theorem dX8_init_48 : decode cX8_init 48 = .ok (.aload_n 0, 1) := by decide +kernel
theorem dX8_init_49 : decode cX8_init 49 = .ok (.new 37, 3) := by decide +kernel
theorem dX8_init_52 : decode cX8_init 52 = .ok (.dup, 1) := by decide +kernel
theorem dX8_init_53 : decode cX8_init 53 = .ok (.invokespecial 39, 3) := by decide +kernel
theorem dX8_init_56 : decode cX8_init 56 = .ok (.putfield 40, 3) := by decide +kernel
theorem dX8_init_59 : decode cX8_init 59 = .ok (.aload_n 0, 1) := by decide +kernel
theorem dX8_init_60 : decode cX8_init 60 = .ok (.new 37, 3) := by decide +kernel
theorem dX8_init_63 : decode cX8_init 63 = .ok (.dup, 1) := by decide +kernel
theorem dX8_init_64 : decode cX8_init 64 = .ok (.invokespecial 39, 3) := by decide +kernel
theorem dX8_init_67 : decode cX8_init 67 = .ok (.putfield 44, 3) := by decide +kernel
theorem dX8_init_70 : decode cX8_init 70 = .ok (.aload_n 0, 1) := by decide +kernel
theorem dX8_init_71 : decode cX8_init 71 = .ok (.new 37, 3) := by decide +kernel
theorem dX8_init_74 : decode cX8_init 74 = .ok (.dup, 1) := by decide +kernel
theorem dX8_init_75 : decode cX8_init 75 = .ok (.invokespecial 39, 3) := by decide +kernel
theorem dX8_init_78 : decode cX8_init 78 = .ok (.putfield 47, 3) := by decide +kernel
theorem dX8_init_81 : decode cX8_init 81 = .ok (.aload_n 0, 1) := by decide +kernel
theorem dX8_init_82 : decode cX8_init 82 = .ok (.new 50, 3) := by decide +kernel
theorem dX8_init_85 : decode cX8_init 85 = .ok (.dup, 1) := by decide +kernel
theorem dX8_init_86 : decode cX8_init 86 = .ok (.invokespecial 52, 3) := by decide +kernel
theorem dX8_init_89 : decode cX8_init 89 = .ok (.putfield 53, 3) := by decide +kernel
theorem dX8_init_92 : decode cX8_init 92 = .ok (.aload_n 0, 1) := by decide +kernel
theorem dX8_init_93 : decode cX8_init 93 = .ok (.new 50, 3) := by decide +kernel
theorem dX8_init_96 : decode cX8_init 96 = .ok (.dup, 1) := by decide +kernel
theorem dX8_init_97 : decode cX8_init 97 = .ok (.invokespecial 52, 3) := by decide +kernel
theorem dX8_init_100 : decode cX8_init 100 = .ok (.putfield 57, 3) := by decide +kernel
theorem dX8_init_103 : decode cX8_init 103 = .ok (.return_, 1) := by decide +kernel
theorem dX8_plan_0 : decode cX8_plan 0 = .ok (.iload_n 1, 1) := by decide +kernel
theorem dX8_plan_1 : decode cX8_plan 1 = .ok (.ifCond .lt 15, 3) := by decide +kernel
theorem dX8_plan_4 : decode cX8_plan 4 = .ok (.iload_n 1, 1) := by decide +kernel
theorem dX8_plan_5 : decode cX8_plan 5 = .ok (.iconst 3, 1) := by decide +kernel
theorem dX8_plan_6 : decode cX8_plan 6 = .ok (.if_icmp .gt 10, 3) := by decide +kernel
theorem dX8_plan_9 : decode cX8_plan 9 = .ok (.iload_n 2, 1) := by decide +kernel
theorem dX8_plan_10 : decode cX8_plan 10 = .ok (.invokestatic 60, 3) := by decide +kernel
theorem dX8_plan_13 : decode cX8_plan 13 = .ok (.ifCond .ne 5, 3) := by decide +kernel
theorem dX8_plan_16 : decode cX8_plan 16 = .ok (.iconst (-1), 1) := by decide +kernel
theorem dX8_plan_17 : decode cX8_plan 17 = .ok (.ireturn, 1) := by decide +kernel
theorem dX8_plan_18 : decode cX8_plan 18 = .ok (.iload_n 1, 1) := by decide +kernel
theorem dX8_plan_19 : decode cX8_plan 19 = .ok (.iconst 2, 1) := by decide +kernel
theorem dX8_plan_20 : decode cX8_plan 20 = .ok (.if_icmp .ne 12, 3) := by decide +kernel
theorem dX8_plan_23 : decode cX8_plan 23 = .ok (.iload_n 3, 1) := by decide +kernel
theorem dX8_plan_24 : decode cX8_plan 24 = .ok (.invokestatic 60, 3) := by decide +kernel
theorem dX8_plan_27 : decode cX8_plan 27 = .ok (.ifCond .ne 5, 3) := by decide +kernel
theorem dX8_plan_30 : decode cX8_plan 30 = .ok (.iconst (-1), 1) := by decide +kernel
theorem dX8_plan_31 : decode cX8_plan 31 = .ok (.ireturn, 1) := by decide +kernel
theorem dX8_plan_32 : decode cX8_plan 32 = .ok (.iload_n 1, 1) := by decide +kernel
theorem dX8_plan_33 : decode cX8_plan 33 = .ok (.ifCond .eq 8, 3) := by decide +kernel
theorem dX8_plan_36 : decode cX8_plan 36 = .ok (.iload_n 1, 1) := by decide +kernel
theorem dX8_plan_37 : decode cX8_plan 37 = .ok (.iconst 3, 1) := by decide +kernel
theorem dX8_plan_38 : decode cX8_plan 38 = .ok (.if_icmp .ne 12, 3) := by decide +kernel
theorem dX8_plan_41 : decode cX8_plan 41 = .ok (.iload_n 3, 1) := by decide +kernel
theorem dX8_plan_42 : decode cX8_plan 42 = .ok (.invokestatic 64, 3) := by decide +kernel
theorem dX8_plan_45 : decode cX8_plan 45 = .ok (.ifCond .ne 5, 3) := by decide +kernel
theorem dX8_plan_48 : decode cX8_plan 48 = .ok (.iconst (-1), 1) := by decide +kernel
theorem dX8_plan_49 : decode cX8_plan 49 = .ok (.ireturn, 1) := by decide +kernel
theorem dX8_plan_50 : decode cX8_plan 50 = .ok (.aload_n 0, 1) := by decide +kernel
theorem dX8_plan_51 : decode cX8_plan 51 = .ok (.getfield 53, 3) := by decide +kernel
theorem dX8_plan_54 : decode cX8_plan 54 = .ok (.getfield 67, 3) := by decide +kernel
theorem dX8_plan_57 : decode cX8_plan 57 = .ok (.bipush 6, 2) := by decide +kernel
theorem dX8_plan_59 : decode cX8_plan 59 = .ok (.if_icmp .ne 6, 3) := by decide +kernel
theorem dX8_plan_62 : decode cX8_plan 62 = .ok (.bipush (-4), 2) := by decide +kernel
theorem dX8_plan_64 : decode cX8_plan 64 = .ok (.ireturn, 1) := by decide +kernel
theorem dX8_plan_65 : decode cX8_plan 65 = .ok (.aload_n 0, 1) := by decide +kernel
theorem dX8_plan_66 : decode cX8_plan 66 = .ok (.getfield 53, 3) := by decide +kernel
theorem dX8_plan_69 : decode cX8_plan 69 = .ok (.iload_n 1, 1) := by decide +kernel
theorem dX8_plan_70 : decode cX8_plan 70 = .ok (.iload_n 2, 1) := by decide +kernel
theorem dX8_plan_71 : decode cX8_plan 71 = .ok (.iload_n 3, 1) := by decide +kernel
theorem dX8_plan_72 : decode cX8_plan 72 = .ok (.iload 4, 2) := by decide +kernel
theorem dX8_plan_74 : decode cX8_plan 74 = .ok (.iload 5, 2) := by decide +kernel
theorem dX8_plan_76 : decode cX8_plan 76 = .ok (.invokestatic 71, 3) := by decide +kernel
theorem dX8_plan_79 : decode cX8_plan 79 = .ok (.invokevirtual 75, 3) := by decide +kernel
theorem dX8_plan_82 : decode cX8_plan 82 = .ok (.aload_n 0, 1) := by decide +kernel
theorem dX8_plan_83 : decode cX8_plan 83 = .ok (.getfield 53, 3) := by decide +kernel
theorem dX8_plan_86 : decode cX8_plan 86 = .ok (.getfield 67, 3) := by decide +kernel
theorem dX8_plan_89 : decode cX8_plan 89 = .ok (.ireturn, 1) := by decide +kernel
theorem dX8_scrap_0 : decode cX8_scrap 0 = .ok (.aload_n 0, 1) := by decide +kernel
theorem dX8_scrap_1 : decode cX8_scrap 1 = .ok (.getfield 53, 3) := by decide +kernel
theorem dX8_scrap_4 : decode cX8_scrap 4 = .ok (.getfield 67, 3) := by decide +kernel
theorem dX8_scrap_7 : decode cX8_scrap 7 = .ok (.istore_n 1, 1) := by decide +kernel
theorem dX8_scrap_8 : decode cX8_scrap 8 = .ok (.aload_n 0, 1) := by decide +kernel
theorem dX8_scrap_9 : decode cX8_scrap 9 = .ok (.getfield 53, 3) := by decide +kernel
theorem dX8_scrap_12 : decode cX8_scrap 12 = .ok (.iconst 0, 1) := by decide +kernel
theorem dX8_scrap_13 : decode cX8_scrap 13 = .ok (.putfield 67, 3) := by decide +kernel
theorem dX8_scrap_16 : decode cX8_scrap 16 = .ok (.iload_n 1, 1) := by decide +kernel
theorem dX8_scrap_17 : decode cX8_scrap 17 = .ok (.ireturn, 1) := by decide +kernel
theorem dX8_draft_0 : decode cX8_draft 0 = .ok (.iload_n 1, 1) := by decide +kernel
theorem dX8_draft_1 : decode cX8_draft 1 = .ok (.invokestatic 79, 3) := by decide +kernel
theorem dX8_draft_4 : decode cX8_draft 4 = .ok (.ifCond .ne 5, 3) := by decide +kernel
theorem dX8_draft_7 : decode cX8_draft 7 = .ok (.iconst (-1), 1) := by decide +kernel
theorem dX8_draft_8 : decode cX8_draft 8 = .ok (.ireturn, 1) := by decide +kernel
theorem dX8_draft_9 : decode cX8_draft 9 = .ok (.aload_n 0, 1) := by decide +kernel
theorem dX8_draft_10 : decode cX8_draft 10 = .ok (.getfield 26, 3) := by decide +kernel
theorem dX8_draft_13 : decode cX8_draft 13 = .ok (.iload_n 1, 1) := by decide +kernel
theorem dX8_draft_14 : decode cX8_draft 14 = .ok (.iload_n 2, 1) := by decide +kernel
theorem dX8_draft_15 : decode cX8_draft 15 = .ok (.iload_n 3, 1) := by decide +kernel
theorem dX8_draft_16 : decode cX8_draft 16 = .ok (.invokestatic 71, 3) := by decide +kernel
theorem dX8_draft_19 : decode cX8_draft 19 = .ok (.invokevirtual 82, 3) := by decide +kernel
theorem dX8_draft_22 : decode cX8_draft 22 = .ok (.iconst 1, 1) := by decide +kernel
theorem dX8_draft_23 : decode cX8_draft 23 = .ok (.ireturn, 1) := by decide +kernel
theorem dX8_letters_0 : decode cX8_letters 0 = .ok (.iload_n 1, 1) := by decide +kernel
theorem dX8_letters_1 : decode cX8_letters 1 = .ok (.invokestatic 79, 3) := by decide +kernel
theorem dX8_letters_4 : decode cX8_letters 4 = .ok (.ifCond .ne 5, 3) := by decide +kernel
theorem dX8_letters_7 : decode cX8_letters 7 = .ok (.iconst (-1), 1) := by decide +kernel
theorem dX8_letters_8 : decode cX8_letters 8 = .ok (.ireturn, 1) := by decide +kernel
theorem dX8_letters_9 : decode cX8_letters 9 = .ok (.aload_n 0, 1) := by decide +kernel
theorem dX8_letters_10 : decode cX8_letters 10 = .ok (.getfield 26, 3) := by decide +kernel
theorem dX8_letters_13 : decode cX8_letters 13 = .ok (.iload_n 1, 1) := by decide +kernel
theorem dX8_letters_14 : decode cX8_letters 14 = .ok (.iload_n 2, 1) := by decide +kernel
theorem dX8_letters_15 : decode cX8_letters 15 = .ok (.iload_n 3, 1) := by decide +kernel
theorem dX8_letters_16 : decode cX8_letters 16 = .ok (.invokestatic 71, 3) := by decide +kernel
theorem dX8_letters_19 : decode cX8_letters 19 = .ok (.invokevirtual 86, 3) := by decide +kernel
theorem dX8_letters_22 : decode cX8_letters 22 = .ok (.ifCond .eq 14, 3) := by decide +kernel
theorem dX8_letters_25 : decode cX8_letters 25 = .ok (.aload_n 0, 1) := by decide +kernel
theorem dX8_letters_26 : decode cX8_letters 26 = .ok (.getfield 26, 3) := by decide +kernel
theorem dX8_letters_29 : decode cX8_letters 29 = .ok (.iload_n 1, 1) := by decide +kernel
theorem dX8_letters_30 : decode cX8_letters 30 = .ok (.invokevirtual 90, 3) := by decide +kernel
theorem dX8_letters_33 : decode cX8_letters 33 = .ok (.goto 5, 3) := by decide +kernel
theorem dX8_letters_36 : decode cX8_letters 36 = .ok (.bipush (-4), 2) := by decide +kernel
theorem dX8_letters_38 : decode cX8_letters 38 = .ok (.ireturn, 1) := by decide +kernel
theorem dX8_write_0 : decode cX8_write 0 = .ok (.aload_n 0, 1) := by decide +kernel
theorem dX8_write_1 : decode cX8_write 1 = .ok (.getfield 10, 3) := by decide +kernel
theorem dX8_write_4 : decode cX8_write 4 = .ok (.invokevirtual 94, 3) := by decide +kernel
theorem dX8_write_7 : decode cX8_write 7 = .ok (.aload_n 0, 1) := by decide +kernel
theorem dX8_write_8 : decode cX8_write 8 = .ok (.getfield 10, 3) := by decide +kernel
theorem dX8_write_11 : decode cX8_write 11 = .ok (.getfield 97, 3) := by decide +kernel
theorem dX8_write_14 : decode cX8_write 14 = .ok (.ifCond .eq 6, 3) := by decide +kernel
theorem dX8_write_17 : decode cX8_write 17 = .ok (.bipush (-8), 2) := by decide +kernel
theorem dX8_write_19 : decode cX8_write 19 = .ok (.ireturn, 1) := by decide +kernel
theorem dX8_write_20 : decode cX8_write 20 = .ok (.iload_n 2, 1) := by decide +kernel
theorem dX8_write_21 : decode cX8_write 21 = .ok (.ifCond .eq 13, 3) := by decide +kernel
theorem dX8_write_24 : decode cX8_write 24 = .ok (.aload_n 0, 1) := by decide +kernel
theorem dX8_write_25 : decode cX8_write 25 = .ok (.getfield 101, 3) := by decide +kernel
theorem dX8_write_28 : decode cX8_write 28 = .ok (.ifCond .ne 6, 3) := by decide +kernel
theorem dX8_write_31 : decode cX8_write 31 = .ok (.bipush (-2), 2) := by decide +kernel
theorem dX8_write_33 : decode cX8_write 33 = .ok (.ireturn, 1) := by decide +kernel
theorem dX8_write_34 : decode cX8_write 34 = .ok (.aload_n 0, 1) := by decide +kernel
theorem dX8_write_35 : decode cX8_write 35 = .ok (.getfield 19, 3) := by decide +kernel
theorem dX8_write_38 : decode cX8_write 38 = .ok (.iload_n 1, 1) := by decide +kernel
theorem dX8_write_39 : decode cX8_write 39 = .ok (.invokevirtual 104, 3) := by decide +kernel
theorem dX8_write_42 : decode cX8_write 42 = .ok (.ifCond .lt 7, 3) := by decide +kernel
theorem dX8_write_45 : decode cX8_write 45 = .ok (.iconst 1, 1) := by decide +kernel
theorem dX8_write_46 : decode cX8_write 46 = .ok (.goto 4, 3) := by decide +kernel
theorem dX8_write_49 : decode cX8_write 49 = .ok (.iconst 0, 1) := by decide +kernel
theorem dX8_write_50 : decode cX8_write 50 = .ok (.istore_n 3, 1) := by decide +kernel
theorem dX8_write_51 : decode cX8_write 51 = .ok (.iload_n 3, 1) := by decide +kernel
theorem dX8_write_52 : decode cX8_write 52 = .ok (.ifCond .ne 18, 3) := by decide +kernel
theorem dX8_write_55 : decode cX8_write 55 = .ok (.aload_n 0, 1) := by decide +kernel
theorem dX8_write_56 : decode cX8_write 56 = .ok (.getfield 19, 3) := by decide +kernel
theorem dX8_write_59 : decode cX8_write 59 = .ok (.getfield 107, 3) := by decide +kernel
theorem dX8_write_62 : decode cX8_write 62 = .ok (.bipush 40, 2) := by decide +kernel
theorem dX8_write_64 : decode cX8_write 64 = .ok (.if_icmp .ne 6, 3) := by decide +kernel
theorem dX8_write_67 : decode cX8_write 67 = .ok (.bipush (-4), 2) := by decide +kernel
theorem dX8_write_69 : decode cX8_write 69 = .ok (.ireturn, 1) := by decide +kernel
theorem dX8_write_70 : decode cX8_write 70 = .ok (.aload_n 0, 1) := by decide +kernel
theorem dX8_write_71 : decode cX8_write 71 = .ok (.getfield 10, 3) := by decide +kernel
theorem dX8_write_74 : decode cX8_write 74 = .ok (.invokevirtual 108, 3) := by decide +kernel
theorem dX8_write_77 : decode cX8_write 77 = .ok (.ifCond .ne 6, 3) := by decide +kernel
theorem dX8_write_80 : decode cX8_write 80 = .ok (.bipush (-9), 2) := by decide +kernel
theorem dX8_write_82 : decode cX8_write 82 = .ok (.ireturn, 1) := by decide +kernel
theorem dX8_write_83 : decode cX8_write 83 = .ok (.aload_n 0, 1) := by decide +kernel
theorem dX8_write_84 : decode cX8_write 84 = .ok (.iload_n 1, 1) := by decide +kernel
theorem dX8_write_85 : decode cX8_write 85 = .ok (.iload_n 2, 1) := by decide +kernel
theorem dX8_write_86 : decode cX8_write 86 = .ok (.invokevirtual 112, 3) := by decide +kernel
theorem dX8_write_89 : decode cX8_write 89 = .ok (.aload_n 0, 1) := by decide +kernel
theorem dX8_write_90 : decode cX8_write 90 = .ok (.getfield 101, 3) := by decide +kernel
theorem dX8_write_93 : decode cX8_write 93 = .ok (.ifCond .eq 16, 3) := by decide +kernel
theorem dX8_write_96 : decode cX8_write 96 = .ok (.aload_n 0, 1) := by decide +kernel
theorem dX8_write_97 : decode cX8_write 97 = .ok (.getfield 10, 3) := by decide +kernel
theorem dX8_write_100 : decode cX8_write 100 = .ok (.invokevirtual 116, 3) := by decide +kernel
theorem dX8_write_103 : decode cX8_write 103 = .ok (.ifCond .ne 6, 3) := by decide +kernel
theorem dX8_write_106 : decode cX8_write 106 = .ok (.bipush (-9), 2) := by decide +kernel
theorem dX8_write_108 : decode cX8_write 108 = .ok (.ireturn, 1) := by decide +kernel
theorem dX8_write_109 : decode cX8_write 109 = .ok (.iload_n 3, 1) := by decide +kernel
theorem dX8_write_110 : decode cX8_write 110 = .ok (.ifCond .eq 7, 3) := by decide +kernel
theorem dX8_write_113 : decode cX8_write 113 = .ok (.iconst 1, 1) := by decide +kernel
theorem dX8_write_114 : decode cX8_write 114 = .ok (.goto 4, 3) := by decide +kernel
theorem dX8_write_117 : decode cX8_write 117 = .ok (.iconst 0, 1) := by decide +kernel
theorem dX8_write_118 : decode cX8_write 118 = .ok (.ireturn, 1) := by decide +kernel
theorem dX8_remove_0 : decode cX8_remove 0 = .ok (.aload_n 0, 1) := by decide +kernel
theorem dX8_remove_1 : decode cX8_remove 1 = .ok (.getfield 10, 3) := by decide +kernel
theorem dX8_remove_4 : decode cX8_remove 4 = .ok (.invokevirtual 94, 3) := by decide +kernel
theorem dX8_remove_7 : decode cX8_remove 7 = .ok (.aload_n 0, 1) := by decide +kernel
theorem dX8_remove_8 : decode cX8_remove 8 = .ok (.getfield 10, 3) := by decide +kernel
theorem dX8_remove_11 : decode cX8_remove 11 = .ok (.getfield 97, 3) := by decide +kernel
theorem dX8_remove_14 : decode cX8_remove 14 = .ok (.ifCond .eq 6, 3) := by decide +kernel
theorem dX8_remove_17 : decode cX8_remove 17 = .ok (.bipush (-8), 2) := by decide +kernel
theorem dX8_remove_19 : decode cX8_remove 19 = .ok (.ireturn, 1) := by decide +kernel
theorem dX8_remove_20 : decode cX8_remove 20 = .ok (.aload_n 0, 1) := by decide +kernel
theorem dX8_remove_21 : decode cX8_remove 21 = .ok (.getfield 19, 3) := by decide +kernel
theorem dX8_remove_24 : decode cX8_remove 24 = .ok (.iload_n 1, 1) := by decide +kernel
theorem dX8_remove_25 : decode cX8_remove 25 = .ok (.invokevirtual 104, 3) := by decide +kernel
theorem dX8_remove_28 : decode cX8_remove 28 = .ok (.istore_n 2, 1) := by decide +kernel
theorem dX8_remove_29 : decode cX8_remove 29 = .ok (.iload_n 2, 1) := by decide +kernel
theorem dX8_remove_30 : decode cX8_remove 30 = .ok (.ifCond .ge 6, 3) := by decide +kernel
theorem dX8_remove_33 : decode cX8_remove 33 = .ok (.bipush (-3), 2) := by decide +kernel
theorem dX8_remove_35 : decode cX8_remove 35 = .ok (.ireturn, 1) := by decide +kernel
theorem dX8_remove_36 : decode cX8_remove 36 = .ok (.aload_n 0, 1) := by decide +kernel
theorem dX8_remove_37 : decode cX8_remove 37 = .ok (.getfield 10, 3) := by decide +kernel
theorem dX8_remove_40 : decode cX8_remove 40 = .ok (.aload_n 0, 1) := by decide +kernel
theorem dX8_remove_41 : decode cX8_remove 41 = .ok (.getfield 19, 3) := by decide +kernel
theorem dX8_remove_44 : decode cX8_remove 44 = .ok (.getfield 119, 3) := by decide +kernel
theorem dX8_remove_47 : decode cX8_remove 47 = .ok (.iload_n 2, 1) := by decide +kernel
theorem dX8_remove_48 : decode cX8_remove 48 = .ok (.aaload, 1) := by decide +kernel
theorem dX8_remove_49 : decode cX8_remove 49 = .ok (.invokevirtual 123, 3) := by decide +kernel
theorem dX8_remove_52 : decode cX8_remove 52 = .ok (.invokevirtual 129, 3) := by decide +kernel
theorem dX8_remove_55 : decode cX8_remove 55 = .ok (.ifCond .ne 6, 3) := by decide +kernel
theorem dX8_remove_58 : decode cX8_remove 58 = .ok (.bipush (-9), 2) := by decide +kernel
theorem dX8_remove_60 : decode cX8_remove 60 = .ok (.ireturn, 1) := by decide +kernel
theorem dX8_remove_61 : decode cX8_remove 61 = .ok (.aload_n 0, 1) := by decide +kernel
theorem dX8_remove_62 : decode cX8_remove 62 = .ok (.getfield 19, 3) := by decide +kernel
theorem dX8_remove_65 : decode cX8_remove 65 = .ok (.iload_n 2, 1) := by decide +kernel
theorem dX8_remove_66 : decode cX8_remove 66 = .ok (.invokevirtual 132, 3) := by decide +kernel
theorem dX8_remove_69 : decode cX8_remove 69 = .ok (.aload_n 0, 1) := by decide +kernel
theorem dX8_remove_70 : decode cX8_remove 70 = .ok (.getfield 101, 3) := by decide +kernel
theorem dX8_remove_73 : decode cX8_remove 73 = .ok (.ifCond .eq 16, 3) := by decide +kernel
theorem dX8_remove_76 : decode cX8_remove 76 = .ok (.aload_n 0, 1) := by decide +kernel
theorem dX8_remove_77 : decode cX8_remove 77 = .ok (.getfield 10, 3) := by decide +kernel
theorem dX8_remove_80 : decode cX8_remove 80 = .ok (.invokevirtual 116, 3) := by decide +kernel
theorem dX8_remove_83 : decode cX8_remove 83 = .ok (.ifCond .ne 6, 3) := by decide +kernel
theorem dX8_remove_86 : decode cX8_remove 86 = .ok (.bipush (-9), 2) := by decide +kernel
theorem dX8_remove_88 : decode cX8_remove 88 = .ok (.ireturn, 1) := by decide +kernel
theorem dX8_remove_89 : decode cX8_remove 89 = .ok (.iconst 1, 1) := by decide +kernel
theorem dX8_remove_90 : decode cX8_remove 90 = .ok (.ireturn, 1) := by decide +kernel
theorem dX8_read_0 : decode cX8_read 0 = .ok (.aload_n 0, 1) := by decide +kernel
theorem dX8_read_1 : decode cX8_read 1 = .ok (.getfield 10, 3) := by decide +kernel
theorem dX8_read_4 : decode cX8_read 4 = .ok (.getfield 97, 3) := by decide +kernel
theorem dX8_read_7 : decode cX8_read 7 = .ok (.ifCond .eq 6, 3) := by decide +kernel
theorem dX8_read_10 : decode cX8_read 10 = .ok (.bipush (-8), 2) := by decide +kernel
theorem dX8_read_12 : decode cX8_read 12 = .ok (.ireturn, 1) := by decide +kernel
theorem dX8_read_13 : decode cX8_read 13 = .ok (.iload_n 2, 1) := by decide +kernel
theorem dX8_read_14 : decode cX8_read 14 = .ok (.ifCond .eq 13, 3) := by decide +kernel
theorem dX8_read_17 : decode cX8_read 17 = .ok (.aload_n 0, 1) := by decide +kernel
theorem dX8_read_18 : decode cX8_read 18 = .ok (.getfield 101, 3) := by decide +kernel
theorem dX8_read_21 : decode cX8_read 21 = .ok (.ifCond .ne 6, 3) := by decide +kernel
theorem dX8_read_24 : decode cX8_read 24 = .ok (.bipush (-2), 2) := by decide +kernel
theorem dX8_read_26 : decode cX8_read 26 = .ok (.ireturn, 1) := by decide +kernel
theorem dX8_read_27 : decode cX8_read 27 = .ok (.aload_n 0, 1) := by decide +kernel
theorem dX8_read_28 : decode cX8_read 28 = .ok (.getfield 19, 3) := by decide +kernel
theorem dX8_read_31 : decode cX8_read 31 = .ok (.iload_n 1, 1) := by decide +kernel
theorem dX8_read_32 : decode cX8_read 32 = .ok (.invokevirtual 104, 3) := by decide +kernel
theorem dX8_read_35 : decode cX8_read 35 = .ok (.istore_n 3, 1) := by decide +kernel
theorem dX8_read_36 : decode cX8_read 36 = .ok (.aload_n 0, 1) := by decide +kernel
theorem dX8_read_37 : decode cX8_read 37 = .ok (.iload_n 3, 1) := by decide +kernel
theorem dX8_read_38 : decode cX8_read 38 = .ok (.ifCond .lt 7, 3) := by decide +kernel
theorem dX8_read_41 : decode cX8_read 41 = .ok (.iconst 1, 1) := by decide +kernel
theorem dX8_read_42 : decode cX8_read 42 = .ok (.goto 4, 3) := by decide +kernel
theorem dX8_read_45 : decode cX8_read 45 = .ok (.iconst 0, 1) := by decide +kernel
theorem dX8_read_46 : decode cX8_read 46 = .ok (.putfield 136, 3) := by decide +kernel
theorem dX8_read_49 : decode cX8_read 49 = .ok (.iload_n 3, 1) := by decide +kernel
theorem dX8_read_50 : decode cX8_read 50 = .ok (.ifCond .ge 5, 3) := by decide +kernel
theorem dX8_read_53 : decode cX8_read 53 = .ok (.iconst 0, 1) := by decide +kernel
theorem dX8_read_54 : decode cX8_read 54 = .ok (.ireturn, 1) := by decide +kernel
theorem dX8_read_55 : decode cX8_read 55 = .ok (.aload_n 0, 1) := by decide +kernel
theorem dX8_read_56 : decode cX8_read 56 = .ok (.getfield 19, 3) := by decide +kernel
theorem dX8_read_59 : decode cX8_read 59 = .ok (.getfield 119, 3) := by decide +kernel
theorem dX8_read_62 : decode cX8_read 62 = .ok (.iload_n 3, 1) := by decide +kernel
theorem dX8_read_63 : decode cX8_read 63 = .ok (.aaload, 1) := by decide +kernel
theorem dX8_read_64 : decode cX8_read 64 = .ok (.astore 4, 2) := by decide +kernel
theorem dX8_read_66 : decode cX8_read 66 = .ok (.aload_n 0, 1) := by decide +kernel
theorem dX8_read_67 : decode cX8_read 67 = .ok (.getfield 33, 3) := by decide +kernel
theorem dX8_read_70 : decode cX8_read 70 = .ok (.iload_n 2, 1) := by decide +kernel
theorem dX8_read_71 : decode cX8_read 71 = .ok (.ifCond .eq 11, 3) := by decide +kernel
theorem dX8_read_74 : decode cX8_read 74 = .ok (.aload 4, 2) := by decide +kernel
theorem dX8_read_76 : decode cX8_read 76 = .ok (.getfield 139, 3) := by decide +kernel
theorem dX8_read_79 : decode cX8_read 79 = .ok (.goto 8, 3) := by decide +kernel
theorem dX8_read_82 : decode cX8_read 82 = .ok (.aload 4, 2) := by decide +kernel
theorem dX8_read_84 : decode cX8_read 84 = .ok (.getfield 142, 3) := by decide +kernel
theorem dX8_read_87 : decode cX8_read 87 = .ok (.invokevirtual 145, 3) := by decide +kernel
theorem dX8_read_90 : decode cX8_read 90 = .ok (.aload_n 0, 1) := by decide +kernel
theorem dX8_read_91 : decode cX8_read 91 = .ok (.getfield 40, 3) := by decide +kernel
theorem dX8_read_94 : decode cX8_read 94 = .ok (.iload_n 2, 1) := by decide +kernel
theorem dX8_read_95 : decode cX8_read 95 = .ok (.ifCond .eq 10, 3) := by decide +kernel
theorem dX8_read_98 : decode cX8_read 98 = .ok (.aload_n 0, 1) := by decide +kernel
theorem dX8_read_99 : decode cX8_read 99 = .ok (.getfield 47, 3) := by decide +kernel
theorem dX8_read_102 : decode cX8_read 102 = .ok (.goto 7, 3) := by decide +kernel
theorem dX8_read_105 : decode cX8_read 105 = .ok (.aload_n 0, 1) := by decide +kernel
theorem dX8_read_106 : decode cX8_read 106 = .ok (.getfield 44, 3) := by decide +kernel
theorem dX8_read_109 : decode cX8_read 109 = .ok (.invokevirtual 149, 3) := by decide +kernel
theorem dX8_read_112 : decode cX8_read 112 = .ok (.iconst 1, 1) := by decide +kernel
theorem dX8_read_113 : decode cX8_read 113 = .ok (.ireturn, 1) := by decide +kernel
theorem dX8_seen_0 : decode cX8_seen 0 = .ok (.aload_n 0, 1) := by decide +kernel
theorem dX8_seen_1 : decode cX8_seen 1 = .ok (.getfield 136, 3) := by decide +kernel
theorem dX8_seen_4 : decode cX8_seen 4 = .ok (.ifCond .eq 13, 3) := by decide +kernel
theorem dX8_seen_7 : decode cX8_seen 7 = .ok (.aload_n 0, 1) := by decide +kernel
theorem dX8_seen_8 : decode cX8_seen 8 = .ok (.getfield 40, 3) := by decide +kernel
theorem dX8_seen_11 : decode cX8_seen 11 = .ok (.getfield 152, 3) := by decide +kernel
theorem dX8_seen_14 : decode cX8_seen 14 = .ok (.goto 4, 3) := by decide +kernel
theorem dX8_seen_17 : decode cX8_seen 17 = .ok (.iconst (-1), 1) := by decide +kernel
theorem dX8_seen_18 : decode cX8_seen 18 = .ok (.ireturn, 1) := by decide +kernel
theorem dX8_value_0 : decode cX8_value 0 = .ok (.aload_n 0, 1) := by decide +kernel
theorem dX8_value_1 : decode cX8_value 1 = .ok (.iload_n 1, 1) := by decide +kernel
theorem dX8_value_2 : decode cX8_value 2 = .ok (.invokevirtual 153, 3) := by decide +kernel
theorem dX8_value_5 : decode cX8_value 5 = .ok (.ifCond .eq 14, 3) := by decide +kernel
theorem dX8_value_8 : decode cX8_value 8 = .ok (.aload_n 0, 1) := by decide +kernel
theorem dX8_value_9 : decode cX8_value 9 = .ok (.getfield 33, 3) := by decide +kernel
theorem dX8_value_12 : decode cX8_value 12 = .ok (.iload_n 1, 1) := by decide +kernel
theorem dX8_value_13 : decode cX8_value 13 = .ok (.invokevirtual 156, 3) := by decide +kernel
theorem dX8_value_16 : decode cX8_value 16 = .ok (.goto 4, 3) := by decide +kernel
theorem dX8_value_19 : decode cX8_value 19 = .ok (.lconst 0, 1) := by decide +kernel
theorem dX8_value_20 : decode cX8_value 20 = .ok (.lreturn, 1) := by decide +kernel
theorem dX8_letter_0 : decode cX8_letter 0 = .ok (.aload_n 0, 1) := by decide +kernel
theorem dX8_letter_1 : decode cX8_letter 1 = .ok (.iload_n 1, 1) := by decide +kernel
theorem dX8_letter_2 : decode cX8_letter 2 = .ok (.invokevirtual 153, 3) := by decide +kernel
theorem dX8_letter_5 : decode cX8_letter 5 = .ok (.ifCond .eq 34, 3) := by decide +kernel
theorem dX8_letter_8 : decode cX8_letter 8 = .ok (.aload_n 0, 1) := by decide +kernel
theorem dX8_letter_9 : decode cX8_letter 9 = .ok (.getfield 40, 3) := by decide +kernel
theorem dX8_letter_12 : decode cX8_letter 12 = .ok (.getfield 160, 3) := by decide +kernel
theorem dX8_letter_15 : decode cX8_letter 15 = .ok (.iload_n 1, 1) := by decide +kernel
theorem dX8_letter_16 : decode cX8_letter 16 = .ok (.iaload, 1) := by decide +kernel
theorem dX8_letter_17 : decode cX8_letter 17 = .ok (.iconst 4, 1) := by decide +kernel
theorem dX8_letter_18 : decode cX8_letter 18 = .ok (.if_icmp .ne 21, 3) := by decide +kernel
theorem dX8_letter_21 : decode cX8_letter 21 = .ok (.iload_n 2, 1) := by decide +kernel
theorem dX8_letter_22 : decode cX8_letter 22 = .ok (.ifCond .lt 17, 3) := by decide +kernel
theorem dX8_letter_25 : decode cX8_letter 25 = .ok (.iload_n 2, 1) := by decide +kernel
theorem dX8_letter_26 : decode cX8_letter 26 = .ok (.i2l, 1) := by decide +kernel
theorem dX8_letter_27 : decode cX8_letter 27 = .ok (.aload_n 0, 1) := by decide +kernel
theorem dX8_letter_28 : decode cX8_letter 28 = .ok (.getfield 33, 3) := by decide +kernel
theorem dX8_letter_31 : decode cX8_letter 31 = .ok (.iload_n 1, 1) := by decide +kernel
theorem dX8_letter_32 : decode cX8_letter 32 = .ok (.invokevirtual 156, 3) := by decide +kernel
theorem dX8_letter_35 : decode cX8_letter 35 = .ok (.lcmp, 1) := by decide +kernel
theorem dX8_letter_36 : decode cX8_letter 36 = .ok (.ifCond .lt 5, 3) := by decide +kernel
theorem dX8_letter_39 : decode cX8_letter 39 = .ok (.iconst 0, 1) := by decide +kernel
theorem dX8_letter_40 : decode cX8_letter 40 = .ok (.ireturn, 1) := by decide +kernel
theorem dX8_letter_41 : decode cX8_letter 41 = .ok (.aload_n 0, 1) := by decide +kernel
theorem dX8_letter_42 : decode cX8_letter 42 = .ok (.getfield 33, 3) := by decide +kernel
theorem dX8_letter_45 : decode cX8_letter 45 = .ok (.iload_n 1, 1) := by decide +kernel
theorem dX8_letter_46 : decode cX8_letter 46 = .ok (.iload_n 2, 1) := by decide +kernel
theorem dX8_letter_47 : decode cX8_letter 47 = .ok (.invokevirtual 164, 3) := by decide +kernel
theorem dX8_letter_50 : decode cX8_letter 50 = .ok (.ireturn, 1) := by decide +kernel
theorem dX8_next_0 : decode cX8_next 0 = .ok (.aload_n 0, 1) := by decide +kernel
theorem dX8_next_1 : decode cX8_next 1 = .ok (.getfield 10, 3) := by decide +kernel
theorem dX8_next_4 : decode cX8_next 4 = .ok (.getfield 97, 3) := by decide +kernel
theorem dX8_next_7 : decode cX8_next 7 = .ok (.ifCond .eq 5, 3) := by decide +kernel
theorem dX8_next_10 : decode cX8_next 10 = .ok (.iconst 0, 1) := by decide +kernel
theorem dX8_next_11 : decode cX8_next 11 = .ok (.ireturn, 1) := by decide +kernel
theorem dX8_next_12 : decode cX8_next 12 = .ok (.aload_n 0, 1) := by decide +kernel
theorem dX8_next_13 : decode cX8_next 13 = .ok (.getfield 19, 3) := by decide +kernel
theorem dX8_next_16 : decode cX8_next 16 = .ok (.iload_n 1, 1) := by decide +kernel
theorem dX8_next_17 : decode cX8_next 17 = .ok (.iload_n 2, 1) := by decide +kernel
theorem dX8_next_18 : decode cX8_next 18 = .ok (.invokevirtual 168, 3) := by decide +kernel
theorem dX8_next_21 : decode cX8_next 21 = .ok (.istore_n 3, 1) := by decide +kernel
theorem dX8_next_22 : decode cX8_next 22 = .ok (.iload_n 3, 1) := by decide +kernel
theorem dX8_next_23 : decode cX8_next 23 = .ok (.aload_n 0, 1) := by decide +kernel
theorem dX8_next_24 : decode cX8_next 24 = .ok (.getfield 19, 3) := by decide +kernel
theorem dX8_next_27 : decode cX8_next 27 = .ok (.getfield 107, 3) := by decide +kernel
theorem dX8_next_30 : decode cX8_next 30 = .ok (.if_icmp .ge 18, 3) := by decide +kernel
theorem dX8_next_33 : decode cX8_next 33 = .ok (.aload_n 0, 1) := by decide +kernel
theorem dX8_next_34 : decode cX8_next 34 = .ok (.getfield 19, 3) := by decide +kernel
theorem dX8_next_37 : decode cX8_next 37 = .ok (.getfield 119, 3) := by decide +kernel
theorem dX8_next_40 : decode cX8_next 40 = .ok (.iload_n 3, 1) := by decide +kernel
theorem dX8_next_41 : decode cX8_next 41 = .ok (.aaload, 1) := by decide +kernel
theorem dX8_next_42 : decode cX8_next 42 = .ok (.getfield 172, 3) := by decide +kernel
theorem dX8_next_45 : decode cX8_next 45 = .ok (.goto 4, 3) := by decide +kernel
theorem dX8_next_48 : decode cX8_next 48 = .ok (.iload_n 1, 1) := by decide +kernel
theorem dX8_next_49 : decode cX8_next 49 = .ok (.ireturn, 1) := by decide +kernel
theorem dX8_more_0 : decode cX8_more 0 = .ok (.aload_n 0, 1) := by decide +kernel
theorem dX8_more_1 : decode cX8_more 1 = .ok (.getfield 10, 3) := by decide +kernel
theorem dX8_more_4 : decode cX8_more 4 = .ok (.getfield 97, 3) := by decide +kernel
theorem dX8_more_7 : decode cX8_more 7 = .ok (.ifCond .eq 8, 3) := by decide +kernel
theorem dX8_more_10 : decode cX8_more 10 = .ok (.bipush (-8), 2) := by decide +kernel
theorem dX8_more_12 : decode cX8_more 12 = .ok (.goto 20, 3) := by decide +kernel
theorem dX8_more_15 : decode cX8_more 15 = .ok (.aload_n 0, 1) := by decide +kernel
theorem dX8_more_16 : decode cX8_more 16 = .ok (.getfield 19, 3) := by decide +kernel
theorem dX8_more_19 : decode cX8_more 19 = .ok (.getfield 107, 3) := by decide +kernel
theorem dX8_more_22 : decode cX8_more 22 = .ok (.aload_n 0, 1) := by decide +kernel
theorem dX8_more_23 : decode cX8_more 23 = .ok (.getfield 19, 3) := by decide +kernel
theorem dX8_more_26 : decode cX8_more 26 = .ok (.iload_n 1, 1) := by decide +kernel
theorem dX8_more_27 : decode cX8_more 27 = .ok (.iload_n 2, 1) := by decide +kernel
theorem dX8_more_28 : decode cX8_more 28 = .ok (.invokevirtual 168, 3) := by decide +kernel
theorem dX8_more_31 : decode cX8_more 31 = .ok (.isub, 1) := by decide +kernel
theorem dX8_more_32 : decode cX8_more 32 = .ok (.ireturn, 1) := by decide +kernel
theorem dX8_begin_0 : decode cX8_begin 0 = .ok (.aload_n 0, 1) := by decide +kernel
theorem dX8_begin_1 : decode cX8_begin 1 = .ok (.getfield 10, 3) := by decide +kernel
theorem dX8_begin_4 : decode cX8_begin 4 = .ok (.invokevirtual 94, 3) := by decide +kernel
theorem dX8_begin_7 : decode cX8_begin 7 = .ok (.aload_n 0, 1) := by decide +kernel
theorem dX8_begin_8 : decode cX8_begin 8 = .ok (.getfield 10, 3) := by decide +kernel
theorem dX8_begin_11 : decode cX8_begin 11 = .ok (.getfield 97, 3) := by decide +kernel
theorem dX8_begin_14 : decode cX8_begin 14 = .ok (.ifCond .eq 6, 3) := by decide +kernel
theorem dX8_begin_17 : decode cX8_begin 17 = .ok (.bipush (-8), 2) := by decide +kernel
theorem dX8_begin_19 : decode cX8_begin 19 = .ok (.ireturn, 1) := by decide +kernel
theorem dX8_begin_20 : decode cX8_begin 20 = .ok (.aload_n 0, 1) := by decide +kernel
theorem dX8_begin_21 : decode cX8_begin 21 = .ok (.getfield 101, 3) := by decide +kernel
theorem dX8_begin_24 : decode cX8_begin 24 = .ok (.ifCond .ne 23, 3) := by decide +kernel
theorem dX8_begin_27 : decode cX8_begin 27 = .ok (.aload_n 0, 1) := by decide +kernel
theorem dX8_begin_28 : decode cX8_begin 28 = .ok (.getfield 53, 3) := by decide +kernel
theorem dX8_begin_31 : decode cX8_begin 31 = .ok (.getfield 67, 3) := by decide +kernel
theorem dX8_begin_34 : decode cX8_begin 34 = .ok (.ifCond .eq 13, 3) := by decide +kernel
theorem dX8_begin_37 : decode cX8_begin 37 = .ok (.aload_n 0, 1) := by decide +kernel
theorem dX8_begin_38 : decode cX8_begin 38 = .ok (.getfield 19, 3) := by decide +kernel
theorem dX8_begin_41 : decode cX8_begin 41 = .ok (.invokevirtual 175, 3) := by decide +kernel
theorem dX8_begin_44 : decode cX8_begin 44 = .ok (.ifCond .le 6, 3) := by decide +kernel
theorem dX8_begin_47 : decode cX8_begin 47 = .ok (.bipush (-2), 2) := by decide +kernel
theorem dX8_begin_49 : decode cX8_begin 49 = .ok (.ireturn, 1) := by decide +kernel
theorem dX8_begin_50 : decode cX8_begin 50 = .ok (.aload_n 0, 1) := by decide +kernel
theorem dX8_begin_51 : decode cX8_begin 51 = .ok (.getfield 178, 3) := by decide +kernel
theorem dX8_begin_54 : decode cX8_begin 54 = .ok (.bipush 30, 2) := by decide +kernel
theorem dX8_begin_56 : decode cX8_begin 56 = .ok (.if_icmp .ne 6, 3) := by decide +kernel
theorem dX8_begin_59 : decode cX8_begin 59 = .ok (.bipush (-4), 2) := by decide +kernel
theorem dX8_begin_61 : decode cX8_begin 61 = .ok (.ireturn, 1) := by decide +kernel
theorem dX8_begin_62 : decode cX8_begin 62 = .ok (.aload_n 0, 1) := by decide +kernel
theorem dX8_begin_63 : decode cX8_begin 63 = .ok (.getfield 53, 3) := by decide +kernel
theorem dX8_begin_66 : decode cX8_begin 66 = .ok (.aload_n 0, 1) := by decide +kernel
theorem dX8_begin_67 : decode cX8_begin 67 = .ok (.getfield 44, 3) := by decide +kernel
theorem dX8_begin_70 : decode cX8_begin 70 = .ok (.aload_n 0, 1) := by decide +kernel
theorem dX8_begin_71 : decode cX8_begin 71 = .ok (.getfield 47, 3) := by decide +kernel
theorem dX8_begin_74 : decode cX8_begin 74 = .ok (.invokevirtual 181, 3) := by decide +kernel
theorem dX8_begin_77 : decode cX8_begin 77 = .ok (.istore_n 1, 1) := by decide +kernel
theorem dX8_begin_78 : decode cX8_begin 78 = .ok (.iload_n 1, 1) := by decide +kernel
theorem dX8_begin_79 : decode cX8_begin 79 = .ok (.ifCond .lt 8, 3) := by decide +kernel
theorem dX8_begin_82 : decode cX8_begin 82 = .ok (.bipush (-10), 2) := by decide +kernel
theorem dX8_begin_84 : decode cX8_begin 84 = .ok (.iload_n 1, 1) := by decide +kernel
theorem dX8_begin_85 : decode cX8_begin 85 = .ok (.isub, 1) := by decide +kernel
theorem dX8_begin_86 : decode cX8_begin 86 = .ok (.ireturn, 1) := by decide +kernel
theorem dX8_begin_87 : decode cX8_begin 87 = .ok (.aload_n 0, 1) := by decide +kernel
theorem dX8_begin_88 : decode cX8_begin 88 = .ok (.getfield 10, 3) := by decide +kernel
theorem dX8_begin_91 : decode cX8_begin 91 = .ok (.invokevirtual 108, 3) := by decide +kernel
theorem dX8_begin_94 : decode cX8_begin 94 = .ok (.ifCond .ne 6, 3) := by decide +kernel
theorem dX8_begin_97 : decode cX8_begin 97 = .ok (.bipush (-9), 2) := by decide +kernel
theorem dX8_begin_99 : decode cX8_begin 99 = .ok (.ireturn, 1) := by decide +kernel
theorem dX8_begin_100 : decode cX8_begin 100 = .ok (.aload_n 0, 1) := by decide +kernel
theorem dX8_begin_101 : decode cX8_begin 101 = .ok (.invokevirtual 185, 3) := by decide +kernel
theorem dX8_begin_104 : decode cX8_begin 104 = .ok (.aload_n 0, 1) := by decide +kernel
theorem dX8_begin_105 : decode cX8_begin 105 = .ok (.getfield 47, 3) := by decide +kernel
theorem dX8_begin_108 : decode cX8_begin 108 = .ok (.getfield 152, 3) := by decide +kernel
theorem dX8_begin_111 : decode cX8_begin 111 = .ok (.ireturn, 1) := by decide +kernel
theorem dX8_finish_0 : decode cX8_finish 0 = .ok (.aload_n 0, 1) := by decide +kernel
theorem dX8_finish_1 : decode cX8_finish 1 = .ok (.invokevirtual 188, 3) := by decide +kernel
theorem dX8_finish_4 : decode cX8_finish 4 = .ok (.istore_n 1, 1) := by decide +kernel
theorem dX8_finish_5 : decode cX8_finish 5 = .ok (.iload_n 1, 1) := by decide +kernel
theorem dX8_finish_6 : decode cX8_finish 6 = .ok (.ifCond .eq 5, 3) := by decide +kernel
theorem dX8_finish_9 : decode cX8_finish 9 = .ok (.iload_n 1, 1) := by decide +kernel
theorem dX8_finish_10 : decode cX8_finish 10 = .ok (.ireturn, 1) := by decide +kernel
theorem dX8_finish_11 : decode cX8_finish 11 = .ok (.aload_n 0, 1) := by decide +kernel
theorem dX8_finish_12 : decode cX8_finish 12 = .ok (.getfield 44, 3) := by decide +kernel
theorem dX8_finish_15 : decode cX8_finish 15 = .ok (.astore_n 2, 1) := by decide +kernel
theorem dX8_finish_16 : decode cX8_finish 16 = .ok (.aload_n 0, 1) := by decide +kernel
theorem dX8_finish_17 : decode cX8_finish 17 = .ok (.aload_n 0, 1) := by decide +kernel
theorem dX8_finish_18 : decode cX8_finish 18 = .ok (.getfield 47, 3) := by decide +kernel
theorem dX8_finish_21 : decode cX8_finish 21 = .ok (.putfield 44, 3) := by decide +kernel
theorem dX8_finish_24 : decode cX8_finish 24 = .ok (.aload_n 0, 1) := by decide +kernel
theorem dX8_finish_25 : decode cX8_finish 25 = .ok (.aload_n 2, 1) := by decide +kernel
theorem dX8_finish_26 : decode cX8_finish 26 = .ok (.putfield 47, 3) := by decide +kernel
theorem dX8_finish_29 : decode cX8_finish 29 = .ok (.aload_n 0, 1) := by decide +kernel
theorem dX8_finish_30 : decode cX8_finish 30 = .ok (.dup, 1) := by decide +kernel
theorem dX8_finish_31 : decode cX8_finish 31 = .ok (.getfield 178, 3) := by decide +kernel
theorem dX8_finish_34 : decode cX8_finish 34 = .ok (.iconst 1, 1) := by decide +kernel
theorem dX8_finish_35 : decode cX8_finish 35 = .ok (.iadd, 1) := by decide +kernel
theorem dX8_finish_36 : decode cX8_finish 36 = .ok (.putfield 178, 3) := by decide +kernel
theorem dX8_finish_39 : decode cX8_finish 39 = .ok (.iconst 0, 1) := by decide +kernel
theorem dX8_finish_40 : decode cX8_finish 40 = .ok (.istore_n 3, 1) := by decide +kernel
theorem dX8_finish_41 : decode cX8_finish 41 = .ok (.iload_n 3, 1) := by decide +kernel
theorem dX8_finish_42 : decode cX8_finish 42 = .ok (.aload_n 0, 1) := by decide +kernel
theorem dX8_finish_43 : decode cX8_finish 43 = .ok (.getfield 19, 3) := by decide +kernel
theorem dX8_finish_46 : decode cX8_finish 46 = .ok (.getfield 107, 3) := by decide +kernel
theorem dX8_finish_49 : decode cX8_finish 49 = .ok (.if_icmp .ge 21, 3) := by decide +kernel
theorem dX8_finish_52 : decode cX8_finish 52 = .ok (.aload_n 0, 1) := by decide +kernel
theorem dX8_finish_53 : decode cX8_finish 53 = .ok (.getfield 19, 3) := by decide +kernel
theorem dX8_finish_56 : decode cX8_finish 56 = .ok (.getfield 119, 3) := by decide +kernel
theorem dX8_finish_59 : decode cX8_finish 59 = .ok (.iload_n 3, 1) := by decide +kernel
theorem dX8_finish_60 : decode cX8_finish 60 = .ok (.aaload, 1) := by decide +kernel
theorem dX8_finish_61 : decode cX8_finish 61 = .ok (.invokevirtual 191, 3) := by decide +kernel
theorem dX8_finish_64 : decode cX8_finish 64 = .ok (.iinc 3 1, 3) := by decide +kernel
theorem dX8_finish_67 : decode cX8_finish 67 = .ok (.goto (-26), 3) := by decide +kernel
theorem dX8_finish_70 : decode cX8_finish 70 = .ok (.aload_n 0, 1) := by decide +kernel
theorem dX8_finish_71 : decode cX8_finish 71 = .ok (.getfield 178, 3) := by decide +kernel
theorem dX8_finish_74 : decode cX8_finish 74 = .ok (.ireturn, 1) := by decide +kernel
theorem dX8_rollback_0 : decode cX8_rollback 0 = .ok (.aload_n 0, 1) := by decide +kernel
theorem dX8_rollback_1 : decode cX8_rollback 1 = .ok (.invokevirtual 188, 3) := by decide +kernel
theorem dX8_rollback_4 : decode cX8_rollback 4 = .ok (.istore_n 1, 1) := by decide +kernel
theorem dX8_rollback_5 : decode cX8_rollback 5 = .ok (.iload_n 1, 1) := by decide +kernel
theorem dX8_rollback_6 : decode cX8_rollback 6 = .ok (.ifCond .eq 5, 3) := by decide +kernel
theorem dX8_rollback_9 : decode cX8_rollback 9 = .ok (.iload_n 1, 1) := by decide +kernel
theorem dX8_rollback_10 : decode cX8_rollback 10 = .ok (.ireturn, 1) := by decide +kernel
theorem dX8_rollback_11 : decode cX8_rollback 11 = .ok (.iconst 0, 1) := by decide +kernel
theorem dX8_rollback_12 : decode cX8_rollback 12 = .ok (.istore_n 2, 1) := by decide +kernel
theorem dX8_rollback_13 : decode cX8_rollback 13 = .ok (.iload_n 2, 1) := by decide +kernel
theorem dX8_rollback_14 : decode cX8_rollback 14 = .ok (.aload_n 0, 1) := by decide +kernel
theorem dX8_rollback_15 : decode cX8_rollback 15 = .ok (.getfield 19, 3) := by decide +kernel
theorem dX8_rollback_18 : decode cX8_rollback 18 = .ok (.getfield 107, 3) := by decide +kernel
theorem dX8_rollback_21 : decode cX8_rollback 21 = .ok (.if_icmp .ge 21, 3) := by decide +kernel
theorem dX8_rollback_24 : decode cX8_rollback 24 = .ok (.aload_n 0, 1) := by decide +kernel
theorem dX8_rollback_25 : decode cX8_rollback 25 = .ok (.getfield 19, 3) := by decide +kernel
theorem dX8_rollback_28 : decode cX8_rollback 28 = .ok (.getfield 119, 3) := by decide +kernel
theorem dX8_rollback_31 : decode cX8_rollback 31 = .ok (.iload_n 2, 1) := by decide +kernel
theorem dX8_rollback_32 : decode cX8_rollback 32 = .ok (.aaload, 1) := by decide +kernel
theorem dX8_rollback_33 : decode cX8_rollback 33 = .ok (.invokevirtual 194, 3) := by decide +kernel
theorem dX8_rollback_36 : decode cX8_rollback 36 = .ok (.iinc 2 1, 3) := by decide +kernel
theorem dX8_rollback_39 : decode cX8_rollback 39 = .ok (.goto (-26), 3) := by decide +kernel
theorem dX8_rollback_42 : decode cX8_rollback 42 = .ok (.aload_n 0, 1) := by decide +kernel
theorem dX8_rollback_43 : decode cX8_rollback 43 = .ok (.getfield 178, 3) := by decide +kernel
theorem dX8_rollback_46 : decode cX8_rollback 46 = .ok (.ireturn, 1) := by decide +kernel
theorem dX8_backfill_0 : decode cX8_backfill 0 = .ok (.aload_n 0, 1) := by decide +kernel
theorem dX8_backfill_1 : decode cX8_backfill 1 = .ok (.getfield 10, 3) := by decide +kernel
theorem dX8_backfill_4 : decode cX8_backfill 4 = .ok (.invokevirtual 94, 3) := by decide +kernel
theorem dX8_backfill_7 : decode cX8_backfill 7 = .ok (.aload_n 0, 1) := by decide +kernel
theorem dX8_backfill_8 : decode cX8_backfill 8 = .ok (.getfield 10, 3) := by decide +kernel
theorem dX8_backfill_11 : decode cX8_backfill 11 = .ok (.getfield 97, 3) := by decide +kernel
theorem dX8_backfill_14 : decode cX8_backfill 14 = .ok (.ifCond .eq 6, 3) := by decide +kernel
theorem dX8_backfill_17 : decode cX8_backfill 17 = .ok (.bipush (-8), 2) := by decide +kernel
theorem dX8_backfill_19 : decode cX8_backfill 19 = .ok (.ireturn, 1) := by decide +kernel
theorem dX8_backfill_20 : decode cX8_backfill 20 = .ok (.iconst 0, 1) := by decide +kernel
theorem dX8_backfill_21 : decode cX8_backfill 21 = .ok (.istore_n 1, 1) := by decide +kernel
theorem dX8_backfill_22 : decode cX8_backfill 22 = .ok (.iconst 0, 1) := by decide +kernel
theorem dX8_backfill_23 : decode cX8_backfill 23 = .ok (.istore_n 2, 1) := by decide +kernel
theorem dX8_backfill_24 : decode cX8_backfill 24 = .ok (.iload_n 2, 1) := by decide +kernel
theorem dX8_backfill_25 : decode cX8_backfill 25 = .ok (.aload_n 0, 1) := by decide +kernel
theorem dX8_backfill_26 : decode cX8_backfill 26 = .ok (.getfield 19, 3) := by decide +kernel
theorem dX8_backfill_29 : decode cX8_backfill 29 = .ok (.getfield 107, 3) := by decide +kernel
theorem dX8_backfill_32 : decode cX8_backfill 32 = .ok (.if_icmp .ge 56, 3) := by decide +kernel
theorem dX8_backfill_35 : decode cX8_backfill 35 = .ok (.iload_n 1, 1) := by decide +kernel
theorem dX8_backfill_36 : decode cX8_backfill 36 = .ok (.iconst 4, 1) := by decide +kernel
theorem dX8_backfill_37 : decode cX8_backfill 37 = .ok (.if_icmp .ge 51, 3) := by decide +kernel
theorem dX8_backfill_40 : decode cX8_backfill 40 = .ok (.aload_n 0, 1) := by decide +kernel
theorem dX8_backfill_41 : decode cX8_backfill 41 = .ok (.getfield 19, 3) := by decide +kernel
theorem dX8_backfill_44 : decode cX8_backfill 44 = .ok (.getfield 119, 3) := by decide +kernel
theorem dX8_backfill_47 : decode cX8_backfill 47 = .ok (.iload_n 2, 1) := by decide +kernel
theorem dX8_backfill_48 : decode cX8_backfill 48 = .ok (.aaload, 1) := by decide +kernel
theorem dX8_backfill_49 : decode cX8_backfill 49 = .ok (.astore_n 3, 1) := by decide +kernel
theorem dX8_backfill_50 : decode cX8_backfill 50 = .ok (.aload_n 3, 1) := by decide +kernel
theorem dX8_backfill_51 : decode cX8_backfill 51 = .ok (.getfield 197, 3) := by decide +kernel
theorem dX8_backfill_54 : decode cX8_backfill 54 = .ok (.ifCond .eq 28, 3) := by decide +kernel
theorem dX8_backfill_57 : decode cX8_backfill 57 = .ok (.aload_n 0, 1) := by decide +kernel
theorem dX8_backfill_58 : decode cX8_backfill 58 = .ok (.getfield 10, 3) := by decide +kernel
theorem dX8_backfill_61 : decode cX8_backfill 61 = .ok (.aload_n 3, 1) := by decide +kernel
theorem dX8_backfill_62 : decode cX8_backfill 62 = .ok (.invokevirtual 123, 3) := by decide +kernel
theorem dX8_backfill_65 : decode cX8_backfill 65 = .ok (.invokevirtual 129, 3) := by decide +kernel
theorem dX8_backfill_68 : decode cX8_backfill 68 = .ok (.ifCond .ne 6, 3) := by decide +kernel
theorem dX8_backfill_71 : decode cX8_backfill 71 = .ok (.bipush (-9), 2) := by decide +kernel
theorem dX8_backfill_73 : decode cX8_backfill 73 = .ok (.ireturn, 1) := by decide +kernel
theorem dX8_backfill_74 : decode cX8_backfill 74 = .ok (.aload_n 3, 1) := by decide +kernel
theorem dX8_backfill_75 : decode cX8_backfill 75 = .ok (.iconst 0, 1) := by decide +kernel
theorem dX8_backfill_76 : decode cX8_backfill 76 = .ok (.putfield 197, 3) := by decide +kernel
theorem dX8_backfill_79 : decode cX8_backfill 79 = .ok (.iinc 1 1, 3) := by decide +kernel
theorem dX8_backfill_82 : decode cX8_backfill 82 = .ok (.iinc 2 1, 3) := by decide +kernel
theorem dX8_backfill_85 : decode cX8_backfill 85 = .ok (.goto (-61), 3) := by decide +kernel
theorem dX8_backfill_88 : decode cX8_backfill 88 = .ok (.iload_n 1, 1) := by decide +kernel
theorem dX8_backfill_89 : decode cX8_backfill 89 = .ok (.ifCond .le 16, 3) := by decide +kernel
theorem dX8_backfill_92 : decode cX8_backfill 92 = .ok (.aload_n 0, 1) := by decide +kernel
theorem dX8_backfill_93 : decode cX8_backfill 93 = .ok (.getfield 10, 3) := by decide +kernel
theorem dX8_backfill_96 : decode cX8_backfill 96 = .ok (.invokevirtual 108, 3) := by decide +kernel
theorem dX8_backfill_99 : decode cX8_backfill 99 = .ok (.ifCond .ne 6, 3) := by decide +kernel
theorem dX8_backfill_102 : decode cX8_backfill 102 = .ok (.bipush (-9), 2) := by decide +kernel
theorem dX8_backfill_104 : decode cX8_backfill 104 = .ok (.ireturn, 1) := by decide +kernel
theorem dX8_backfill_105 : decode cX8_backfill 105 = .ok (.iload_n 1, 1) := by decide +kernel
theorem dX8_backfill_106 : decode cX8_backfill 106 = .ok (.ireturn, 1) := by decide +kernel
theorem dX8_crash_0 : decode cX8_crash 0 = .ok (.iload_n 1, 1) := by decide +kernel
theorem dX8_crash_1 : decode cX8_crash 1 = .ok (.ifCond .lt 10, 3) := by decide +kernel
theorem dX8_crash_4 : decode cX8_crash 4 = .ok (.iload_n 1, 1) := by decide +kernel
theorem dX8_crash_5 : decode cX8_crash 5 = .ok (.sipush 1000, 3) := by decide +kernel
theorem dX8_crash_8 : decode cX8_crash 8 = .ok (.if_icmp .le 5, 3) := by decide +kernel
theorem dX8_crash_11 : decode cX8_crash 11 = .ok (.iconst (-1), 1) := by decide +kernel
theorem dX8_crash_12 : decode cX8_crash 12 = .ok (.ireturn, 1) := by decide +kernel
theorem dX8_crash_13 : decode cX8_crash 13 = .ok (.aload_n 0, 1) := by decide +kernel
theorem dX8_crash_14 : decode cX8_crash 14 = .ok (.getfield 10, 3) := by decide +kernel
theorem dX8_crash_17 : decode cX8_crash 17 = .ok (.iload_n 1, 1) := by decide +kernel
theorem dX8_crash_18 : decode cX8_crash 18 = .ok (.putfield 200, 3) := by decide +kernel
theorem dX8_crash_21 : decode cX8_crash 21 = .ok (.iconst 1, 1) := by decide +kernel
theorem dX8_crash_22 : decode cX8_crash 22 = .ok (.ireturn, 1) := by decide +kernel
theorem dX8_restart_0 : decode cX8_restart 0 = .ok (.aload_n 0, 1) := by decide +kernel
theorem dX8_restart_1 : decode cX8_restart 1 = .ok (.getfield 10, 3) := by decide +kernel
theorem dX8_restart_4 : decode cX8_restart 4 = .ok (.invokevirtual 94, 3) := by decide +kernel
theorem dX8_restart_7 : decode cX8_restart 7 = .ok (.aload_n 0, 1) := by decide +kernel
theorem dX8_restart_8 : decode cX8_restart 8 = .ok (.getfield 10, 3) := by decide +kernel
theorem dX8_restart_11 : decode cX8_restart 11 = .ok (.getfield 97, 3) := by decide +kernel
theorem dX8_restart_14 : decode cX8_restart 14 = .ok (.ifCond .ne 6, 3) := by decide +kernel
theorem dX8_restart_17 : decode cX8_restart 17 = .ok (.bipush (-2), 2) := by decide +kernel
theorem dX8_restart_19 : decode cX8_restart 19 = .ok (.ireturn, 1) := by decide +kernel
theorem dX8_restart_20 : decode cX8_restart 20 = .ok (.aload_n 0, 1) := by decide +kernel
theorem dX8_restart_21 : decode cX8_restart 21 = .ok (.getfield 10, 3) := by decide +kernel
theorem dX8_restart_24 : decode cX8_restart 24 = .ok (.getfield 203, 3) := by decide +kernel
theorem dX8_restart_27 : decode cX8_restart 27 = .ok (.ifCond .eq 16, 3) := by decide +kernel
theorem dX8_restart_30 : decode cX8_restart 30 = .ok (.aload_n 0, 1) := by decide +kernel
theorem dX8_restart_31 : decode cX8_restart 31 = .ok (.getfield 10, 3) := by decide +kernel
theorem dX8_restart_34 : decode cX8_restart 34 = .ok (.invokevirtual 116, 3) := by decide +kernel
theorem dX8_restart_37 : decode cX8_restart 37 = .ok (.ifCond .ne 6, 3) := by decide +kernel
theorem dX8_restart_40 : decode cX8_restart 40 = .ok (.bipush (-9), 2) := by decide +kernel
theorem dX8_restart_42 : decode cX8_restart 42 = .ok (.ireturn, 1) := by decide +kernel
theorem dX8_restart_43 : decode cX8_restart 43 = .ok (.aload_n 0, 1) := by decide +kernel
theorem dX8_restart_44 : decode cX8_restart 44 = .ok (.getfield 10, 3) := by decide +kernel
theorem dX8_restart_47 : decode cX8_restart 47 = .ok (.iconst 0, 1) := by decide +kernel
theorem dX8_restart_48 : decode cX8_restart 48 = .ok (.putfield 97, 3) := by decide +kernel
theorem dX8_restart_51 : decode cX8_restart 51 = .ok (.iconst 1, 1) := by decide +kernel
theorem dX8_restart_52 : decode cX8_restart 52 = .ok (.ireturn, 1) := by decide +kernel
theorem dX8_isDown_0 : decode cX8_isDown 0 = .ok (.aload_n 0, 1) := by decide +kernel
theorem dX8_isDown_1 : decode cX8_isDown 1 = .ok (.getfield 10, 3) := by decide +kernel
theorem dX8_isDown_4 : decode cX8_isDown 4 = .ok (.getfield 97, 3) := by decide +kernel
theorem dX8_isDown_7 : decode cX8_isDown 7 = .ok (.ireturn, 1) := by decide +kernel
theorem dX8_count_0 : decode cX8_count 0 = .ok (.iload_n 1, 1) := by decide +kernel
theorem dX8_count_1 : decode cX8_count 1 = .ok (.ifCond .lt 9, 3) := by decide +kernel
theorem dX8_count_4 : decode cX8_count 4 = .ok (.iload_n 1, 1) := by decide +kernel
theorem dX8_count_5 : decode cX8_count 5 = .ok (.bipush 9, 2) := by decide +kernel
theorem dX8_count_7 : decode cX8_count 7 = .ok (.if_icmp .le 5, 3) := by decide +kernel
theorem dX8_count_10 : decode cX8_count 10 = .ok (.iconst (-1), 1) := by decide +kernel
theorem dX8_count_11 : decode cX8_count 11 = .ok (.ireturn, 1) := by decide +kernel
theorem dX8_count_12 : decode cX8_count 12 = .ok (.iload_n 1, 1) := by decide +kernel
theorem dX8_count_13 : decode cX8_count 13 = .ok (.tableswitch 51 7 9 #[27, 35, 43], 27) := by decide +kernel
theorem dX8_count_40 : decode cX8_count 40 = .ok (.aload_n 0, 1) := by decide +kernel
theorem dX8_count_41 : decode cX8_count 41 = .ok (.getfield 10, 3) := by decide +kernel
theorem dX8_count_44 : decode cX8_count 44 = .ok (.getfield 206, 3) := by decide +kernel
theorem dX8_count_47 : decode cX8_count 47 = .ok (.ireturn, 1) := by decide +kernel
theorem dX8_count_48 : decode cX8_count 48 = .ok (.aload_n 0, 1) := by decide +kernel
theorem dX8_count_49 : decode cX8_count 49 = .ok (.getfield 53, 3) := by decide +kernel
theorem dX8_count_52 : decode cX8_count 52 = .ok (.getfield 67, 3) := by decide +kernel
theorem dX8_count_55 : decode cX8_count 55 = .ok (.ireturn, 1) := by decide +kernel
theorem dX8_count_56 : decode cX8_count 56 = .ok (.aload_n 0, 1) := by decide +kernel
theorem dX8_count_57 : decode cX8_count 57 = .ok (.getfield 10, 3) := by decide +kernel
theorem dX8_count_60 : decode cX8_count 60 = .ok (.getfield 209, 3) := by decide +kernel
theorem dX8_count_63 : decode cX8_count 63 = .ok (.ireturn, 1) := by decide +kernel
theorem dX8_count_64 : decode cX8_count 64 = .ok (.aload_n 0, 1) := by decide +kernel
theorem dX8_count_65 : decode cX8_count 65 = .ok (.getfield 10, 3) := by decide +kernel
theorem dX8_count_68 : decode cX8_count 68 = .ok (.getfield 97, 3) := by decide +kernel
theorem dX8_count_71 : decode cX8_count 71 = .ok (.ifCond .eq 8, 3) := by decide +kernel
theorem dX8_count_74 : decode cX8_count 74 = .ok (.bipush (-8), 2) := by decide +kernel
theorem dX8_count_76 : decode cX8_count 76 = .ok (.goto 8, 3) := by decide +kernel
theorem dX8_count_79 : decode cX8_count 79 = .ok (.aload_n 0, 1) := by decide +kernel
theorem dX8_count_80 : decode cX8_count 80 = .ok (.iload_n 1, 1) := by decide +kernel
theorem dX8_count_81 : decode cX8_count 81 = .ok (.invokevirtual 212, 3) := by decide +kernel
theorem dX8_count_84 : decode cX8_count 84 = .ok (.ireturn, 1) := by decide +kernel
theorem dX8_column_0 : decode cX8_column 0 = .ok (.aload_n 0, 1) := by decide +kernel
theorem dX8_column_1 : decode cX8_column 1 = .ok (.getfield 10, 3) := by decide +kernel
theorem dX8_column_4 : decode cX8_column 4 = .ok (.getfield 97, 3) := by decide +kernel
theorem dX8_column_7 : decode cX8_column 7 = .ok (.ifCond .eq 6, 3) := by decide +kernel
theorem dX8_column_10 : decode cX8_column 10 = .ok (.bipush (-8), 2) := by decide +kernel
theorem dX8_column_12 : decode cX8_column 12 = .ok (.ireturn, 1) := by decide +kernel
theorem dX8_column_13 : decode cX8_column 13 = .ok (.iload_n 2, 1) := by decide +kernel
theorem dX8_column_14 : decode cX8_column 14 = .ok (.ifCond .eq 13, 3) := by decide +kernel
theorem dX8_column_17 : decode cX8_column 17 = .ok (.aload_n 0, 1) := by decide +kernel
theorem dX8_column_18 : decode cX8_column 18 = .ok (.getfield 101, 3) := by decide +kernel
theorem dX8_column_21 : decode cX8_column 21 = .ok (.ifCond .ne 6, 3) := by decide +kernel
theorem dX8_column_24 : decode cX8_column 24 = .ok (.bipush (-2), 2) := by decide +kernel
theorem dX8_column_26 : decode cX8_column 26 = .ok (.ireturn, 1) := by decide +kernel
theorem dX8_column_27 : decode cX8_column 27 = .ok (.iload_n 2, 1) := by decide +kernel
theorem dX8_column_28 : decode cX8_column 28 = .ok (.ifCond .eq 10, 3) := by decide +kernel
theorem dX8_column_31 : decode cX8_column 31 = .ok (.aload_n 0, 1) := by decide +kernel
theorem dX8_column_32 : decode cX8_column 32 = .ok (.getfield 47, 3) := by decide +kernel
theorem dX8_column_35 : decode cX8_column 35 = .ok (.goto 7, 3) := by decide +kernel
theorem dX8_column_38 : decode cX8_column 38 = .ok (.aload_n 0, 1) := by decide +kernel
theorem dX8_column_39 : decode cX8_column 39 = .ok (.getfield 44, 3) := by decide +kernel
theorem dX8_column_42 : decode cX8_column 42 = .ok (.astore_n 3, 1) := by decide +kernel
theorem dX8_column_43 : decode cX8_column 43 = .ok (.iload_n 1, 1) := by decide +kernel
theorem dX8_column_44 : decode cX8_column 44 = .ok (.ifCond .lt 11, 3) := by decide +kernel
theorem dX8_column_47 : decode cX8_column 47 = .ok (.iload_n 1, 1) := by decide +kernel
theorem dX8_column_48 : decode cX8_column 48 = .ok (.aload_n 3, 1) := by decide +kernel
theorem dX8_column_49 : decode cX8_column 49 = .ok (.getfield 152, 3) := by decide +kernel
theorem dX8_column_52 : decode cX8_column 52 = .ok (.if_icmp .lt 5, 3) := by decide +kernel
theorem dX8_column_55 : decode cX8_column 55 = .ok (.iconst (-1), 1) := by decide +kernel
theorem dX8_column_56 : decode cX8_column 56 = .ok (.ireturn, 1) := by decide +kernel
theorem dX8_column_57 : decode cX8_column 57 = .ok (.bipush 8, 2) := by decide +kernel
theorem dX8_column_59 : decode cX8_column 59 = .ok (.aload_n 3, 1) := by decide +kernel
theorem dX8_column_60 : decode cX8_column 60 = .ok (.getfield 215, 3) := by decide +kernel
theorem dX8_column_63 : decode cX8_column 63 = .ok (.iload_n 1, 1) := by decide +kernel
theorem dX8_column_64 : decode cX8_column 64 = .ok (.iaload, 1) := by decide +kernel
theorem dX8_column_65 : decode cX8_column 65 = .ok (.imul, 1) := by decide +kernel
theorem dX8_column_66 : decode cX8_column 66 = .ok (.aload_n 3, 1) := by decide +kernel
theorem dX8_column_67 : decode cX8_column 67 = .ok (.getfield 160, 3) := by decide +kernel
theorem dX8_column_70 : decode cX8_column 70 = .ok (.iload_n 1, 1) := by decide +kernel
theorem dX8_column_71 : decode cX8_column 71 = .ok (.iaload, 1) := by decide +kernel
theorem dX8_column_72 : decode cX8_column 72 = .ok (.iadd, 1) := by decide +kernel
theorem dX8_column_73 : decode cX8_column 73 = .ok (.ireturn, 1) := by decide +kernel
theorem dX8_isName_0 : decode cX8_isName 0 = .ok (.iload_n 0, 1) := by decide +kernel
theorem dX8_isName_1 : decode cX8_isName 1 = .ok (.ifCond .lt 13, 3) := by decide +kernel
theorem dX8_isName_4 : decode cX8_isName 4 = .ok (.iload_n 0, 1) := by decide +kernel
theorem dX8_isName_5 : decode cX8_isName 5 = .ok (.bipush 63, 2) := by decide +kernel
theorem dX8_isName_7 : decode cX8_isName 7 = .ok (.if_icmp .gt 7, 3) := by decide +kernel
theorem dX8_isName_10 : decode cX8_isName 10 = .ok (.iconst 1, 1) := by decide +kernel
theorem dX8_isName_11 : decode cX8_isName 11 = .ok (.goto 4, 3) := by decide +kernel
theorem dX8_isName_14 : decode cX8_isName 14 = .ok (.iconst 0, 1) := by decide +kernel
theorem dX8_isName_15 : decode cX8_isName 15 = .ok (.ireturn, 1) := by decide +kernel
theorem dX8_isType_0 : decode cX8_isType 0 = .ok (.iload_n 0, 1) := by decide +kernel
theorem dX8_isType_1 : decode cX8_isType 1 = .ok (.ifCond .lt 12, 3) := by decide +kernel
theorem dX8_isType_4 : decode cX8_isType 4 = .ok (.iload_n 0, 1) := by decide +kernel
theorem dX8_isType_5 : decode cX8_isType 5 = .ok (.iconst 4, 1) := by decide +kernel
theorem dX8_isType_6 : decode cX8_isType 6 = .ok (.if_icmp .gt 7, 3) := by decide +kernel
theorem dX8_isType_9 : decode cX8_isType 9 = .ok (.iconst 1, 1) := by decide +kernel
theorem dX8_isType_10 : decode cX8_isType 10 = .ok (.goto 4, 3) := by decide +kernel
theorem dX8_isType_13 : decode cX8_isType 13 = .ok (.iconst 0, 1) := by decide +kernel
theorem dX8_isType_14 : decode cX8_isType 14 = .ok (.ireturn, 1) := by decide +kernel
theorem dX8_isCell_0 : decode cX8_isCell 0 = .ok (.iload_n 0, 1) := by decide +kernel
theorem dX8_isCell_1 : decode cX8_isCell 1 = .ok (.ifCond .lt 13, 3) := by decide +kernel
theorem dX8_isCell_4 : decode cX8_isCell 4 = .ok (.iload_n 0, 1) := by decide +kernel
theorem dX8_isCell_5 : decode cX8_isCell 5 = .ok (.bipush 8, 2) := by decide +kernel
theorem dX8_isCell_7 : decode cX8_isCell 7 = .ok (.if_icmp .ge 7, 3) := by decide +kernel
theorem dX8_isCell_10 : decode cX8_isCell 10 = .ok (.iconst 1, 1) := by decide +kernel
theorem dX8_isCell_11 : decode cX8_isCell 11 = .ok (.goto 4, 3) := by decide +kernel
theorem dX8_isCell_14 : decode cX8_isCell 14 = .ok (.iconst 0, 1) := by decide +kernel
theorem dX8_isCell_15 : decode cX8_isCell 15 = .ok (.ireturn, 1) := by decide +kernel
theorem dX8_joined_0 : decode cX8_joined 0 = .ok (.iload_n 0, 1) := by decide +kernel
theorem dX8_joined_1 : decode cX8_joined 1 = .ok (.i2l, 1) := by decide +kernel
theorem dX8_joined_2 : decode cX8_joined 2 = .ok (.bipush 32, 2) := by decide +kernel
theorem dX8_joined_4 : decode cX8_joined 4 = .ok (.lshl, 1) := by decide +kernel
theorem dX8_joined_5 : decode cX8_joined 5 = .ok (.iload_n 1, 1) := by decide +kernel
theorem dX8_joined_6 : decode cX8_joined 6 = .ok (.i2l, 1) := by decide +kernel
theorem dX8_joined_7 : decode cX8_joined 7 = .ok (.ldc2_w 218, 3) := by decide +kernel
theorem dX8_joined_10 : decode cX8_joined 10 = .ok (.land, 1) := by decide +kernel
theorem dX8_joined_11 : decode cX8_joined 11 = .ok (.lor, 1) := by decide +kernel
theorem dX8_joined_12 : decode cX8_joined 12 = .ok (.lreturn, 1) := by decide +kernel
theorem dX8_isSeenColumn_0 : decode cX8_isSeenColumn 0 = .ok (.aload_n 0, 1) := by decide +kernel
theorem dX8_isSeenColumn_1 : decode cX8_isSeenColumn 1 = .ok (.getfield 136, 3) := by decide +kernel
theorem dX8_isSeenColumn_4 : decode cX8_isSeenColumn 4 = .ok (.ifCond .eq 22, 3) := by decide +kernel
theorem dX8_isSeenColumn_7 : decode cX8_isSeenColumn 7 = .ok (.iload_n 1, 1) := by decide +kernel
theorem dX8_isSeenColumn_8 : decode cX8_isSeenColumn 8 = .ok (.ifCond .lt 18, 3) := by decide +kernel
theorem dX8_isSeenColumn_11 : decode cX8_isSeenColumn 11 = .ok (.iload_n 1, 1) := by decide +kernel
theorem dX8_isSeenColumn_12 : decode cX8_isSeenColumn 12 = .ok (.aload_n 0, 1) := by decide +kernel
theorem dX8_isSeenColumn_13 : decode cX8_isSeenColumn 13 = .ok (.getfield 40, 3) := by decide +kernel
theorem dX8_isSeenColumn_16 : decode cX8_isSeenColumn 16 = .ok (.getfield 152, 3) := by decide +kernel
theorem dX8_isSeenColumn_19 : decode cX8_isSeenColumn 19 = .ok (.if_icmp .ge 7, 3) := by decide +kernel
theorem dX8_isSeenColumn_22 : decode cX8_isSeenColumn 22 = .ok (.iconst 1, 1) := by decide +kernel
theorem dX8_isSeenColumn_23 : decode cX8_isSeenColumn 23 = .ok (.goto 4, 3) := by decide +kernel
theorem dX8_isSeenColumn_26 : decode cX8_isSeenColumn 26 = .ok (.iconst 0, 1) := by decide +kernel
theorem dX8_isSeenColumn_27 : decode cX8_isSeenColumn 27 = .ok (.ireturn, 1) := by decide +kernel
theorem dX8_putDraft_0 : decode cX8_putDraft 0 = .ok (.aload_n 0, 1) := by decide +kernel
theorem dX8_putDraft_1 : decode cX8_putDraft 1 = .ok (.getfield 19, 3) := by decide +kernel
theorem dX8_putDraft_4 : decode cX8_putDraft 4 = .ok (.iload_n 1, 1) := by decide +kernel
theorem dX8_putDraft_5 : decode cX8_putDraft 5 = .ok (.invokevirtual 104, 3) := by decide +kernel
theorem dX8_putDraft_8 : decode cX8_putDraft 8 = .ok (.istore_n 3, 1) := by decide +kernel
theorem dX8_putDraft_9 : decode cX8_putDraft 9 = .ok (.iload_n 3, 1) := by decide +kernel
theorem dX8_putDraft_10 : decode cX8_putDraft 10 = .ok (.ifCond .lt 15, 3) := by decide +kernel
theorem dX8_putDraft_13 : decode cX8_putDraft 13 = .ok (.aload_n 0, 1) := by decide +kernel
theorem dX8_putDraft_14 : decode cX8_putDraft 14 = .ok (.getfield 19, 3) := by decide +kernel
theorem dX8_putDraft_17 : decode cX8_putDraft 17 = .ok (.getfield 119, 3) := by decide +kernel
theorem dX8_putDraft_20 : decode cX8_putDraft 20 = .ok (.iload_n 3, 1) := by decide +kernel
theorem dX8_putDraft_21 : decode cX8_putDraft 21 = .ok (.aaload, 1) := by decide +kernel
theorem dX8_putDraft_22 : decode cX8_putDraft 22 = .ok (.goto 11, 3) := by decide +kernel
theorem dX8_putDraft_25 : decode cX8_putDraft 25 = .ok (.aload_n 0, 1) := by decide +kernel
theorem dX8_putDraft_26 : decode cX8_putDraft 26 = .ok (.getfield 19, 3) := by decide +kernel
theorem dX8_putDraft_29 : decode cX8_putDraft 29 = .ok (.iload_n 1, 1) := by decide +kernel
theorem dX8_putDraft_30 : decode cX8_putDraft 30 = .ok (.invokevirtual 220, 3) := by decide +kernel
theorem dX8_putDraft_33 : decode cX8_putDraft 33 = .ok (.astore 4, 2) := by decide +kernel
theorem dX8_putDraft_35 : decode cX8_putDraft 35 = .ok (.iload_n 2, 1) := by decide +kernel
theorem dX8_putDraft_36 : decode cX8_putDraft 36 = .ok (.ifCond .eq 46, 3) := by decide +kernel
theorem dX8_putDraft_39 : decode cX8_putDraft 39 = .ok (.aload_n 0, 1) := by decide +kernel
theorem dX8_putDraft_40 : decode cX8_putDraft 40 = .ok (.getfield 26, 3) := by decide +kernel
theorem dX8_putDraft_43 : decode cX8_putDraft 43 = .ok (.aload 4, 2) := by decide +kernel
theorem dX8_putDraft_45 : decode cX8_putDraft 45 = .ok (.getfield 139, 3) := by decide +kernel
theorem dX8_putDraft_48 : decode cX8_putDraft 48 = .ok (.aload_n 0, 1) := by decide +kernel
theorem dX8_putDraft_49 : decode cX8_putDraft 49 = .ok (.getfield 47, 3) := by decide +kernel
theorem dX8_putDraft_52 : decode cX8_putDraft 52 = .ok (.invokevirtual 224, 3) := by decide +kernel
theorem dX8_putDraft_55 : decode cX8_putDraft 55 = .ok (.aload_n 0, 1) := by decide +kernel
theorem dX8_putDraft_56 : decode cX8_putDraft 56 = .ok (.getfield 57, 3) := by decide +kernel
theorem dX8_putDraft_59 : decode cX8_putDraft 59 = .ok (.aload 4, 2) := by decide +kernel
theorem dX8_putDraft_61 : decode cX8_putDraft 61 = .ok (.getfield 139, 3) := by decide +kernel
theorem dX8_putDraft_64 : decode cX8_putDraft 64 = .ok (.aload 4, 2) := by decide +kernel
theorem dX8_putDraft_66 : decode cX8_putDraft 66 = .ok (.getfield 142, 3) := by decide +kernel
theorem dX8_putDraft_69 : decode cX8_putDraft 69 = .ok (.aload_n 0, 1) := by decide +kernel
theorem dX8_putDraft_70 : decode cX8_putDraft 70 = .ok (.getfield 44, 3) := by decide +kernel
theorem dX8_putDraft_73 : decode cX8_putDraft 73 = .ok (.getfield 152, 3) := by decide +kernel
theorem dX8_putDraft_76 : decode cX8_putDraft 76 = .ok (.invokevirtual 228, 3) := by decide +kernel
theorem dX8_putDraft_79 : decode cX8_putDraft 79 = .ok (.goto 43, 3) := by decide +kernel
theorem dX8_putDraft_82 : decode cX8_putDraft 82 = .ok (.aload_n 0, 1) := by decide +kernel
theorem dX8_putDraft_83 : decode cX8_putDraft 83 = .ok (.getfield 26, 3) := by decide +kernel
theorem dX8_putDraft_86 : decode cX8_putDraft 86 = .ok (.aload 4, 2) := by decide +kernel
theorem dX8_putDraft_88 : decode cX8_putDraft 88 = .ok (.getfield 142, 3) := by decide +kernel
theorem dX8_putDraft_91 : decode cX8_putDraft 91 = .ok (.aload_n 0, 1) := by decide +kernel
theorem dX8_putDraft_92 : decode cX8_putDraft 92 = .ok (.getfield 44, 3) := by decide +kernel
theorem dX8_putDraft_95 : decode cX8_putDraft 95 = .ok (.invokevirtual 224, 3) := by decide +kernel
theorem dX8_putDraft_98 : decode cX8_putDraft 98 = .ok (.aload_n 0, 1) := by decide +kernel
theorem dX8_putDraft_99 : decode cX8_putDraft 99 = .ok (.getfield 101, 3) := by decide +kernel
theorem dX8_putDraft_102 : decode cX8_putDraft 102 = .ok (.ifCond .eq 20, 3) := by decide +kernel
theorem dX8_putDraft_105 : decode cX8_putDraft 105 = .ok (.aload_n 0, 1) := by decide +kernel
theorem dX8_putDraft_106 : decode cX8_putDraft 106 = .ok (.getfield 57, 3) := by decide +kernel
theorem dX8_putDraft_109 : decode cX8_putDraft 109 = .ok (.aload 4, 2) := by decide +kernel
theorem dX8_putDraft_111 : decode cX8_putDraft 111 = .ok (.getfield 142, 3) := by decide +kernel
theorem dX8_putDraft_114 : decode cX8_putDraft 114 = .ok (.aload 4, 2) := by decide +kernel
theorem dX8_putDraft_116 : decode cX8_putDraft 116 = .ok (.getfield 139, 3) := by decide +kernel
theorem dX8_putDraft_119 : decode cX8_putDraft 119 = .ok (.invokevirtual 232, 3) := by decide +kernel
theorem dX8_putDraft_122 : decode cX8_putDraft 122 = .ok (.aload 4, 2) := by decide +kernel
theorem dX8_putDraft_124 : decode cX8_putDraft 124 = .ok (.invokevirtual 236, 3) := by decide +kernel
theorem dX8_putDraft_127 : decode cX8_putDraft 127 = .ok (.return_, 1) := by decide +kernel
theorem dX8_runPlan_0 : decode cX8_runPlan 0 = .ok (.aload_n 0, 1) := by decide +kernel
theorem dX8_runPlan_1 : decode cX8_runPlan 1 = .ok (.getfield 57, 3) := by decide +kernel
theorem dX8_runPlan_4 : decode cX8_runPlan 4 = .ok (.astore_n 1, 1) := by decide +kernel
theorem dX8_runPlan_5 : decode cX8_runPlan 5 = .ok (.aload_n 0, 1) := by decide +kernel
theorem dX8_runPlan_6 : decode cX8_runPlan 6 = .ok (.aload_n 0, 1) := by decide +kernel
theorem dX8_runPlan_7 : decode cX8_runPlan 7 = .ok (.getfield 53, 3) := by decide +kernel
theorem dX8_runPlan_10 : decode cX8_runPlan 10 = .ok (.putfield 57, 3) := by decide +kernel
theorem dX8_runPlan_13 : decode cX8_runPlan 13 = .ok (.aload_n 0, 1) := by decide +kernel
theorem dX8_runPlan_14 : decode cX8_runPlan 14 = .ok (.aload_n 1, 1) := by decide +kernel
theorem dX8_runPlan_15 : decode cX8_runPlan 15 = .ok (.putfield 53, 3) := by decide +kernel
theorem dX8_runPlan_18 : decode cX8_runPlan 18 = .ok (.aload_n 0, 1) := by decide +kernel
theorem dX8_runPlan_19 : decode cX8_runPlan 19 = .ok (.getfield 53, 3) := by decide +kernel
theorem dX8_runPlan_22 : decode cX8_runPlan 22 = .ok (.iconst 0, 1) := by decide +kernel
theorem dX8_runPlan_23 : decode cX8_runPlan 23 = .ok (.putfield 67, 3) := by decide +kernel
theorem dX8_runPlan_26 : decode cX8_runPlan 26 = .ok (.aload_n 0, 1) := by decide +kernel
theorem dX8_runPlan_27 : decode cX8_runPlan 27 = .ok (.iconst 1, 1) := by decide +kernel
theorem dX8_runPlan_28 : decode cX8_runPlan 28 = .ok (.putfield 101, 3) := by decide +kernel
theorem dX8_runPlan_31 : decode cX8_runPlan 31 = .ok (.iconst 0, 1) := by decide +kernel
theorem dX8_runPlan_32 : decode cX8_runPlan 32 = .ok (.istore_n 2, 1) := by decide +kernel
theorem dX8_runPlan_33 : decode cX8_runPlan 33 = .ok (.iload_n 2, 1) := by decide +kernel
theorem dX8_runPlan_34 : decode cX8_runPlan 34 = .ok (.aload_n 0, 1) := by decide +kernel
theorem dX8_runPlan_35 : decode cX8_runPlan 35 = .ok (.getfield 19, 3) := by decide +kernel
theorem dX8_runPlan_38 : decode cX8_runPlan 38 = .ok (.getfield 107, 3) := by decide +kernel
theorem dX8_runPlan_41 : decode cX8_runPlan 41 = .ok (.if_icmp .ge 38, 3) := by decide +kernel
theorem dX8_runPlan_44 : decode cX8_runPlan 44 = .ok (.aload_n 0, 1) := by decide +kernel
theorem dX8_runPlan_45 : decode cX8_runPlan 45 = .ok (.getfield 19, 3) := by decide +kernel
theorem dX8_runPlan_48 : decode cX8_runPlan 48 = .ok (.getfield 119, 3) := by decide +kernel
theorem dX8_runPlan_51 : decode cX8_runPlan 51 = .ok (.iload_n 2, 1) := by decide +kernel
theorem dX8_runPlan_52 : decode cX8_runPlan 52 = .ok (.aaload, 1) := by decide +kernel
theorem dX8_runPlan_53 : decode cX8_runPlan 53 = .ok (.astore_n 3, 1) := by decide +kernel
theorem dX8_runPlan_54 : decode cX8_runPlan 54 = .ok (.aload_n 0, 1) := by decide +kernel
theorem dX8_runPlan_55 : decode cX8_runPlan 55 = .ok (.getfield 57, 3) := by decide +kernel
theorem dX8_runPlan_58 : decode cX8_runPlan 58 = .ok (.aload_n 3, 1) := by decide +kernel
theorem dX8_runPlan_59 : decode cX8_runPlan 59 = .ok (.getfield 142, 3) := by decide +kernel
theorem dX8_runPlan_62 : decode cX8_runPlan 62 = .ok (.aload_n 3, 1) := by decide +kernel
theorem dX8_runPlan_63 : decode cX8_runPlan 63 = .ok (.getfield 139, 3) := by decide +kernel
theorem dX8_runPlan_66 : decode cX8_runPlan 66 = .ok (.invokevirtual 232, 3) := by decide +kernel
theorem dX8_runPlan_69 : decode cX8_runPlan 69 = .ok (.aload_n 3, 1) := by decide +kernel
theorem dX8_runPlan_70 : decode cX8_runPlan 70 = .ok (.invokevirtual 239, 3) := by decide +kernel
theorem dX8_runPlan_73 : decode cX8_runPlan 73 = .ok (.iinc 2 1, 3) := by decide +kernel
theorem dX8_runPlan_76 : decode cX8_runPlan 76 = .ok (.goto (-43), 3) := by decide +kernel
theorem dX8_runPlan_79 : decode cX8_runPlan 79 = .ok (.return_, 1) := by decide +kernel
theorem dX8_endRunning_0 : decode cX8_endRunning 0 = .ok (.aload_n 0, 1) := by decide +kernel
theorem dX8_endRunning_1 : decode cX8_endRunning 1 = .ok (.getfield 10, 3) := by decide +kernel
theorem dX8_endRunning_4 : decode cX8_endRunning 4 = .ok (.invokevirtual 94, 3) := by decide +kernel
theorem dX8_endRunning_7 : decode cX8_endRunning 7 = .ok (.aload_n 0, 1) := by decide +kernel
theorem dX8_endRunning_8 : decode cX8_endRunning 8 = .ok (.getfield 10, 3) := by decide +kernel
theorem dX8_endRunning_11 : decode cX8_endRunning 11 = .ok (.getfield 97, 3) := by decide +kernel
theorem dX8_endRunning_14 : decode cX8_endRunning 14 = .ok (.ifCond .eq 6, 3) := by decide +kernel
theorem dX8_endRunning_17 : decode cX8_endRunning 17 = .ok (.bipush (-8), 2) := by decide +kernel
theorem dX8_endRunning_19 : decode cX8_endRunning 19 = .ok (.ireturn, 1) := by decide +kernel
theorem dX8_endRunning_20 : decode cX8_endRunning 20 = .ok (.aload_n 0, 1) := by decide +kernel
theorem dX8_endRunning_21 : decode cX8_endRunning 21 = .ok (.getfield 101, 3) := by decide +kernel
theorem dX8_endRunning_24 : decode cX8_endRunning 24 = .ok (.ifCond .ne 6, 3) := by decide +kernel
theorem dX8_endRunning_27 : decode cX8_endRunning 27 = .ok (.bipush (-2), 2) := by decide +kernel
theorem dX8_endRunning_29 : decode cX8_endRunning 29 = .ok (.ireturn, 1) := by decide +kernel
theorem dX8_endRunning_30 : decode cX8_endRunning 30 = .ok (.aload_n 0, 1) := by decide +kernel
theorem dX8_endRunning_31 : decode cX8_endRunning 31 = .ok (.getfield 10, 3) := by decide +kernel
theorem dX8_endRunning_34 : decode cX8_endRunning 34 = .ok (.invokevirtual 108, 3) := by decide +kernel
theorem dX8_endRunning_37 : decode cX8_endRunning 37 = .ok (.ifCond .ne 6, 3) := by decide +kernel
theorem dX8_endRunning_40 : decode cX8_endRunning 40 = .ok (.bipush (-9), 2) := by decide +kernel
theorem dX8_endRunning_42 : decode cX8_endRunning 42 = .ok (.ireturn, 1) := by decide +kernel
theorem dX8_endRunning_43 : decode cX8_endRunning 43 = .ok (.aload_n 0, 1) := by decide +kernel
theorem dX8_endRunning_44 : decode cX8_endRunning 44 = .ok (.iconst 0, 1) := by decide +kernel
theorem dX8_endRunning_45 : decode cX8_endRunning 45 = .ok (.putfield 101, 3) := by decide +kernel
theorem dX8_endRunning_48 : decode cX8_endRunning 48 = .ok (.iconst 0, 1) := by decide +kernel
theorem dX8_endRunning_49 : decode cX8_endRunning 49 = .ok (.ireturn, 1) := by decide +kernel
theorem dX8_countWhenUp_0 : decode cX8_countWhenUp 0 = .ok (.iload_n 1, 1) := by decide +kernel
theorem dX8_countWhenUp_1 : decode cX8_countWhenUp 1 = .ok (.tableswitch 100 0 5 #[39, 44, 57, 65, 84, 92], 39) := by decide +kernel
theorem dX8_countWhenUp_40 : decode cX8_countWhenUp 40 = .ok (.aload_n 0, 1) := by decide +kernel
theorem dX8_countWhenUp_41 : decode cX8_countWhenUp 41 = .ok (.getfield 178, 3) := by decide +kernel
theorem dX8_countWhenUp_44 : decode cX8_countWhenUp 44 = .ok (.ireturn, 1) := by decide +kernel
theorem dX8_countWhenUp_45 : decode cX8_countWhenUp 45 = .ok (.aload_n 0, 1) := by decide +kernel
theorem dX8_countWhenUp_46 : decode cX8_countWhenUp 46 = .ok (.getfield 101, 3) := by decide +kernel
theorem dX8_countWhenUp_49 : decode cX8_countWhenUp 49 = .ok (.ifCond .eq 7, 3) := by decide +kernel
theorem dX8_countWhenUp_52 : decode cX8_countWhenUp 52 = .ok (.iconst 1, 1) := by decide +kernel
theorem dX8_countWhenUp_53 : decode cX8_countWhenUp 53 = .ok (.goto 4, 3) := by decide +kernel
theorem dX8_countWhenUp_56 : decode cX8_countWhenUp 56 = .ok (.iconst 0, 1) := by decide +kernel
theorem dX8_countWhenUp_57 : decode cX8_countWhenUp 57 = .ok (.ireturn, 1) := by decide +kernel
theorem dX8_countWhenUp_58 : decode cX8_countWhenUp 58 = .ok (.aload_n 0, 1) := by decide +kernel
theorem dX8_countWhenUp_59 : decode cX8_countWhenUp 59 = .ok (.getfield 44, 3) := by decide +kernel
theorem dX8_countWhenUp_62 : decode cX8_countWhenUp 62 = .ok (.getfield 152, 3) := by decide +kernel
theorem dX8_countWhenUp_65 : decode cX8_countWhenUp 65 = .ok (.ireturn, 1) := by decide +kernel
theorem dX8_countWhenUp_66 : decode cX8_countWhenUp 66 = .ok (.aload_n 0, 1) := by decide +kernel
theorem dX8_countWhenUp_67 : decode cX8_countWhenUp 67 = .ok (.getfield 101, 3) := by decide +kernel
theorem dX8_countWhenUp_70 : decode cX8_countWhenUp 70 = .ok (.ifCond .eq 13, 3) := by decide +kernel
theorem dX8_countWhenUp_73 : decode cX8_countWhenUp 73 = .ok (.aload_n 0, 1) := by decide +kernel
theorem dX8_countWhenUp_74 : decode cX8_countWhenUp 74 = .ok (.getfield 47, 3) := by decide +kernel
theorem dX8_countWhenUp_77 : decode cX8_countWhenUp 77 = .ok (.getfield 152, 3) := by decide +kernel
theorem dX8_countWhenUp_80 : decode cX8_countWhenUp 80 = .ok (.goto 4, 3) := by decide +kernel
theorem dX8_countWhenUp_83 : decode cX8_countWhenUp 83 = .ok (.iconst 0, 1) := by decide +kernel
theorem dX8_countWhenUp_84 : decode cX8_countWhenUp 84 = .ok (.ireturn, 1) := by decide +kernel
theorem dX8_countWhenUp_85 : decode cX8_countWhenUp 85 = .ok (.aload_n 0, 1) := by decide +kernel
theorem dX8_countWhenUp_86 : decode cX8_countWhenUp 86 = .ok (.getfield 19, 3) := by decide +kernel
theorem dX8_countWhenUp_89 : decode cX8_countWhenUp 89 = .ok (.getfield 107, 3) := by decide +kernel
theorem dX8_countWhenUp_92 : decode cX8_countWhenUp 92 = .ok (.ireturn, 1) := by decide +kernel
theorem dX8_countWhenUp_93 : decode cX8_countWhenUp 93 = .ok (.aload_n 0, 1) := by decide +kernel
theorem dX8_countWhenUp_94 : decode cX8_countWhenUp 94 = .ok (.getfield 19, 3) := by decide +kernel
theorem dX8_countWhenUp_97 : decode cX8_countWhenUp 97 = .ok (.invokevirtual 242, 3) := by decide +kernel
theorem dX8_countWhenUp_100 : decode cX8_countWhenUp 100 = .ok (.ireturn, 1) := by decide +kernel
theorem dX8_countWhenUp_101 : decode cX8_countWhenUp 101 = .ok (.aload_n 0, 1) := by decide +kernel
theorem dX8_countWhenUp_102 : decode cX8_countWhenUp 102 = .ok (.getfield 19, 3) := by decide +kernel
theorem dX8_countWhenUp_105 : decode cX8_countWhenUp 105 = .ok (.invokevirtual 175, 3) := by decide +kernel
theorem dX8_countWhenUp_108 : decode cX8_countWhenUp 108 = .ok (.ireturn, 1) := by decide +kernel
end
section
theorem dX9_init_0 : decode cX9_init 0 = .ok (.aload_n 0, 1) := by decide +kernel
theorem dX9_init_1 : decode cX9_init 1 = .ok (.invokespecial 1, 3) := by decide +kernel
theorem dX9_init_4 : decode cX9_init 4 = .ok (.aload_n 0, 1) := by decide +kernel
theorem dX9_init_5 : decode cX9_init 5 = .ok (.sipush 656, 3) := by decide +kernel
theorem dX9_init_8 : decode cX9_init 8 = .ok (.newarray .long, 2) := by decide +kernel
theorem dX9_init_10 : decode cX9_init 10 = .ok (.putfield 7, 3) := by decide +kernel
theorem dX9_init_13 : decode cX9_init 13 = .ok (.aload_n 0, 1) := by decide +kernel
theorem dX9_init_14 : decode cX9_init 14 = .ok (.sipush 656, 3) := by decide +kernel
theorem dX9_init_17 : decode cX9_init 17 = .ok (.newarray .int, 2) := by decide +kernel
theorem dX9_init_19 : decode cX9_init 19 = .ok (.putfield 13, 3) := by decide +kernel
theorem dX9_init_22 : decode cX9_init 22 = .ok (.aload_n 0, 1) := by decide +kernel
theorem dX9_init_23 : decode cX9_init 23 = .ok (.sipush 15744, 3) := by decide +kernel
theorem dX9_init_26 : decode cX9_init 26 = .ok (.newarray .int, 2) := by decide +kernel
theorem dX9_init_28 : decode cX9_init 28 = .ok (.putfield 17, 3) := by decide +kernel
theorem dX9_init_31 : decode cX9_init 31 = .ok (.aload_n 0, 1) := by decide +kernel
theorem dX9_init_32 : decode cX9_init 32 = .ok (.bipush 24, 2) := by decide +kernel
theorem dX9_init_34 : decode cX9_init 34 = .ok (.newarray .int, 2) := by decide +kernel
theorem dX9_init_36 : decode cX9_init 36 = .ok (.putfield 20, 3) := by decide +kernel
theorem dX9_init_39 : decode cX9_init 39 = .ok (.aload_n 0, 1) := by decide +kernel
theorem dX9_init_40 : decode cX9_init 40 = .ok (.bipush 40, 2) := by decide +kernel
theorem dX9_init_42 : decode cX9_init 42 = .ok (.newarray .int, 2) := by decide +kernel
theorem dX9_init_44 : decode cX9_init 44 = .ok (.putfield 23, 3) := by decide +kernel
theorem dX9_init_47 : decode cX9_init 47 = .ok (.aload_n 0, 1) := by decide +kernel
theorem dX9_init_48 : decode cX9_init 48 = .ok (.bipush 40, 2) := by decide +kernel
theorem dX9_init_50 : decode cX9_init 50 = .ok (.newarray .int, 2) := by decide +kernel
theorem dX9_init_52 : decode cX9_init 52 = .ok (.putfield 26, 3) := by decide +kernel
theorem dX9_init_55 : decode cX9_init 55 = .ok (.aload_n 0, 1) := by decide +kernel
theorem dX9_init_56 : decode cX9_init 56 = .ok (.bipush 40, 2) := by decide +kernel
theorem dX9_init_58 : decode cX9_init 58 = .ok (.newarray .int, 2) := by decide +kernel
theorem dX9_init_60 : decode cX9_init 60 = .ok (.putfield 29, 3) := by decide +kernel
theorem dX9_init_63 : decode cX9_init 63 = .ok (.aload_n 0, 1) := by decide +kernel
theorem dX9_init_64 : decode cX9_init 64 = .ok (.bipush 40, 2) := by decide +kernel
theorem dX9_init_66 : decode cX9_init 66 = .ok (.newarray .boolean, 2) := by decide +kernel
theorem dX9_init_68 : decode cX9_init 68 = .ok (.putfield 32, 3) := by decide +kernel
theorem dX9_init_71 : decode cX9_init 71 = .ok (.aload_n 0, 1) := by decide +kernel
theorem dX9_init_72 : decode cX9_init 72 = .ok (.bipush 40, 2) := by decide +kernel
theorem dX9_init_74 : decode cX9_init 74 = .ok (.newarray .boolean, 2) := by decide +kernel
theorem dX9_init_76 : decode cX9_init 76 = .ok (.putfield 36, 3) := by decide +kernel
theorem dX9_init_79 : decode cX9_init 79 = .ok (.aload_n 0, 1) := by decide +kernel
theorem dX9_init_80 : decode cX9_init 80 = .ok (.bipush 40, 2) := by decide +kernel
theorem dX9_init_82 : decode cX9_init 82 = .ok (.newarray .boolean, 2) := by decide +kernel
theorem dX9_init_84 : decode cX9_init 84 = .ok (.putfield 39, 3) := by decide +kernel
theorem dX9_init_87 : decode cX9_init 87 = .ok (.aload_n 0, 1) := by decide +kernel
theorem dX9_init_88 : decode cX9_init 88 = .ok (.bipush 24, 2) := by decide +kernel
theorem dX9_init_90 : decode cX9_init 90 = .ok (.newarray .int, 2) := by decide +kernel
theorem dX9_init_92 : decode cX9_init 92 = .ok (.putfield 42, 3) := by decide +kernel
theorem dX9_init_95 : decode cX9_init 95 = .ok (.aload_n 0, 1) := by decide +kernel
theorem dX9_init_96 : decode cX9_init 96 = .ok (.bipush 24, 2) := by decide +kernel
theorem dX9_init_98 : decode cX9_init 98 = .ok (.newarray .int, 2) := by decide +kernel
theorem dX9_init_100 : decode cX9_init 100 = .ok (.putfield 45, 3) := by decide +kernel
theorem dX9_init_103 : decode cX9_init 103 = .ok (.aload_n 0, 1) := by decide +kernel
theorem dX9_init_104 : decode cX9_init 104 = .ok (.iconst 3, 1) := by decide +kernel
theorem dX9_init_105 : decode cX9_init 105 = .ok (.newarray .int, 2) := by decide +kernel
theorem dX9_init_107 : decode cX9_init 107 = .ok (.putfield 48, 3) := by decide +kernel
theorem dX9_init_110 : decode cX9_init 110 = .ok (.aload_n 0, 1) := by decide +kernel
theorem dX9_init_111 : decode cX9_init 111 = .ok (.bipush 12, 2) := by decide +kernel
theorem dX9_init_113 : decode cX9_init 113 = .ok (.newarray .int, 2) := by decide +kernel
theorem dX9_init_115 : decode cX9_init 115 = .ok (.putfield 51, 3) := by decide +kernel
theorem dX9_init_118 : decode cX9_init 118 = .ok (.aload_n 0, 1) := by decide +kernel
theorem dX9_init_119 : decode cX9_init 119 = .ok (.bipush 12, 2) := by decide +kernel
theorem dX9_init_121 : decode cX9_init 121 = .ok (.newarray .int, 2) := by decide +kernel
theorem dX9_init_123 : decode cX9_init 123 = .ok (.putfield 54, 3) := by decide +kernel
theorem dX9_init_126 : decode cX9_init 126 = .ok (.aload_n 0, 1) := by decide +kernel
theorem dX9_init_127 : decode cX9_init 127 = .ok (.bipush 12, 2) := by decide +kernel
theorem dX9_init_129 : decode cX9_init 129 = .ok (.newarray .int, 2) := by decide +kernel
theorem dX9_init_131 : decode cX9_init 131 = .ok (.putfield 57, 3) := by decide +kernel
theorem dX9_init_134 : decode cX9_init 134 = .ok (.aload_n 0, 1) := by decide +kernel
theorem dX9_init_135 : decode cX9_init 135 = .ok (.bipush 12, 2) := by decide +kernel
theorem dX9_init_137 : decode cX9_init 137 = .ok (.newarray .int, 2) := by decide +kernel
theorem dX9_init_139 : decode cX9_init 139 = .ok (.putfield 60, 3) := by decide +kernel
theorem dX9_init_142 : decode cX9_init 142 = .ok (.aload_n 0, 1) := by decide +kernel
theorem dX9_init_143 : decode cX9_init 143 = .ok (.bipush 12, 2) := by decide +kernel
theorem dX9_init_145 : decode cX9_init 145 = .ok (.newarray .int, 2) := by decide +kernel
theorem dX9_init_147 : decode cX9_init 147 = .ok (.putfield 63, 3) := by decide +kernel
theorem dX9_init_150 : decode cX9_init 150 = .ok (.aload_n 0, 1) := by decide +kernel
theorem dX9_init_151 : decode cX9_init 151 = .ok (.bipush 8, 2) := by decide +kernel
theorem dX9_init_153 : decode cX9_init 153 = .ok (.newarray .int, 2) := by decide +kernel
theorem dX9_init_155 : decode cX9_init 155 = .ok (.putfield 66, 3) := by decide +kernel
theorem dX9_init_158 : decode cX9_init 158 = .ok (.aload_n 0, 1) := by decide +kernel
theorem dX9_init_159 : decode cX9_init 159 = .ok (.bipush 8, 2) := by decide +kernel
theorem dX9_init_161 : decode cX9_init 161 = .ok (.newarray .int, 2) := by decide +kernel
theorem dX9_init_163 : decode cX9_init 163 = .ok (.putfield 69, 3) := by decide +kernel
theorem dX9_init_166 : decode cX9_init 166 = .ok (.aload_n 0, 1) := by decide +kernel
theorem dX9_init_167 : decode cX9_init 167 = .ok (.bipush 8, 2) := by decide +kernel
theorem dX9_init_169 : decode cX9_init 169 = .ok (.newarray .int, 2) := by decide +kernel
theorem dX9_init_171 : decode cX9_init 171 = .ok (.putfield 72, 3) := by decide +kernel
theorem dX9_init_174 : decode cX9_init 174 = .ok (.aload_n 0, 1) := by decide +kernel
theorem dX9_init_175 : decode cX9_init 175 = .ok (.sipush 192, 3) := by decide +kernel
theorem dX9_init_178 : decode cX9_init 178 = .ok (.newarray .int, 2) := by decide +kernel
theorem dX9_init_180 : decode cX9_init 180 = .ok (.putfield 75, 3) := by decide +kernel
theorem dX9_init_183 : decode cX9_init 183 = .ok (.aload_n 0, 1) := by decide +kernel
theorem dX9_init_184 : decode cX9_init 184 = .ok (.iconst (-1), 1) := by decide +kernel
theorem dX9_init_185 : decode cX9_init 185 = .ok (.putfield 78, 3) := by decide +kernel
theorem dX9_init_188 : decode cX9_init 188 = .ok (.aload_n 0, 1) := by decide +kernel
theorem dX9_init_189 : decode cX9_init 189 = .ok (.bipush 8, 2) := by decide +kernel
theorem dX9_init_191 : decode cX9_init 191 = .ok (.newarray .int, 2) := by decide +kernel
theorem dX9_init_193 : decode cX9_init 193 = .ok (.putfield 82, 3) := by decide +kernel
theorem dX9_init_196 : decode cX9_init 196 = .ok (.aload_n 0, 1) := by decide +kernel
theorem dX9_init_197 : decode cX9_init 197 = .ok (.bipush 8, 2) := by decide +kernel
theorem dX9_init_199 : decode cX9_init 199 = .ok (.newarray .int, 2) := by decide +kernel
theorem dX9_init_201 : decode cX9_init 201 = .ok (.putfield 85, 3) := by decide +kernel
theorem dX9_init_204 : decode cX9_init 204 = .ok (.aload_n 0, 1) := by decide +kernel
theorem dX9_init_205 : decode cX9_init 205 = .ok (.bipush 8, 2) := by decide +kernel
theorem dX9_init_207 : decode cX9_init 207 = .ok (.newarray .boolean, 2) := by decide +kernel
theorem dX9_init_209 : decode cX9_init 209 = .ok (.putfield 88, 3) := by decide +kernel
theorem dX9_init_212 : decode cX9_init 212 = .ok (.aload_n 0, 1) := by decide +kernel
theorem dX9_init_213 : decode cX9_init 213 = .ok (.bipush 48, 2) := by decide +kernel
theorem dX9_init_215 : decode cX9_init 215 = .ok (.newarray .int, 2) := by decide +kernel
theorem dX9_init_217 : decode cX9_init 217 = .ok (.putfield 91, 3) := by decide +kernel
theorem dX9_init_220 : decode cX9_init 220 = .ok (.aload_n 0, 1) := by decide +kernel
theorem dX9_init_221 : decode cX9_init 221 = .ok (.bipush 8, 2) := by decide +kernel
theorem dX9_init_223 : decode cX9_init 223 = .ok (.newarray .int, 2) := by decide +kernel
theorem dX9_init_225 : decode cX9_init 225 = .ok (.putfield 94, 3) := by decide +kernel
theorem dX9_init_228 : decode cX9_init 228 = .ok (.return_, 1) := by decide +kernel
theorem dX9_isIn_0 : decode cX9_isIn 0 = .ok (.iload_n 0, 1) := by decide +kernel
theorem dX9_isIn_1 : decode cX9_isIn 1 = .ok (.iload_n 1, 1) := by decide +kernel
theorem dX9_isIn_2 : decode cX9_isIn 2 = .ok (.if_icmp .lt 12, 3) := by decide +kernel
theorem dX9_isIn_5 : decode cX9_isIn 5 = .ok (.iload_n 0, 1) := by decide +kernel
theorem dX9_isIn_6 : decode cX9_isIn 6 = .ok (.iload_n 2, 1) := by decide +kernel
theorem dX9_isIn_7 : decode cX9_isIn 7 = .ok (.if_icmp .gt 7, 3) := by decide +kernel
theorem dX9_isIn_10 : decode cX9_isIn 10 = .ok (.iconst 1, 1) := by decide +kernel
theorem dX9_isIn_11 : decode cX9_isIn 11 = .ok (.goto 4, 3) := by decide +kernel
theorem dX9_isIn_14 : decode cX9_isIn 14 = .ok (.iconst 0, 1) := by decide +kernel
theorem dX9_isIn_15 : decode cX9_isIn 15 = .ok (.ireturn, 1) := by decide +kernel
theorem dX9_clear_0 : decode cX9_clear 0 = .ok (.aload_n 0, 1) := by decide +kernel
theorem dX9_clear_1 : decode cX9_clear 1 = .ok (.getfield 7, 3) := by decide +kernel
theorem dX9_clear_4 : decode cX9_clear 4 = .ok (.iload_n 1, 1) := by decide +kernel
theorem dX9_clear_5 : decode cX9_clear 5 = .ok (.lconst 0, 1) := by decide +kernel
theorem dX9_clear_6 : decode cX9_clear 6 = .ok (.lastore, 1) := by decide +kernel
theorem dX9_clear_7 : decode cX9_clear 7 = .ok (.aload_n 0, 1) := by decide +kernel
theorem dX9_clear_8 : decode cX9_clear 8 = .ok (.getfield 13, 3) := by decide +kernel
theorem dX9_clear_11 : decode cX9_clear 11 = .ok (.iload_n 1, 1) := by decide +kernel
theorem dX9_clear_12 : decode cX9_clear 12 = .ok (.iconst 0, 1) := by decide +kernel
theorem dX9_clear_13 : decode cX9_clear 13 = .ok (.iastore, 1) := by decide +kernel
theorem dX9_clear_14 : decode cX9_clear 14 = .ok (.return_, 1) := by decide +kernel
theorem dX9_copy_0 : decode cX9_copy 0 = .ok (.aload_n 0, 1) := by decide +kernel
theorem dX9_copy_1 : decode cX9_copy 1 = .ok (.getfield 7, 3) := by decide +kernel
theorem dX9_copy_4 : decode cX9_copy 4 = .ok (.iload_n 2, 1) := by decide +kernel
theorem dX9_copy_5 : decode cX9_copy 5 = .ok (.aload_n 0, 1) := by decide +kernel
theorem dX9_copy_6 : decode cX9_copy 6 = .ok (.getfield 7, 3) := by decide +kernel
theorem dX9_copy_9 : decode cX9_copy 9 = .ok (.iload_n 1, 1) := by decide +kernel
theorem dX9_copy_10 : decode cX9_copy 10 = .ok (.laload, 1) := by decide +kernel
theorem dX9_copy_11 : decode cX9_copy 11 = .ok (.lastore, 1) := by decide +kernel
theorem dX9_copy_12 : decode cX9_copy 12 = .ok (.aload_n 0, 1) := by decide +kernel
theorem dX9_copy_13 : decode cX9_copy 13 = .ok (.getfield 13, 3) := by decide +kernel
theorem dX9_copy_16 : decode cX9_copy 16 = .ok (.iload_n 2, 1) := by decide +kernel
theorem dX9_copy_17 : decode cX9_copy 17 = .ok (.aload_n 0, 1) := by decide +kernel
theorem dX9_copy_18 : decode cX9_copy 18 = .ok (.getfield 13, 3) := by decide +kernel
theorem dX9_copy_21 : decode cX9_copy 21 = .ok (.iload_n 1, 1) := by decide +kernel
theorem dX9_copy_22 : decode cX9_copy 22 = .ok (.iaload, 1) := by decide +kernel
theorem dX9_copy_23 : decode cX9_copy 23 = .ok (.iastore, 1) := by decide +kernel
theorem dX9_copy_24 : decode cX9_copy 24 = .ok (.iconst 0, 1) := by decide +kernel
theorem dX9_copy_25 : decode cX9_copy 25 = .ok (.istore_n 3, 1) := by decide +kernel
theorem dX9_copy_26 : decode cX9_copy 26 = .ok (.iload_n 3, 1) := by decide +kernel
theorem dX9_copy_27 : decode cX9_copy 27 = .ok (.bipush 24, 2) := by decide +kernel
theorem dX9_copy_29 : decode cX9_copy 29 = .ok (.if_icmp .ge 31, 3) := by decide +kernel
theorem dX9_copy_32 : decode cX9_copy 32 = .ok (.aload_n 0, 1) := by decide +kernel
theorem dX9_copy_33 : decode cX9_copy 33 = .ok (.getfield 17, 3) := by decide +kernel
theorem dX9_copy_36 : decode cX9_copy 36 = .ok (.bipush 24, 2) := by decide +kernel
theorem dX9_copy_38 : decode cX9_copy 38 = .ok (.iload_n 2, 1) := by decide +kernel
theorem dX9_copy_39 : decode cX9_copy 39 = .ok (.imul, 1) := by decide +kernel
theorem dX9_copy_40 : decode cX9_copy 40 = .ok (.iload_n 3, 1) := by decide +kernel
theorem dX9_copy_41 : decode cX9_copy 41 = .ok (.iadd, 1) := by decide +kernel
theorem dX9_copy_42 : decode cX9_copy 42 = .ok (.aload_n 0, 1) := by decide +kernel
theorem dX9_copy_43 : decode cX9_copy 43 = .ok (.getfield 17, 3) := by decide +kernel
theorem dX9_copy_46 : decode cX9_copy 46 = .ok (.bipush 24, 2) := by decide +kernel
theorem dX9_copy_48 : decode cX9_copy 48 = .ok (.iload_n 1, 1) := by decide +kernel
theorem dX9_copy_49 : decode cX9_copy 49 = .ok (.imul, 1) := by decide +kernel
theorem dX9_copy_50 : decode cX9_copy 50 = .ok (.iload_n 3, 1) := by decide +kernel
theorem dX9_copy_51 : decode cX9_copy 51 = .ok (.iadd, 1) := by decide +kernel
theorem dX9_copy_52 : decode cX9_copy 52 = .ok (.iaload, 1) := by decide +kernel
theorem dX9_copy_53 : decode cX9_copy 53 = .ok (.iastore, 1) := by decide +kernel
theorem dX9_copy_54 : decode cX9_copy 54 = .ok (.iinc 3 1, 3) := by decide +kernel
theorem dX9_copy_57 : decode cX9_copy 57 = .ok (.goto (-31), 3) := by decide +kernel
theorem dX9_copy_60 : decode cX9_copy 60 = .ok (.return_, 1) := by decide +kernel
theorem dX9_copyForm_0 : decode cX9_copyForm 0 = .ok (.iconst 0, 1) := by decide +kernel
theorem dX9_copyForm_1 : decode cX9_copyForm 1 = .ok (.istore_n 3, 1) := by decide +kernel
theorem dX9_copyForm_2 : decode cX9_copyForm 2 = .ok (.iload_n 3, 1) := by decide +kernel
theorem dX9_copyForm_3 : decode cX9_copyForm 3 = .ok (.bipush 8, 2) := by decide +kernel
theorem dX9_copyForm_5 : decode cX9_copyForm 5 = .ok (.if_icmp .ge 19, 3) := by decide +kernel
theorem dX9_copyForm_8 : decode cX9_copyForm 8 = .ok (.aload_n 0, 1) := by decide +kernel
theorem dX9_copyForm_9 : decode cX9_copyForm 9 = .ok (.iload_n 1, 1) := by decide +kernel
theorem dX9_copyForm_10 : decode cX9_copyForm 10 = .ok (.iload_n 3, 1) := by decide +kernel
theorem dX9_copyForm_11 : decode cX9_copyForm 11 = .ok (.iadd, 1) := by decide +kernel
theorem dX9_copyForm_12 : decode cX9_copyForm 12 = .ok (.iload_n 2, 1) := by decide +kernel
theorem dX9_copyForm_13 : decode cX9_copyForm 13 = .ok (.iload_n 3, 1) := by decide +kernel
theorem dX9_copyForm_14 : decode cX9_copyForm 14 = .ok (.iadd, 1) := by decide +kernel
theorem dX9_copyForm_15 : decode cX9_copyForm 15 = .ok (.invokevirtual 97, 3) := by decide +kernel
theorem dX9_copyForm_18 : decode cX9_copyForm 18 = .ok (.iinc 3 1, 3) := by decide +kernel
theorem dX9_copyForm_21 : decode cX9_copyForm 21 = .ok (.goto (-19), 3) := by decide +kernel
theorem dX9_copyForm_24 : decode cX9_copyForm 24 = .ok (.return_, 1) := by decide +kernel
theorem dX9_tell_0 : decode cX9_tell 0 = .ok (.aload_n 0, 1) := by decide +kernel
theorem dX9_tell_1 : decode cX9_tell 1 = .ok (.iload_n 1, 1) := by decide +kernel
theorem dX9_tell_2 : decode cX9_tell 2 = .ok (.invokevirtual 101, 3) := by decide +kernel
theorem dX9_tell_5 : decode cX9_tell 5 = .ok (.iload_n 3, 1) := by decide +kernel
theorem dX9_tell_6 : decode cX9_tell 6 = .ok (.i2l, 1) := by decide +kernel
theorem dX9_tell_7 : decode cX9_tell 7 = .ok (.bipush 32, 2) := by decide +kernel
theorem dX9_tell_9 : decode cX9_tell 9 = .ok (.lshl, 1) := by decide +kernel
theorem dX9_tell_10 : decode cX9_tell 10 = .ok (.iload 4, 2) := by decide +kernel
theorem dX9_tell_12 : decode cX9_tell 12 = .ok (.i2l, 1) := by decide +kernel
theorem dX9_tell_13 : decode cX9_tell 13 = .ok (.ldc2_w 105, 3) := by decide +kernel
theorem dX9_tell_16 : decode cX9_tell 16 = .ok (.land, 1) := by decide +kernel
theorem dX9_tell_17 : decode cX9_tell 17 = .ok (.lor, 1) := by decide +kernel
theorem dX9_tell_18 : decode cX9_tell 18 = .ok (.lstore 5, 2) := by decide +kernel
theorem dX9_tell_20 : decode cX9_tell 20 = .ok (.iload_n 2, 1) := by decide +kernel
theorem dX9_tell_21 : decode cX9_tell 21 = .ok (.tableswitch 82 0 3 #[31, 44, 58, 71], 31) := by decide +kernel
theorem dX9_tell_52 : decode cX9_tell 52 = .ok (.aload_n 0, 1) := by decide +kernel
theorem dX9_tell_53 : decode cX9_tell 53 = .ok (.getfield 7, 3) := by decide +kernel
theorem dX9_tell_56 : decode cX9_tell 56 = .ok (.iload_n 1, 1) := by decide +kernel
theorem dX9_tell_57 : decode cX9_tell 57 = .ok (.lload 5, 2) := by decide +kernel
theorem dX9_tell_59 : decode cX9_tell 59 = .ok (.lconst 1, 1) := by decide +kernel
theorem dX9_tell_60 : decode cX9_tell 60 = .ok (.land, 1) := by decide +kernel
theorem dX9_tell_61 : decode cX9_tell 61 = .ok (.lastore, 1) := by decide +kernel
theorem dX9_tell_62 : decode cX9_tell 62 = .ok (.goto 71, 3) := by decide +kernel
theorem dX9_tell_65 : decode cX9_tell 65 = .ok (.aload_n 0, 1) := by decide +kernel
theorem dX9_tell_66 : decode cX9_tell 66 = .ok (.getfield 7, 3) := by decide +kernel
theorem dX9_tell_69 : decode cX9_tell 69 = .ok (.iload_n 1, 1) := by decide +kernel
theorem dX9_tell_70 : decode cX9_tell 70 = .ok (.lload 5, 2) := by decide +kernel
theorem dX9_tell_72 : decode cX9_tell 72 = .ok (.l2i, 1) := by decide +kernel
theorem dX9_tell_73 : decode cX9_tell 73 = .ok (.i2s, 1) := by decide +kernel
theorem dX9_tell_74 : decode cX9_tell 74 = .ok (.i2l, 1) := by decide +kernel
theorem dX9_tell_75 : decode cX9_tell 75 = .ok (.lastore, 1) := by decide +kernel
theorem dX9_tell_76 : decode cX9_tell 76 = .ok (.goto 57, 3) := by decide +kernel
theorem dX9_tell_79 : decode cX9_tell 79 = .ok (.aload_n 0, 1) := by decide +kernel
theorem dX9_tell_80 : decode cX9_tell 80 = .ok (.getfield 7, 3) := by decide +kernel
theorem dX9_tell_83 : decode cX9_tell 83 = .ok (.iload_n 1, 1) := by decide +kernel
theorem dX9_tell_84 : decode cX9_tell 84 = .ok (.lload 5, 2) := by decide +kernel
theorem dX9_tell_86 : decode cX9_tell 86 = .ok (.l2i, 1) := by decide +kernel
theorem dX9_tell_87 : decode cX9_tell 87 = .ok (.i2l, 1) := by decide +kernel
theorem dX9_tell_88 : decode cX9_tell 88 = .ok (.lastore, 1) := by decide +kernel
theorem dX9_tell_89 : decode cX9_tell 89 = .ok (.goto 44, 3) := by decide +kernel
theorem dX9_tell_92 : decode cX9_tell 92 = .ok (.aload_n 0, 1) := by decide +kernel
theorem dX9_tell_93 : decode cX9_tell 93 = .ok (.getfield 7, 3) := by decide +kernel
theorem dX9_tell_96 : decode cX9_tell 96 = .ok (.iload_n 1, 1) := by decide +kernel
theorem dX9_tell_97 : decode cX9_tell 97 = .ok (.lload 5, 2) := by decide +kernel
theorem dX9_tell_99 : decode cX9_tell 99 = .ok (.lastore, 1) := by decide +kernel
theorem dX9_tell_100 : decode cX9_tell 100 = .ok (.goto 33, 3) := by decide +kernel
theorem dX9_tell_103 : decode cX9_tell 103 = .ok (.bipush 56, 2) := by decide +kernel
theorem dX9_tell_105 : decode cX9_tell 105 = .ok (.istore 7, 2) := by decide +kernel
theorem dX9_tell_107 : decode cX9_tell 107 = .ok (.iload 7, 2) := by decide +kernel
theorem dX9_tell_109 : decode cX9_tell 109 = .ok (.ifCond .lt 24, 3) := by decide +kernel
theorem dX9_tell_112 : decode cX9_tell 112 = .ok (.aload_n 0, 1) := by decide +kernel
theorem dX9_tell_113 : decode cX9_tell 113 = .ok (.iload_n 1, 1) := by decide +kernel
theorem dX9_tell_114 : decode cX9_tell 114 = .ok (.lload 5, 2) := by decide +kernel
theorem dX9_tell_116 : decode cX9_tell 116 = .ok (.iload 7, 2) := by decide +kernel
theorem dX9_tell_118 : decode cX9_tell 118 = .ok (.lshr, 1) := by decide +kernel
theorem dX9_tell_119 : decode cX9_tell 119 = .ok (.l2i, 1) := by decide +kernel
theorem dX9_tell_120 : decode cX9_tell 120 = .ok (.sipush 255, 3) := by decide +kernel
theorem dX9_tell_123 : decode cX9_tell 123 = .ok (.iand, 1) := by decide +kernel
theorem dX9_tell_124 : decode cX9_tell 124 = .ok (.invokevirtual 107, 3) := by decide +kernel
theorem dX9_tell_127 : decode cX9_tell 127 = .ok (.iinc 7 (-8), 3) := by decide +kernel
theorem dX9_tell_130 : decode cX9_tell 130 = .ok (.goto (-23), 3) := by decide +kernel
theorem dX9_tell_133 : decode cX9_tell 133 = .ok (.return_, 1) := by decide +kernel
theorem dX9_addChar_0 : decode cX9_addChar 0 = .ok (.iload_n 2, 1) := by decide +kernel
theorem dX9_addChar_1 : decode cX9_addChar 1 = .ok (.ifCond .ne 4, 3) := by decide +kernel
theorem dX9_addChar_4 : decode cX9_addChar 4 = .ok (.return_, 1) := by decide +kernel
theorem dX9_addChar_5 : decode cX9_addChar 5 = .ok (.aload_n 0, 1) := by decide +kernel
theorem dX9_addChar_6 : decode cX9_addChar 6 = .ok (.getfield 17, 3) := by decide +kernel
theorem dX9_addChar_9 : decode cX9_addChar 9 = .ok (.bipush 24, 2) := by decide +kernel
theorem dX9_addChar_11 : decode cX9_addChar 11 = .ok (.iload_n 1, 1) := by decide +kernel
theorem dX9_addChar_12 : decode cX9_addChar 12 = .ok (.imul, 1) := by decide +kernel
theorem dX9_addChar_13 : decode cX9_addChar 13 = .ok (.aload_n 0, 1) := by decide +kernel
theorem dX9_addChar_14 : decode cX9_addChar 14 = .ok (.getfield 13, 3) := by decide +kernel
theorem dX9_addChar_17 : decode cX9_addChar 17 = .ok (.iload_n 1, 1) := by decide +kernel
theorem dX9_addChar_18 : decode cX9_addChar 18 = .ok (.iaload, 1) := by decide +kernel
theorem dX9_addChar_19 : decode cX9_addChar 19 = .ok (.iadd, 1) := by decide +kernel
theorem dX9_addChar_20 : decode cX9_addChar 20 = .ok (.iload_n 2, 1) := by decide +kernel
theorem dX9_addChar_21 : decode cX9_addChar 21 = .ok (.iastore, 1) := by decide +kernel
theorem dX9_addChar_22 : decode cX9_addChar 22 = .ok (.aload_n 0, 1) := by decide +kernel
theorem dX9_addChar_23 : decode cX9_addChar 23 = .ok (.getfield 13, 3) := by decide +kernel
theorem dX9_addChar_26 : decode cX9_addChar 26 = .ok (.iload_n 1, 1) := by decide +kernel
theorem dX9_addChar_27 : decode cX9_addChar 27 = .ok (.dup2, 1) := by decide +kernel
theorem dX9_addChar_28 : decode cX9_addChar 28 = .ok (.iaload, 1) := by decide +kernel
theorem dX9_addChar_29 : decode cX9_addChar 29 = .ok (.iconst 1, 1) := by decide +kernel
theorem dX9_addChar_30 : decode cX9_addChar 30 = .ok (.iadd, 1) := by decide +kernel
theorem dX9_addChar_31 : decode cX9_addChar 31 = .ok (.iastore, 1) := by decide +kernel
theorem dX9_addChar_32 : decode cX9_addChar 32 = .ok (.return_, 1) := by decide +kernel
theorem dX9_told_0 : decode cX9_told 0 = .ok (.aload_n 0, 1) := by decide +kernel
theorem dX9_told_1 : decode cX9_told 1 = .ok (.getfield 13, 3) := by decide +kernel
theorem dX9_told_4 : decode cX9_told 4 = .ok (.iload_n 1, 1) := by decide +kernel
theorem dX9_told_5 : decode cX9_told 5 = .ok (.iaload, 1) := by decide +kernel
theorem dX9_told_6 : decode cX9_told 6 = .ok (.istore_n 2, 1) := by decide +kernel
theorem dX9_told_7 : decode cX9_told 7 = .ok (.iload_n 2, 1) := by decide +kernel
theorem dX9_told_8 : decode cX9_told 8 = .ok (.ifCond .le 21, 3) := by decide +kernel
theorem dX9_told_11 : decode cX9_told 11 = .ok (.aload_n 0, 1) := by decide +kernel
theorem dX9_told_12 : decode cX9_told 12 = .ok (.getfield 17, 3) := by decide +kernel
theorem dX9_told_15 : decode cX9_told 15 = .ok (.bipush 24, 2) := by decide +kernel
theorem dX9_told_17 : decode cX9_told 17 = .ok (.iload_n 1, 1) := by decide +kernel
theorem dX9_told_18 : decode cX9_told 18 = .ok (.imul, 1) := by decide +kernel
theorem dX9_told_19 : decode cX9_told 19 = .ok (.iaload, 1) := by decide +kernel
theorem dX9_told_20 : decode cX9_told 20 = .ok (.bipush 45, 2) := by decide +kernel
theorem dX9_told_22 : decode cX9_told 22 = .ok (.if_icmp .ne 7, 3) := by decide +kernel
theorem dX9_told_25 : decode cX9_told 25 = .ok (.iconst 1, 1) := by decide +kernel
theorem dX9_told_26 : decode cX9_told 26 = .ok (.goto 4, 3) := by decide +kernel
theorem dX9_told_29 : decode cX9_told 29 = .ok (.iconst 0, 1) := by decide +kernel
theorem dX9_told_30 : decode cX9_told 30 = .ok (.istore_n 3, 1) := by decide +kernel
theorem dX9_told_31 : decode cX9_told 31 = .ok (.iload_n 2, 1) := by decide +kernel
theorem dX9_told_32 : decode cX9_told 32 = .ok (.iload_n 3, 1) := by decide +kernel
theorem dX9_told_33 : decode cX9_told 33 = .ok (.isub, 1) := by decide +kernel
theorem dX9_told_34 : decode cX9_told 34 = .ok (.iconst 1, 1) := by decide +kernel
theorem dX9_told_35 : decode cX9_told 35 = .ok (.bipush 18, 2) := by decide +kernel
theorem dX9_told_37 : decode cX9_told 37 = .ok (.invokestatic 110, 3) := by decide +kernel
theorem dX9_told_40 : decode cX9_told 40 = .ok (.ifCond .ne 5, 3) := by decide +kernel
theorem dX9_told_43 : decode cX9_told 43 = .ok (.lconst 0, 1) := by decide +kernel
theorem dX9_told_44 : decode cX9_told 44 = .ok (.lreturn, 1) := by decide +kernel
theorem dX9_told_45 : decode cX9_told 45 = .ok (.lconst 0, 1) := by decide +kernel
theorem dX9_told_46 : decode cX9_told 46 = .ok (.lstore 4, 2) := by decide +kernel
theorem dX9_told_48 : decode cX9_told 48 = .ok (.iload_n 3, 1) := by decide +kernel
theorem dX9_told_49 : decode cX9_told 49 = .ok (.istore 6, 2) := by decide +kernel
theorem dX9_told_51 : decode cX9_told 51 = .ok (.iload 6, 2) := by decide +kernel
theorem dX9_told_53 : decode cX9_told 53 = .ok (.iload_n 2, 1) := by decide +kernel
theorem dX9_told_54 : decode cX9_told 54 = .ok (.if_icmp .ge 51, 3) := by decide +kernel
theorem dX9_told_57 : decode cX9_told 57 = .ok (.aload_n 0, 1) := by decide +kernel
theorem dX9_told_58 : decode cX9_told 58 = .ok (.getfield 17, 3) := by decide +kernel
theorem dX9_told_61 : decode cX9_told 61 = .ok (.bipush 24, 2) := by decide +kernel
theorem dX9_told_63 : decode cX9_told 63 = .ok (.iload_n 1, 1) := by decide +kernel
theorem dX9_told_64 : decode cX9_told 64 = .ok (.imul, 1) := by decide +kernel
theorem dX9_told_65 : decode cX9_told 65 = .ok (.iload 6, 2) := by decide +kernel
theorem dX9_told_67 : decode cX9_told 67 = .ok (.iadd, 1) := by decide +kernel
theorem dX9_told_68 : decode cX9_told 68 = .ok (.iaload, 1) := by decide +kernel
theorem dX9_told_69 : decode cX9_told 69 = .ok (.bipush 48, 2) := by decide +kernel
theorem dX9_told_71 : decode cX9_told 71 = .ok (.isub, 1) := by decide +kernel
theorem dX9_told_72 : decode cX9_told 72 = .ok (.istore 7, 2) := by decide +kernel
theorem dX9_told_74 : decode cX9_told 74 = .ok (.iload 7, 2) := by decide +kernel
theorem dX9_told_76 : decode cX9_told 76 = .ok (.iconst 0, 1) := by decide +kernel
theorem dX9_told_77 : decode cX9_told 77 = .ok (.bipush 9, 2) := by decide +kernel
theorem dX9_told_79 : decode cX9_told 79 = .ok (.invokestatic 110, 3) := by decide +kernel
theorem dX9_told_82 : decode cX9_told 82 = .ok (.ifCond .ne 5, 3) := by decide +kernel
theorem dX9_told_85 : decode cX9_told 85 = .ok (.lconst 0, 1) := by decide +kernel
theorem dX9_told_86 : decode cX9_told 86 = .ok (.lreturn, 1) := by decide +kernel
theorem dX9_told_87 : decode cX9_told 87 = .ok (.ldc2_w 114, 3) := by decide +kernel
theorem dX9_told_90 : decode cX9_told 90 = .ok (.lload 4, 2) := by decide +kernel
theorem dX9_told_92 : decode cX9_told 92 = .ok (.lmul, 1) := by decide +kernel
theorem dX9_told_93 : decode cX9_told 93 = .ok (.iload 7, 2) := by decide +kernel
theorem dX9_told_95 : decode cX9_told 95 = .ok (.i2l, 1) := by decide +kernel
theorem dX9_told_96 : decode cX9_told 96 = .ok (.ladd, 1) := by decide +kernel
theorem dX9_told_97 : decode cX9_told 97 = .ok (.lstore 4, 2) := by decide +kernel
theorem dX9_told_99 : decode cX9_told 99 = .ok (.iinc 6 1, 3) := by decide +kernel
theorem dX9_told_102 : decode cX9_told 102 = .ok (.goto (-51), 3) := by decide +kernel
theorem dX9_told_105 : decode cX9_told 105 = .ok (.iload_n 3, 1) := by decide +kernel
theorem dX9_told_106 : decode cX9_told 106 = .ok (.iconst 1, 1) := by decide +kernel
theorem dX9_told_107 : decode cX9_told 107 = .ok (.if_icmp .ne 9, 3) := by decide +kernel
theorem dX9_told_110 : decode cX9_told 110 = .ok (.lload 4, 2) := by decide +kernel
theorem dX9_told_112 : decode cX9_told 112 = .ok (.lneg, 1) := by decide +kernel
theorem dX9_told_113 : decode cX9_told 113 = .ok (.goto 5, 3) := by decide +kernel
theorem dX9_told_116 : decode cX9_told 116 = .ok (.lload 4, 2) := by decide +kernel
theorem dX9_told_118 : decode cX9_told 118 = .ok (.lreturn, 1) := by decide +kernel
theorem dX9_putDigits_0 : decode cX9_putDigits 0 = .ok (.aload_n 0, 1) := by decide +kernel
theorem dX9_putDigits_1 : decode cX9_putDigits 1 = .ok (.iload_n 1, 1) := by decide +kernel
theorem dX9_putDigits_2 : decode cX9_putDigits 2 = .ok (.invokevirtual 101, 3) := by decide +kernel
theorem dX9_putDigits_5 : decode cX9_putDigits 5 = .ok (.iconst 0, 1) := by decide +kernel
theorem dX9_putDigits_6 : decode cX9_putDigits 6 = .ok (.istore 4, 2) := by decide +kernel
theorem dX9_putDigits_8 : decode cX9_putDigits 8 = .ok (.lload_n 2, 1) := by decide +kernel
theorem dX9_putDigits_9 : decode cX9_putDigits 9 = .ok (.lstore 5, 2) := by decide +kernel
theorem dX9_putDigits_11 : decode cX9_putDigits 11 = .ok (.iload 4, 2) := by decide +kernel
theorem dX9_putDigits_13 : decode cX9_putDigits 13 = .ok (.ifCond .eq 10, 3) := by decide +kernel
theorem dX9_putDigits_16 : decode cX9_putDigits 16 = .ok (.lload 5, 2) := by decide +kernel
theorem dX9_putDigits_18 : decode cX9_putDigits 18 = .ok (.lconst 0, 1) := by decide +kernel
theorem dX9_putDigits_19 : decode cX9_putDigits 19 = .ok (.lcmp, 1) := by decide +kernel
theorem dX9_putDigits_20 : decode cX9_putDigits 20 = .ok (.ifCond .eq 49, 3) := by decide +kernel
theorem dX9_putDigits_23 : decode cX9_putDigits 23 = .ok (.lload 5, 2) := by decide +kernel
theorem dX9_putDigits_25 : decode cX9_putDigits 25 = .ok (.ldc2_w 114, 3) := by decide +kernel
theorem dX9_putDigits_28 : decode cX9_putDigits 28 = .ok (.lrem, 1) := by decide +kernel
theorem dX9_putDigits_29 : decode cX9_putDigits 29 = .ok (.l2i, 1) := by decide +kernel
theorem dX9_putDigits_30 : decode cX9_putDigits 30 = .ok (.istore 7, 2) := by decide +kernel
theorem dX9_putDigits_32 : decode cX9_putDigits 32 = .ok (.aload_n 0, 1) := by decide +kernel
theorem dX9_putDigits_33 : decode cX9_putDigits 33 = .ok (.getfield 20, 3) := by decide +kernel
theorem dX9_putDigits_36 : decode cX9_putDigits 36 = .ok (.iload 4, 2) := by decide +kernel
theorem dX9_putDigits_38 : decode cX9_putDigits 38 = .ok (.bipush 48, 2) := by decide +kernel
theorem dX9_putDigits_40 : decode cX9_putDigits 40 = .ok (.iload 7, 2) := by decide +kernel
theorem dX9_putDigits_42 : decode cX9_putDigits 42 = .ok (.ifCond .ge 9, 3) := by decide +kernel
theorem dX9_putDigits_45 : decode cX9_putDigits 45 = .ok (.iload 7, 2) := by decide +kernel
theorem dX9_putDigits_47 : decode cX9_putDigits 47 = .ok (.ineg, 1) := by decide +kernel
theorem dX9_putDigits_48 : decode cX9_putDigits 48 = .ok (.goto 5, 3) := by decide +kernel
theorem dX9_putDigits_51 : decode cX9_putDigits 51 = .ok (.iload 7, 2) := by decide +kernel
theorem dX9_putDigits_53 : decode cX9_putDigits 53 = .ok (.iadd, 1) := by decide +kernel
theorem dX9_putDigits_54 : decode cX9_putDigits 54 = .ok (.iastore, 1) := by decide +kernel
theorem dX9_putDigits_55 : decode cX9_putDigits 55 = .ok (.lload 5, 2) := by decide +kernel
theorem dX9_putDigits_57 : decode cX9_putDigits 57 = .ok (.ldc2_w 114, 3) := by decide +kernel
theorem dX9_putDigits_60 : decode cX9_putDigits 60 = .ok (.ldiv, 1) := by decide +kernel
theorem dX9_putDigits_61 : decode cX9_putDigits 61 = .ok (.lstore 5, 2) := by decide +kernel
theorem dX9_putDigits_63 : decode cX9_putDigits 63 = .ok (.iinc 4 1, 3) := by decide +kernel
theorem dX9_putDigits_66 : decode cX9_putDigits 66 = .ok (.goto (-55), 3) := by decide +kernel
theorem dX9_putDigits_69 : decode cX9_putDigits 69 = .ok (.lload_n 2, 1) := by decide +kernel
theorem dX9_putDigits_70 : decode cX9_putDigits 70 = .ok (.lconst 0, 1) := by decide +kernel
theorem dX9_putDigits_71 : decode cX9_putDigits 71 = .ok (.lcmp, 1) := by decide +kernel
theorem dX9_putDigits_72 : decode cX9_putDigits 72 = .ok (.ifCond .ge 10, 3) := by decide +kernel
theorem dX9_putDigits_75 : decode cX9_putDigits 75 = .ok (.aload_n 0, 1) := by decide +kernel
theorem dX9_putDigits_76 : decode cX9_putDigits 76 = .ok (.iload_n 1, 1) := by decide +kernel
theorem dX9_putDigits_77 : decode cX9_putDigits 77 = .ok (.bipush 45, 2) := by decide +kernel
theorem dX9_putDigits_79 : decode cX9_putDigits 79 = .ok (.invokevirtual 107, 3) := by decide +kernel
theorem dX9_putDigits_82 : decode cX9_putDigits 82 = .ok (.iload 4, 2) := by decide +kernel
theorem dX9_putDigits_84 : decode cX9_putDigits 84 = .ok (.ifCond .le 21, 3) := by decide +kernel
theorem dX9_putDigits_87 : decode cX9_putDigits 87 = .ok (.iinc 4 (-1), 3) := by decide +kernel
theorem dX9_putDigits_90 : decode cX9_putDigits 90 = .ok (.aload_n 0, 1) := by decide +kernel
theorem dX9_putDigits_91 : decode cX9_putDigits 91 = .ok (.iload_n 1, 1) := by decide +kernel
theorem dX9_putDigits_92 : decode cX9_putDigits 92 = .ok (.aload_n 0, 1) := by decide +kernel
theorem dX9_putDigits_93 : decode cX9_putDigits 93 = .ok (.getfield 20, 3) := by decide +kernel
theorem dX9_putDigits_96 : decode cX9_putDigits 96 = .ok (.iload 4, 2) := by decide +kernel
theorem dX9_putDigits_98 : decode cX9_putDigits 98 = .ok (.iaload, 1) := by decide +kernel
theorem dX9_putDigits_99 : decode cX9_putDigits 99 = .ok (.invokevirtual 107, 3) := by decide +kernel
theorem dX9_putDigits_102 : decode cX9_putDigits 102 = .ok (.goto (-20), 3) := by decide +kernel
theorem dX9_putDigits_105 : decode cX9_putDigits 105 = .ok (.return_, 1) := by decide +kernel
theorem dX9_nearest_0 : decode cX9_nearest 0 = .ok (.lload_n 0, 1) := by decide +kernel
theorem dX9_nearest_1 : decode cX9_nearest 1 = .ok (.lload_n 2, 1) := by decide +kernel
theorem dX9_nearest_2 : decode cX9_nearest 2 = .ok (.lcmp, 1) := by decide +kernel
theorem dX9_nearest_3 : decode cX9_nearest 3 = .ok (.ifCond .ge 7, 3) := by decide +kernel
theorem dX9_nearest_6 : decode cX9_nearest 6 = .ok (.lload_n 2, 1) := by decide +kernel
theorem dX9_nearest_7 : decode cX9_nearest 7 = .ok (.goto 16, 3) := by decide +kernel
theorem dX9_nearest_10 : decode cX9_nearest 10 = .ok (.lload_n 0, 1) := by decide +kernel
theorem dX9_nearest_11 : decode cX9_nearest 11 = .ok (.lload 4, 2) := by decide +kernel
theorem dX9_nearest_13 : decode cX9_nearest 13 = .ok (.lcmp, 1) := by decide +kernel
theorem dX9_nearest_14 : decode cX9_nearest 14 = .ok (.ifCond .le 8, 3) := by decide +kernel
theorem dX9_nearest_17 : decode cX9_nearest 17 = .ok (.lload 4, 2) := by decide +kernel
theorem dX9_nearest_19 : decode cX9_nearest 19 = .ok (.goto 4, 3) := by decide +kernel
theorem dX9_nearest_22 : decode cX9_nearest 22 = .ok (.lload_n 0, 1) := by decide +kernel
theorem dX9_nearest_23 : decode cX9_nearest 23 = .ok (.lreturn, 1) := by decide +kernel
theorem dX9_become_0 : decode cX9_become 0 = .ok (.iload_n 2, 1) := by decide +kernel
theorem dX9_become_1 : decode cX9_become 1 = .ok (.iconst 4, 1) := by decide +kernel
theorem dX9_become_2 : decode cX9_become 2 = .ok (.if_icmp .ne 11, 3) := by decide +kernel
theorem dX9_become_5 : decode cX9_become 5 = .ok (.aload_n 0, 1) := by decide +kernel
theorem dX9_become_6 : decode cX9_become 6 = .ok (.iload_n 1, 1) := by decide +kernel
theorem dX9_become_7 : decode cX9_become 7 = .ok (.invokevirtual 116, 3) := by decide +kernel
theorem dX9_become_10 : decode cX9_become 10 = .ok (.goto 9, 3) := by decide +kernel
theorem dX9_become_13 : decode cX9_become 13 = .ok (.aload_n 0, 1) := by decide +kernel
theorem dX9_become_14 : decode cX9_become 14 = .ok (.getfield 7, 3) := by decide +kernel
theorem dX9_become_17 : decode cX9_become 17 = .ok (.iload_n 1, 1) := by decide +kernel
theorem dX9_become_18 : decode cX9_become 18 = .ok (.laload, 1) := by decide +kernel
theorem dX9_become_19 : decode cX9_become 19 = .ok (.lstore 4, 2) := by decide +kernel
theorem dX9_become_21 : decode cX9_become 21 = .ok (.aload_n 0, 1) := by decide +kernel
theorem dX9_become_22 : decode cX9_become 22 = .ok (.iload_n 1, 1) := by decide +kernel
theorem dX9_become_23 : decode cX9_become 23 = .ok (.invokevirtual 101, 3) := by decide +kernel
theorem dX9_become_26 : decode cX9_become 26 = .ok (.iload_n 3, 1) := by decide +kernel
theorem dX9_become_27 : decode cX9_become 27 = .ok (.tableswitch 101 0 3 #[29, 50, 70, 90], 29) := by decide +kernel
theorem dX9_become_56 : decode cX9_become 56 = .ok (.aload_n 0, 1) := by decide +kernel
theorem dX9_become_57 : decode cX9_become 57 = .ok (.getfield 7, 3) := by decide +kernel
theorem dX9_become_60 : decode cX9_become 60 = .ok (.iload_n 1, 1) := by decide +kernel
theorem dX9_become_61 : decode cX9_become 61 = .ok (.lload 4, 2) := by decide +kernel
theorem dX9_become_63 : decode cX9_become 63 = .ok (.lconst 0, 1) := by decide +kernel
theorem dX9_become_64 : decode cX9_become 64 = .ok (.lcmp, 1) := by decide +kernel
theorem dX9_become_65 : decode cX9_become 65 = .ok (.ifCond .eq 7, 3) := by decide +kernel
theorem dX9_become_68 : decode cX9_become 68 = .ok (.lconst 1, 1) := by decide +kernel
theorem dX9_become_69 : decode cX9_become 69 = .ok (.goto 4, 3) := by decide +kernel
theorem dX9_become_72 : decode cX9_become 72 = .ok (.lconst 0, 1) := by decide +kernel
theorem dX9_become_73 : decode cX9_become 73 = .ok (.lastore, 1) := by decide +kernel
theorem dX9_become_74 : decode cX9_become 74 = .ok (.goto 61, 3) := by decide +kernel
theorem dX9_become_77 : decode cX9_become 77 = .ok (.aload_n 0, 1) := by decide +kernel
theorem dX9_become_78 : decode cX9_become 78 = .ok (.getfield 7, 3) := by decide +kernel
theorem dX9_become_81 : decode cX9_become 81 = .ok (.iload_n 1, 1) := by decide +kernel
theorem dX9_become_82 : decode cX9_become 82 = .ok (.lload 4, 2) := by decide +kernel
theorem dX9_become_84 : decode cX9_become 84 = .ok (.ldc2_w 120, 3) := by decide +kernel
theorem dX9_become_87 : decode cX9_become 87 = .ok (.ldc2_w 122, 3) := by decide +kernel
theorem dX9_become_90 : decode cX9_become 90 = .ok (.invokestatic 124, 3) := by decide +kernel
theorem dX9_become_93 : decode cX9_become 93 = .ok (.lastore, 1) := by decide +kernel
theorem dX9_become_94 : decode cX9_become 94 = .ok (.goto 41, 3) := by decide +kernel
theorem dX9_become_97 : decode cX9_become 97 = .ok (.aload_n 0, 1) := by decide +kernel
theorem dX9_become_98 : decode cX9_become 98 = .ok (.getfield 7, 3) := by decide +kernel
theorem dX9_become_101 : decode cX9_become 101 = .ok (.iload_n 1, 1) := by decide +kernel
theorem dX9_become_102 : decode cX9_become 102 = .ok (.lload 4, 2) := by decide +kernel
theorem dX9_become_104 : decode cX9_become 104 = .ok (.ldc2_w 128, 3) := by decide +kernel
theorem dX9_become_107 : decode cX9_become 107 = .ok (.ldc2_w 130, 3) := by decide +kernel
theorem dX9_become_110 : decode cX9_become 110 = .ok (.invokestatic 124, 3) := by decide +kernel
theorem dX9_become_113 : decode cX9_become 113 = .ok (.lastore, 1) := by decide +kernel
theorem dX9_become_114 : decode cX9_become 114 = .ok (.goto 21, 3) := by decide +kernel
theorem dX9_become_117 : decode cX9_become 117 = .ok (.aload_n 0, 1) := by decide +kernel
theorem dX9_become_118 : decode cX9_become 118 = .ok (.getfield 7, 3) := by decide +kernel
theorem dX9_become_121 : decode cX9_become 121 = .ok (.iload_n 1, 1) := by decide +kernel
theorem dX9_become_122 : decode cX9_become 122 = .ok (.lload 4, 2) := by decide +kernel
theorem dX9_become_124 : decode cX9_become 124 = .ok (.lastore, 1) := by decide +kernel
theorem dX9_become_125 : decode cX9_become 125 = .ok (.goto 10, 3) := by decide +kernel
theorem dX9_become_128 : decode cX9_become 128 = .ok (.aload_n 0, 1) := by decide +kernel
theorem dX9_become_129 : decode cX9_become 129 = .ok (.iload_n 1, 1) := by decide +kernel
theorem dX9_become_130 : decode cX9_become 130 = .ok (.lload 4, 2) := by decide +kernel
theorem dX9_become_132 : decode cX9_become 132 = .ok (.invokevirtual 132, 3) := by decide +kernel
theorem dX9_become_135 : decode cX9_become 135 = .ok (.return_, 1) := by decide +kernel
theorem dX9_canBecome_0 : decode cX9_canBecome 0 = .ok (.iload_n 0, 1) := by decide +kernel
theorem dX9_canBecome_1 : decode cX9_canBecome 1 = .ok (.iload_n 1, 1) := by decide +kernel
theorem dX9_canBecome_2 : decode cX9_canBecome 2 = .ok (.if_icmp .ne 5, 3) := by decide +kernel
theorem dX9_canBecome_5 : decode cX9_canBecome 5 = .ok (.iconst 0, 1) := by decide +kernel
theorem dX9_canBecome_6 : decode cX9_canBecome 6 = .ok (.ireturn, 1) := by decide +kernel
theorem dX9_canBecome_7 : decode cX9_canBecome 7 = .ok (.iload_n 0, 1) := by decide +kernel
theorem dX9_canBecome_8 : decode cX9_canBecome 8 = .ok (.iconst 4, 1) := by decide +kernel
theorem dX9_canBecome_9 : decode cX9_canBecome 9 = .ok (.if_icmp .ne 19, 3) := by decide +kernel
theorem dX9_canBecome_12 : decode cX9_canBecome 12 = .ok (.iload_n 1, 1) := by decide +kernel
theorem dX9_canBecome_13 : decode cX9_canBecome 13 = .ok (.iconst 2, 1) := by decide +kernel
theorem dX9_canBecome_14 : decode cX9_canBecome 14 = .ok (.if_icmp .eq 8, 3) := by decide +kernel
theorem dX9_canBecome_17 : decode cX9_canBecome 17 = .ok (.iload_n 1, 1) := by decide +kernel
theorem dX9_canBecome_18 : decode cX9_canBecome 18 = .ok (.iconst 3, 1) := by decide +kernel
theorem dX9_canBecome_19 : decode cX9_canBecome 19 = .ok (.if_icmp .ne 7, 3) := by decide +kernel
theorem dX9_canBecome_22 : decode cX9_canBecome 22 = .ok (.iconst 1, 1) := by decide +kernel
theorem dX9_canBecome_23 : decode cX9_canBecome 23 = .ok (.goto 4, 3) := by decide +kernel
theorem dX9_canBecome_26 : decode cX9_canBecome 26 = .ok (.iconst 0, 1) := by decide +kernel
theorem dX9_canBecome_27 : decode cX9_canBecome 27 = .ok (.ireturn, 1) := by decide +kernel
theorem dX9_canBecome_28 : decode cX9_canBecome 28 = .ok (.iload_n 1, 1) := by decide +kernel
theorem dX9_canBecome_29 : decode cX9_canBecome 29 = .ok (.iconst 4, 1) := by decide +kernel
theorem dX9_canBecome_30 : decode cX9_canBecome 30 = .ok (.if_icmp .ne 13, 3) := by decide +kernel
theorem dX9_canBecome_33 : decode cX9_canBecome 33 = .ok (.iload_n 0, 1) := by decide +kernel
theorem dX9_canBecome_34 : decode cX9_canBecome 34 = .ok (.iconst 2, 1) := by decide +kernel
theorem dX9_canBecome_35 : decode cX9_canBecome 35 = .ok (.if_icmp .eq 8, 3) := by decide +kernel
theorem dX9_canBecome_38 : decode cX9_canBecome 38 = .ok (.iload_n 0, 1) := by decide +kernel
theorem dX9_canBecome_39 : decode cX9_canBecome 39 = .ok (.iconst 3, 1) := by decide +kernel
theorem dX9_canBecome_40 : decode cX9_canBecome 40 = .ok (.if_icmp .ne 7, 3) := by decide +kernel
theorem dX9_canBecome_43 : decode cX9_canBecome 43 = .ok (.iconst 1, 1) := by decide +kernel
theorem dX9_canBecome_44 : decode cX9_canBecome 44 = .ok (.goto 4, 3) := by decide +kernel
theorem dX9_canBecome_47 : decode cX9_canBecome 47 = .ok (.iconst 0, 1) := by decide +kernel
theorem dX9_canBecome_48 : decode cX9_canBecome 48 = .ok (.ireturn, 1) := by decide +kernel
theorem dX9_copySchema_0 : decode cX9_copySchema 0 = .ok (.iconst 0, 1) := by decide +kernel
theorem dX9_copySchema_1 : decode cX9_copySchema 1 = .ok (.istore_n 3, 1) := by decide +kernel
theorem dX9_copySchema_2 : decode cX9_copySchema 2 = .ok (.iload_n 3, 1) := by decide +kernel
theorem dX9_copySchema_3 : decode cX9_copySchema 3 = .ok (.bipush 8, 2) := by decide +kernel
theorem dX9_copySchema_5 : decode cX9_copySchema 5 = .ok (.if_icmp .ge 53, 3) := by decide +kernel
theorem dX9_copySchema_8 : decode cX9_copySchema 8 = .ok (.aload_n 0, 1) := by decide +kernel
theorem dX9_copySchema_9 : decode cX9_copySchema 9 = .ok (.getfield 42, 3) := by decide +kernel
theorem dX9_copySchema_12 : decode cX9_copySchema 12 = .ok (.bipush 8, 2) := by decide +kernel
theorem dX9_copySchema_14 : decode cX9_copySchema 14 = .ok (.iload_n 2, 1) := by decide +kernel
theorem dX9_copySchema_15 : decode cX9_copySchema 15 = .ok (.imul, 1) := by decide +kernel
theorem dX9_copySchema_16 : decode cX9_copySchema 16 = .ok (.iload_n 3, 1) := by decide +kernel
theorem dX9_copySchema_17 : decode cX9_copySchema 17 = .ok (.iadd, 1) := by decide +kernel
theorem dX9_copySchema_18 : decode cX9_copySchema 18 = .ok (.aload_n 0, 1) := by decide +kernel
theorem dX9_copySchema_19 : decode cX9_copySchema 19 = .ok (.getfield 42, 3) := by decide +kernel
theorem dX9_copySchema_22 : decode cX9_copySchema 22 = .ok (.bipush 8, 2) := by decide +kernel
theorem dX9_copySchema_24 : decode cX9_copySchema 24 = .ok (.iload_n 1, 1) := by decide +kernel
theorem dX9_copySchema_25 : decode cX9_copySchema 25 = .ok (.imul, 1) := by decide +kernel
theorem dX9_copySchema_26 : decode cX9_copySchema 26 = .ok (.iload_n 3, 1) := by decide +kernel
theorem dX9_copySchema_27 : decode cX9_copySchema 27 = .ok (.iadd, 1) := by decide +kernel
theorem dX9_copySchema_28 : decode cX9_copySchema 28 = .ok (.iaload, 1) := by decide +kernel
theorem dX9_copySchema_29 : decode cX9_copySchema 29 = .ok (.iastore, 1) := by decide +kernel
theorem dX9_copySchema_30 : decode cX9_copySchema 30 = .ok (.aload_n 0, 1) := by decide +kernel
theorem dX9_copySchema_31 : decode cX9_copySchema 31 = .ok (.getfield 45, 3) := by decide +kernel
theorem dX9_copySchema_34 : decode cX9_copySchema 34 = .ok (.bipush 8, 2) := by decide +kernel
theorem dX9_copySchema_36 : decode cX9_copySchema 36 = .ok (.iload_n 2, 1) := by decide +kernel
theorem dX9_copySchema_37 : decode cX9_copySchema 37 = .ok (.imul, 1) := by decide +kernel
theorem dX9_copySchema_38 : decode cX9_copySchema 38 = .ok (.iload_n 3, 1) := by decide +kernel
theorem dX9_copySchema_39 : decode cX9_copySchema 39 = .ok (.iadd, 1) := by decide +kernel
theorem dX9_copySchema_40 : decode cX9_copySchema 40 = .ok (.aload_n 0, 1) := by decide +kernel
theorem dX9_copySchema_41 : decode cX9_copySchema 41 = .ok (.getfield 45, 3) := by decide +kernel
theorem dX9_copySchema_44 : decode cX9_copySchema 44 = .ok (.bipush 8, 2) := by decide +kernel
theorem dX9_copySchema_46 : decode cX9_copySchema 46 = .ok (.iload_n 1, 1) := by decide +kernel
theorem dX9_copySchema_47 : decode cX9_copySchema 47 = .ok (.imul, 1) := by decide +kernel
theorem dX9_copySchema_48 : decode cX9_copySchema 48 = .ok (.iload_n 3, 1) := by decide +kernel
theorem dX9_copySchema_49 : decode cX9_copySchema 49 = .ok (.iadd, 1) := by decide +kernel
theorem dX9_copySchema_50 : decode cX9_copySchema 50 = .ok (.iaload, 1) := by decide +kernel
theorem dX9_copySchema_51 : decode cX9_copySchema 51 = .ok (.iastore, 1) := by decide +kernel
theorem dX9_copySchema_52 : decode cX9_copySchema 52 = .ok (.iinc 3 1, 3) := by decide +kernel
theorem dX9_copySchema_55 : decode cX9_copySchema 55 = .ok (.goto (-53), 3) := by decide +kernel
theorem dX9_copySchema_58 : decode cX9_copySchema 58 = .ok (.aload_n 0, 1) := by decide +kernel
theorem dX9_copySchema_59 : decode cX9_copySchema 59 = .ok (.getfield 48, 3) := by decide +kernel
theorem dX9_copySchema_62 : decode cX9_copySchema 62 = .ok (.iload_n 2, 1) := by decide +kernel
theorem dX9_copySchema_63 : decode cX9_copySchema 63 = .ok (.aload_n 0, 1) := by decide +kernel
theorem dX9_copySchema_64 : decode cX9_copySchema 64 = .ok (.getfield 48, 3) := by decide +kernel
theorem dX9_copySchema_67 : decode cX9_copySchema 67 = .ok (.iload_n 1, 1) := by decide +kernel
theorem dX9_copySchema_68 : decode cX9_copySchema 68 = .ok (.iaload, 1) := by decide +kernel
theorem dX9_copySchema_69 : decode cX9_copySchema 69 = .ok (.iastore, 1) := by decide +kernel
theorem dX9_copySchema_70 : decode cX9_copySchema 70 = .ok (.return_, 1) := by decide +kernel
theorem dX9_place_0 : decode cX9_place 0 = .ok (.iconst (-1), 1) := by decide +kernel
theorem dX9_place_1 : decode cX9_place 1 = .ok (.istore_n 2, 1) := by decide +kernel
theorem dX9_place_2 : decode cX9_place 2 = .ok (.iconst 0, 1) := by decide +kernel
theorem dX9_place_3 : decode cX9_place 3 = .ok (.istore_n 3, 1) := by decide +kernel
theorem dX9_place_4 : decode cX9_place 4 = .ok (.iload_n 3, 1) := by decide +kernel
theorem dX9_place_5 : decode cX9_place 5 = .ok (.aload_n 0, 1) := by decide +kernel
theorem dX9_place_6 : decode cX9_place 6 = .ok (.getfield 48, 3) := by decide +kernel
theorem dX9_place_9 : decode cX9_place 9 = .ok (.iconst 2, 1) := by decide +kernel
theorem dX9_place_10 : decode cX9_place 10 = .ok (.iaload, 1) := by decide +kernel
theorem dX9_place_11 : decode cX9_place 11 = .ok (.if_icmp .ge 28, 3) := by decide +kernel
theorem dX9_place_14 : decode cX9_place 14 = .ok (.aload_n 0, 1) := by decide +kernel
theorem dX9_place_15 : decode cX9_place 15 = .ok (.getfield 42, 3) := by decide +kernel
theorem dX9_place_18 : decode cX9_place 18 = .ok (.bipush 16, 2) := by decide +kernel
theorem dX9_place_20 : decode cX9_place 20 = .ok (.iload_n 3, 1) := by decide +kernel
theorem dX9_place_21 : decode cX9_place 21 = .ok (.iadd, 1) := by decide +kernel
theorem dX9_place_22 : decode cX9_place 22 = .ok (.iaload, 1) := by decide +kernel
theorem dX9_place_23 : decode cX9_place 23 = .ok (.iload_n 1, 1) := by decide +kernel
theorem dX9_place_24 : decode cX9_place 24 = .ok (.if_icmp .ne 7, 3) := by decide +kernel
theorem dX9_place_27 : decode cX9_place 27 = .ok (.iload_n 3, 1) := by decide +kernel
theorem dX9_place_28 : decode cX9_place 28 = .ok (.goto 4, 3) := by decide +kernel
theorem dX9_place_31 : decode cX9_place 31 = .ok (.iload_n 2, 1) := by decide +kernel
theorem dX9_place_32 : decode cX9_place 32 = .ok (.istore_n 2, 1) := by decide +kernel
theorem dX9_place_33 : decode cX9_place 33 = .ok (.iinc 3 1, 3) := by decide +kernel
theorem dX9_place_36 : decode cX9_place 36 = .ok (.goto (-32), 3) := by decide +kernel
theorem dX9_place_39 : decode cX9_place 39 = .ok (.iload_n 2, 1) := by decide +kernel
theorem dX9_place_40 : decode cX9_place 40 = .ok (.ireturn, 1) := by decide +kernel
theorem dX9_isWrong_0 : decode cX9_isWrong 0 = .ok (.aload_n 0, 1) := by decide +kernel
theorem dX9_isWrong_1 : decode cX9_isWrong 1 = .ok (.aload_n 0, 1) := by decide +kernel
theorem dX9_isWrong_2 : decode cX9_isWrong 2 = .ok (.getfield 54, 3) := by decide +kernel
theorem dX9_isWrong_5 : decode cX9_isWrong 5 = .ok (.iload_n 1, 1) := by decide +kernel
theorem dX9_isWrong_6 : decode cX9_isWrong 6 = .ok (.iaload, 1) := by decide +kernel
theorem dX9_isWrong_7 : decode cX9_isWrong 7 = .ok (.invokevirtual 136, 3) := by decide +kernel
theorem dX9_isWrong_10 : decode cX9_isWrong 10 = .ok (.istore_n 2, 1) := by decide +kernel
theorem dX9_isWrong_11 : decode cX9_isWrong 11 = .ok (.aload_n 0, 1) := by decide +kernel
theorem dX9_isWrong_12 : decode cX9_isWrong 12 = .ok (.getfield 51, 3) := by decide +kernel
theorem dX9_isWrong_15 : decode cX9_isWrong 15 = .ok (.iload_n 1, 1) := by decide +kernel
theorem dX9_isWrong_16 : decode cX9_isWrong 16 = .ok (.iaload, 1) := by decide +kernel
theorem dX9_isWrong_17 : decode cX9_isWrong 17 = .ok (.tableswitch 81 0 2 #[27, 48, 58], 27) := by decide +kernel
theorem dX9_isWrong_44 : decode cX9_isWrong 44 = .ok (.iload_n 2, 1) := by decide +kernel
theorem dX9_isWrong_45 : decode cX9_isWrong 45 = .ok (.ifCond .ge 14, 3) := by decide +kernel
theorem dX9_isWrong_48 : decode cX9_isWrong 48 = .ok (.aload_n 0, 1) := by decide +kernel
theorem dX9_isWrong_49 : decode cX9_isWrong 49 = .ok (.getfield 48, 3) := by decide +kernel
theorem dX9_isWrong_52 : decode cX9_isWrong 52 = .ok (.iconst 2, 1) := by decide +kernel
theorem dX9_isWrong_53 : decode cX9_isWrong 53 = .ok (.iaload, 1) := by decide +kernel
theorem dX9_isWrong_54 : decode cX9_isWrong 54 = .ok (.bipush 8, 2) := by decide +kernel
theorem dX9_isWrong_56 : decode cX9_isWrong 56 = .ok (.if_icmp .ne 7, 3) := by decide +kernel
theorem dX9_isWrong_59 : decode cX9_isWrong 59 = .ok (.iconst 1, 1) := by decide +kernel
theorem dX9_isWrong_60 : decode cX9_isWrong 60 = .ok (.goto 4, 3) := by decide +kernel
theorem dX9_isWrong_63 : decode cX9_isWrong 63 = .ok (.iconst 0, 1) := by decide +kernel
theorem dX9_isWrong_64 : decode cX9_isWrong 64 = .ok (.ireturn, 1) := by decide +kernel
theorem dX9_isWrong_65 : decode cX9_isWrong 65 = .ok (.iload_n 2, 1) := by decide +kernel
theorem dX9_isWrong_66 : decode cX9_isWrong 66 = .ok (.ifCond .ge 7, 3) := by decide +kernel
theorem dX9_isWrong_69 : decode cX9_isWrong 69 = .ok (.iconst 1, 1) := by decide +kernel
theorem dX9_isWrong_70 : decode cX9_isWrong 70 = .ok (.goto 4, 3) := by decide +kernel
theorem dX9_isWrong_73 : decode cX9_isWrong 73 = .ok (.iconst 0, 1) := by decide +kernel
theorem dX9_isWrong_74 : decode cX9_isWrong 74 = .ok (.ireturn, 1) := by decide +kernel
theorem dX9_isWrong_75 : decode cX9_isWrong 75 = .ok (.iload_n 2, 1) := by decide +kernel
theorem dX9_isWrong_76 : decode cX9_isWrong 76 = .ok (.ifCond .lt 16, 3) := by decide +kernel
theorem dX9_isWrong_79 : decode cX9_isWrong 79 = .ok (.aload_n 0, 1) := by decide +kernel
theorem dX9_isWrong_80 : decode cX9_isWrong 80 = .ok (.aload_n 0, 1) := by decide +kernel
theorem dX9_isWrong_81 : decode cX9_isWrong 81 = .ok (.getfield 57, 3) := by decide +kernel
theorem dX9_isWrong_84 : decode cX9_isWrong 84 = .ok (.iload_n 1, 1) := by decide +kernel
theorem dX9_isWrong_85 : decode cX9_isWrong 85 = .ok (.iaload, 1) := by decide +kernel
theorem dX9_isWrong_86 : decode cX9_isWrong 86 = .ok (.invokevirtual 136, 3) := by decide +kernel
theorem dX9_isWrong_89 : decode cX9_isWrong 89 = .ok (.ifCond .lt 7, 3) := by decide +kernel
theorem dX9_isWrong_92 : decode cX9_isWrong 92 = .ok (.iconst 1, 1) := by decide +kernel
theorem dX9_isWrong_93 : decode cX9_isWrong 93 = .ok (.goto 4, 3) := by decide +kernel
theorem dX9_isWrong_96 : decode cX9_isWrong 96 = .ok (.iconst 0, 1) := by decide +kernel
theorem dX9_isWrong_97 : decode cX9_isWrong 97 = .ok (.ireturn, 1) := by decide +kernel
theorem dX9_isWrong_98 : decode cX9_isWrong 98 = .ok (.iload_n 2, 1) := by decide +kernel
theorem dX9_isWrong_99 : decode cX9_isWrong 99 = .ok (.ifCond .lt 24, 3) := by decide +kernel
theorem dX9_isWrong_102 : decode cX9_isWrong 102 = .ok (.aload_n 0, 1) := by decide +kernel
theorem dX9_isWrong_103 : decode cX9_isWrong 103 = .ok (.getfield 45, 3) := by decide +kernel
theorem dX9_isWrong_106 : decode cX9_isWrong 106 = .ok (.bipush 16, 2) := by decide +kernel
theorem dX9_isWrong_108 : decode cX9_isWrong 108 = .ok (.iload_n 2, 1) := by decide +kernel
theorem dX9_isWrong_109 : decode cX9_isWrong 109 = .ok (.iadd, 1) := by decide +kernel
theorem dX9_isWrong_110 : decode cX9_isWrong 110 = .ok (.iaload, 1) := by decide +kernel
theorem dX9_isWrong_111 : decode cX9_isWrong 111 = .ok (.aload_n 0, 1) := by decide +kernel
theorem dX9_isWrong_112 : decode cX9_isWrong 112 = .ok (.getfield 57, 3) := by decide +kernel
theorem dX9_isWrong_115 : decode cX9_isWrong 115 = .ok (.iload_n 1, 1) := by decide +kernel
theorem dX9_isWrong_116 : decode cX9_isWrong 116 = .ok (.iaload, 1) := by decide +kernel
theorem dX9_isWrong_117 : decode cX9_isWrong 117 = .ok (.invokestatic 140, 3) := by decide +kernel
theorem dX9_isWrong_120 : decode cX9_isWrong 120 = .ok (.ifCond .ne 7, 3) := by decide +kernel
theorem dX9_isWrong_123 : decode cX9_isWrong 123 = .ok (.iconst 1, 1) := by decide +kernel
theorem dX9_isWrong_124 : decode cX9_isWrong 124 = .ok (.goto 4, 3) := by decide +kernel
theorem dX9_isWrong_127 : decode cX9_isWrong 127 = .ok (.iconst 0, 1) := by decide +kernel
theorem dX9_isWrong_128 : decode cX9_isWrong 128 = .ok (.ireturn, 1) := by decide +kernel
theorem dX9_step_0 : decode cX9_step 0 = .ok (.aload_n 0, 1) := by decide +kernel
theorem dX9_step_1 : decode cX9_step 1 = .ok (.aload_n 0, 1) := by decide +kernel
theorem dX9_step_2 : decode cX9_step 2 = .ok (.getfield 54, 3) := by decide +kernel
theorem dX9_step_5 : decode cX9_step 5 = .ok (.iload_n 1, 1) := by decide +kernel
theorem dX9_step_6 : decode cX9_step 6 = .ok (.iaload, 1) := by decide +kernel
theorem dX9_step_7 : decode cX9_step 7 = .ok (.invokevirtual 136, 3) := by decide +kernel
theorem dX9_step_10 : decode cX9_step 10 = .ok (.istore_n 2, 1) := by decide +kernel
theorem dX9_step_11 : decode cX9_step 11 = .ok (.aload_n 0, 1) := by decide +kernel
theorem dX9_step_12 : decode cX9_step 12 = .ok (.getfield 51, 3) := by decide +kernel
theorem dX9_step_15 : decode cX9_step 15 = .ok (.iload_n 1, 1) := by decide +kernel
theorem dX9_step_16 : decode cX9_step 16 = .ok (.iaload, 1) := by decide +kernel
theorem dX9_step_17 : decode cX9_step 17 = .ok (.tableswitch 167 0 2 #[27, 80, 149], 27) := by decide +kernel
theorem dX9_step_44 : decode cX9_step 44 = .ok (.aload_n 0, 1) := by decide +kernel
theorem dX9_step_45 : decode cX9_step 45 = .ok (.getfield 42, 3) := by decide +kernel
theorem dX9_step_48 : decode cX9_step 48 = .ok (.bipush 16, 2) := by decide +kernel
theorem dX9_step_50 : decode cX9_step 50 = .ok (.aload_n 0, 1) := by decide +kernel
theorem dX9_step_51 : decode cX9_step 51 = .ok (.getfield 48, 3) := by decide +kernel
theorem dX9_step_54 : decode cX9_step 54 = .ok (.iconst 2, 1) := by decide +kernel
theorem dX9_step_55 : decode cX9_step 55 = .ok (.iaload, 1) := by decide +kernel
theorem dX9_step_56 : decode cX9_step 56 = .ok (.iadd, 1) := by decide +kernel
theorem dX9_step_57 : decode cX9_step 57 = .ok (.aload_n 0, 1) := by decide +kernel
theorem dX9_step_58 : decode cX9_step 58 = .ok (.getfield 54, 3) := by decide +kernel
theorem dX9_step_61 : decode cX9_step 61 = .ok (.iload_n 1, 1) := by decide +kernel
theorem dX9_step_62 : decode cX9_step 62 = .ok (.iaload, 1) := by decide +kernel
theorem dX9_step_63 : decode cX9_step 63 = .ok (.iastore, 1) := by decide +kernel
theorem dX9_step_64 : decode cX9_step 64 = .ok (.aload_n 0, 1) := by decide +kernel
theorem dX9_step_65 : decode cX9_step 65 = .ok (.getfield 45, 3) := by decide +kernel
theorem dX9_step_68 : decode cX9_step 68 = .ok (.bipush 16, 2) := by decide +kernel
theorem dX9_step_70 : decode cX9_step 70 = .ok (.aload_n 0, 1) := by decide +kernel
theorem dX9_step_71 : decode cX9_step 71 = .ok (.getfield 48, 3) := by decide +kernel
theorem dX9_step_74 : decode cX9_step 74 = .ok (.iconst 2, 1) := by decide +kernel
theorem dX9_step_75 : decode cX9_step 75 = .ok (.iaload, 1) := by decide +kernel
theorem dX9_step_76 : decode cX9_step 76 = .ok (.iadd, 1) := by decide +kernel
theorem dX9_step_77 : decode cX9_step 77 = .ok (.aload_n 0, 1) := by decide +kernel
theorem dX9_step_78 : decode cX9_step 78 = .ok (.getfield 57, 3) := by decide +kernel
theorem dX9_step_81 : decode cX9_step 81 = .ok (.iload_n 1, 1) := by decide +kernel
theorem dX9_step_82 : decode cX9_step 82 = .ok (.iaload, 1) := by decide +kernel
theorem dX9_step_83 : decode cX9_step 83 = .ok (.iastore, 1) := by decide +kernel
theorem dX9_step_84 : decode cX9_step 84 = .ok (.aload_n 0, 1) := by decide +kernel
theorem dX9_step_85 : decode cX9_step 85 = .ok (.getfield 48, 3) := by decide +kernel
theorem dX9_step_88 : decode cX9_step 88 = .ok (.iconst 2, 1) := by decide +kernel
theorem dX9_step_89 : decode cX9_step 89 = .ok (.dup2, 1) := by decide +kernel
theorem dX9_step_90 : decode cX9_step 90 = .ok (.iaload, 1) := by decide +kernel
theorem dX9_step_91 : decode cX9_step 91 = .ok (.iconst 1, 1) := by decide +kernel
theorem dX9_step_92 : decode cX9_step 92 = .ok (.iadd, 1) := by decide +kernel
theorem dX9_step_93 : decode cX9_step 93 = .ok (.iastore, 1) := by decide +kernel
theorem dX9_step_94 : decode cX9_step 94 = .ok (.goto 105, 3) := by decide +kernel
theorem dX9_step_97 : decode cX9_step 97 = .ok (.iload_n 2, 1) := by decide +kernel
theorem dX9_step_98 : decode cX9_step 98 = .ok (.istore_n 3, 1) := by decide +kernel
theorem dX9_step_99 : decode cX9_step 99 = .ok (.iload_n 3, 1) := by decide +kernel
theorem dX9_step_100 : decode cX9_step 100 = .ok (.iconst 1, 1) := by decide +kernel
theorem dX9_step_101 : decode cX9_step 101 = .ok (.iadd, 1) := by decide +kernel
theorem dX9_step_102 : decode cX9_step 102 = .ok (.aload_n 0, 1) := by decide +kernel
theorem dX9_step_103 : decode cX9_step 103 = .ok (.getfield 48, 3) := by decide +kernel
theorem dX9_step_106 : decode cX9_step 106 = .ok (.iconst 2, 1) := by decide +kernel
theorem dX9_step_107 : decode cX9_step 107 = .ok (.iaload, 1) := by decide +kernel
theorem dX9_step_108 : decode cX9_step 108 = .ok (.if_icmp .ge 45, 3) := by decide +kernel
theorem dX9_step_111 : decode cX9_step 111 = .ok (.aload_n 0, 1) := by decide +kernel
theorem dX9_step_112 : decode cX9_step 112 = .ok (.getfield 42, 3) := by decide +kernel
theorem dX9_step_115 : decode cX9_step 115 = .ok (.bipush 16, 2) := by decide +kernel
theorem dX9_step_117 : decode cX9_step 117 = .ok (.iload_n 3, 1) := by decide +kernel
theorem dX9_step_118 : decode cX9_step 118 = .ok (.iadd, 1) := by decide +kernel
theorem dX9_step_119 : decode cX9_step 119 = .ok (.aload_n 0, 1) := by decide +kernel
theorem dX9_step_120 : decode cX9_step 120 = .ok (.getfield 42, 3) := by decide +kernel
theorem dX9_step_123 : decode cX9_step 123 = .ok (.bipush 17, 2) := by decide +kernel
theorem dX9_step_125 : decode cX9_step 125 = .ok (.iload_n 3, 1) := by decide +kernel
theorem dX9_step_126 : decode cX9_step 126 = .ok (.iadd, 1) := by decide +kernel
theorem dX9_step_127 : decode cX9_step 127 = .ok (.iaload, 1) := by decide +kernel
theorem dX9_step_128 : decode cX9_step 128 = .ok (.iastore, 1) := by decide +kernel
theorem dX9_step_129 : decode cX9_step 129 = .ok (.aload_n 0, 1) := by decide +kernel
theorem dX9_step_130 : decode cX9_step 130 = .ok (.getfield 45, 3) := by decide +kernel
theorem dX9_step_133 : decode cX9_step 133 = .ok (.bipush 16, 2) := by decide +kernel
theorem dX9_step_135 : decode cX9_step 135 = .ok (.iload_n 3, 1) := by decide +kernel
theorem dX9_step_136 : decode cX9_step 136 = .ok (.iadd, 1) := by decide +kernel
theorem dX9_step_137 : decode cX9_step 137 = .ok (.aload_n 0, 1) := by decide +kernel
theorem dX9_step_138 : decode cX9_step 138 = .ok (.getfield 45, 3) := by decide +kernel
theorem dX9_step_141 : decode cX9_step 141 = .ok (.bipush 17, 2) := by decide +kernel
theorem dX9_step_143 : decode cX9_step 143 = .ok (.iload_n 3, 1) := by decide +kernel
theorem dX9_step_144 : decode cX9_step 144 = .ok (.iadd, 1) := by decide +kernel
theorem dX9_step_145 : decode cX9_step 145 = .ok (.iaload, 1) := by decide +kernel
theorem dX9_step_146 : decode cX9_step 146 = .ok (.iastore, 1) := by decide +kernel
theorem dX9_step_147 : decode cX9_step 147 = .ok (.iinc 3 1, 3) := by decide +kernel
theorem dX9_step_150 : decode cX9_step 150 = .ok (.goto (-51), 3) := by decide +kernel
theorem dX9_step_153 : decode cX9_step 153 = .ok (.aload_n 0, 1) := by decide +kernel
theorem dX9_step_154 : decode cX9_step 154 = .ok (.getfield 48, 3) := by decide +kernel
theorem dX9_step_157 : decode cX9_step 157 = .ok (.iconst 2, 1) := by decide +kernel
theorem dX9_step_158 : decode cX9_step 158 = .ok (.dup2, 1) := by decide +kernel
theorem dX9_step_159 : decode cX9_step 159 = .ok (.iaload, 1) := by decide +kernel
theorem dX9_step_160 : decode cX9_step 160 = .ok (.iconst 1, 1) := by decide +kernel
theorem dX9_step_161 : decode cX9_step 161 = .ok (.isub, 1) := by decide +kernel
theorem dX9_step_162 : decode cX9_step 162 = .ok (.iastore, 1) := by decide +kernel
theorem dX9_step_163 : decode cX9_step 163 = .ok (.goto 36, 3) := by decide +kernel
theorem dX9_step_166 : decode cX9_step 166 = .ok (.aload_n 0, 1) := by decide +kernel
theorem dX9_step_167 : decode cX9_step 167 = .ok (.getfield 42, 3) := by decide +kernel
theorem dX9_step_170 : decode cX9_step 170 = .ok (.bipush 16, 2) := by decide +kernel
theorem dX9_step_172 : decode cX9_step 172 = .ok (.iload_n 2, 1) := by decide +kernel
theorem dX9_step_173 : decode cX9_step 173 = .ok (.iadd, 1) := by decide +kernel
theorem dX9_step_174 : decode cX9_step 174 = .ok (.aload_n 0, 1) := by decide +kernel
theorem dX9_step_175 : decode cX9_step 175 = .ok (.getfield 57, 3) := by decide +kernel
theorem dX9_step_178 : decode cX9_step 178 = .ok (.iload_n 1, 1) := by decide +kernel
theorem dX9_step_179 : decode cX9_step 179 = .ok (.iaload, 1) := by decide +kernel
theorem dX9_step_180 : decode cX9_step 180 = .ok (.iastore, 1) := by decide +kernel
theorem dX9_step_181 : decode cX9_step 181 = .ok (.goto 18, 3) := by decide +kernel
theorem dX9_step_184 : decode cX9_step 184 = .ok (.aload_n 0, 1) := by decide +kernel
theorem dX9_step_185 : decode cX9_step 185 = .ok (.getfield 45, 3) := by decide +kernel
theorem dX9_step_188 : decode cX9_step 188 = .ok (.bipush 16, 2) := by decide +kernel
theorem dX9_step_190 : decode cX9_step 190 = .ok (.iload_n 2, 1) := by decide +kernel
theorem dX9_step_191 : decode cX9_step 191 = .ok (.iadd, 1) := by decide +kernel
theorem dX9_step_192 : decode cX9_step 192 = .ok (.aload_n 0, 1) := by decide +kernel
theorem dX9_step_193 : decode cX9_step 193 = .ok (.getfield 57, 3) := by decide +kernel
theorem dX9_step_196 : decode cX9_step 196 = .ok (.iload_n 1, 1) := by decide +kernel
theorem dX9_step_197 : decode cX9_step 197 = .ok (.iaload, 1) := by decide +kernel
theorem dX9_step_198 : decode cX9_step 198 = .ok (.iastore, 1) := by decide +kernel
theorem dX9_step_199 : decode cX9_step 199 = .ok (.return_, 1) := by decide +kernel
theorem dX9_up_0 : decode cX9_up 0 = .ok (.aload_n 0, 1) := by decide +kernel
theorem dX9_up_1 : decode cX9_up 1 = .ok (.iload_n 1, 1) := by decide +kernel
theorem dX9_up_2 : decode cX9_up 2 = .ok (.iload_n 2, 1) := by decide +kernel
theorem dX9_up_3 : decode cX9_up 3 = .ok (.invokevirtual 144, 3) := by decide +kernel
theorem dX9_up_6 : decode cX9_up 6 = .ok (.aload_n 0, 1) := by decide +kernel
theorem dX9_up_7 : decode cX9_up 7 = .ok (.iconst 0, 1) := by decide +kernel
theorem dX9_up_8 : decode cX9_up 8 = .ok (.iconst 2, 1) := by decide +kernel
theorem dX9_up_9 : decode cX9_up 9 = .ok (.invokevirtual 147, 3) := by decide +kernel
theorem dX9_up_12 : decode cX9_up 12 = .ok (.bipush 6, 2) := by decide +kernel
theorem dX9_up_14 : decode cX9_up 14 = .ok (.istore_n 3, 1) := by decide +kernel
theorem dX9_up_15 : decode cX9_up 15 = .ok (.iload_n 3, 1) := by decide +kernel
theorem dX9_up_16 : decode cX9_up 16 = .ok (.bipush 6, 2) := by decide +kernel
theorem dX9_up_18 : decode cX9_up 18 = .ok (.aload_n 0, 1) := by decide +kernel
theorem dX9_up_19 : decode cX9_up 19 = .ok (.getfield 150, 3) := by decide +kernel
theorem dX9_up_22 : decode cX9_up 22 = .ok (.iadd, 1) := by decide +kernel
theorem dX9_up_23 : decode cX9_up 23 = .ok (.if_icmp .ge 164, 3) := by decide +kernel
theorem dX9_up_26 : decode cX9_up 26 = .ok (.aload_n 0, 1) := by decide +kernel
theorem dX9_up_27 : decode cX9_up 27 = .ok (.aload_n 0, 1) := by decide +kernel
theorem dX9_up_28 : decode cX9_up 28 = .ok (.getfield 54, 3) := by decide +kernel
theorem dX9_up_31 : decode cX9_up 31 = .ok (.iload_n 3, 1) := by decide +kernel
theorem dX9_up_32 : decode cX9_up 32 = .ok (.iaload, 1) := by decide +kernel
theorem dX9_up_33 : decode cX9_up 33 = .ok (.invokevirtual 136, 3) := by decide +kernel
theorem dX9_up_36 : decode cX9_up 36 = .ok (.istore 4, 2) := by decide +kernel
theorem dX9_up_38 : decode cX9_up 38 = .ok (.aload_n 0, 1) := by decide +kernel
theorem dX9_up_39 : decode cX9_up 39 = .ok (.getfield 51, 3) := by decide +kernel
theorem dX9_up_42 : decode cX9_up 42 = .ok (.iload_n 3, 1) := by decide +kernel
theorem dX9_up_43 : decode cX9_up 43 = .ok (.iaload, 1) := by decide +kernel
theorem dX9_up_44 : decode cX9_up 44 = .ok (.tableswitch 132 0 3 #[32, 65, 132, 105], 32) := by decide +kernel
theorem dX9_up_76 : decode cX9_up 76 = .ok (.aload_n 0, 1) := by decide +kernel
theorem dX9_up_77 : decode cX9_up 77 = .ok (.iload_n 2, 1) := by decide +kernel
theorem dX9_up_78 : decode cX9_up 78 = .ok (.aload_n 0, 1) := by decide +kernel
theorem dX9_up_79 : decode cX9_up 79 = .ok (.getfield 48, 3) := by decide +kernel
theorem dX9_up_82 : decode cX9_up 82 = .ok (.iconst 2, 1) := by decide +kernel
theorem dX9_up_83 : decode cX9_up 83 = .ok (.iaload, 1) := by decide +kernel
theorem dX9_up_84 : decode cX9_up 84 = .ok (.iadd, 1) := by decide +kernel
theorem dX9_up_85 : decode cX9_up 85 = .ok (.aload_n 0, 1) := by decide +kernel
theorem dX9_up_86 : decode cX9_up 86 = .ok (.getfield 57, 3) := by decide +kernel
theorem dX9_up_89 : decode cX9_up 89 = .ok (.iload_n 3, 1) := by decide +kernel
theorem dX9_up_90 : decode cX9_up 90 = .ok (.iaload, 1) := by decide +kernel
theorem dX9_up_91 : decode cX9_up 91 = .ok (.aload_n 0, 1) := by decide +kernel
theorem dX9_up_92 : decode cX9_up 92 = .ok (.getfield 60, 3) := by decide +kernel
theorem dX9_up_95 : decode cX9_up 95 = .ok (.iload_n 3, 1) := by decide +kernel
theorem dX9_up_96 : decode cX9_up 96 = .ok (.iaload, 1) := by decide +kernel
theorem dX9_up_97 : decode cX9_up 97 = .ok (.aload_n 0, 1) := by decide +kernel
theorem dX9_up_98 : decode cX9_up 98 = .ok (.getfield 63, 3) := by decide +kernel
theorem dX9_up_101 : decode cX9_up 101 = .ok (.iload_n 3, 1) := by decide +kernel
theorem dX9_up_102 : decode cX9_up 102 = .ok (.iaload, 1) := by decide +kernel
theorem dX9_up_103 : decode cX9_up 103 = .ok (.invokevirtual 153, 3) := by decide +kernel
theorem dX9_up_106 : decode cX9_up 106 = .ok (.goto 70, 3) := by decide +kernel
theorem dX9_up_109 : decode cX9_up 109 = .ok (.iload 4, 2) := by decide +kernel
theorem dX9_up_111 : decode cX9_up 111 = .ok (.istore 5, 2) := by decide +kernel
theorem dX9_up_113 : decode cX9_up 113 = .ok (.iload 5, 2) := by decide +kernel
theorem dX9_up_115 : decode cX9_up 115 = .ok (.iconst 1, 1) := by decide +kernel
theorem dX9_up_116 : decode cX9_up 116 = .ok (.iadd, 1) := by decide +kernel
theorem dX9_up_117 : decode cX9_up 117 = .ok (.aload_n 0, 1) := by decide +kernel
theorem dX9_up_118 : decode cX9_up 118 = .ok (.getfield 48, 3) := by decide +kernel
theorem dX9_up_121 : decode cX9_up 121 = .ok (.iconst 2, 1) := by decide +kernel
theorem dX9_up_122 : decode cX9_up 122 = .ok (.iaload, 1) := by decide +kernel
theorem dX9_up_123 : decode cX9_up 123 = .ok (.if_icmp .ge 23, 3) := by decide +kernel
theorem dX9_up_126 : decode cX9_up 126 = .ok (.aload_n 0, 1) := by decide +kernel
theorem dX9_up_127 : decode cX9_up 127 = .ok (.iload_n 2, 1) := by decide +kernel
theorem dX9_up_128 : decode cX9_up 128 = .ok (.iload 5, 2) := by decide +kernel
theorem dX9_up_130 : decode cX9_up 130 = .ok (.iadd, 1) := by decide +kernel
theorem dX9_up_131 : decode cX9_up 131 = .ok (.iconst 1, 1) := by decide +kernel
theorem dX9_up_132 : decode cX9_up 132 = .ok (.iadd, 1) := by decide +kernel
theorem dX9_up_133 : decode cX9_up 133 = .ok (.iload_n 2, 1) := by decide +kernel
theorem dX9_up_134 : decode cX9_up 134 = .ok (.iload 5, 2) := by decide +kernel
theorem dX9_up_136 : decode cX9_up 136 = .ok (.iadd, 1) := by decide +kernel
theorem dX9_up_137 : decode cX9_up 137 = .ok (.invokevirtual 97, 3) := by decide +kernel
theorem dX9_up_140 : decode cX9_up 140 = .ok (.iinc 5 1, 3) := by decide +kernel
theorem dX9_up_143 : decode cX9_up 143 = .ok (.goto (-30), 3) := by decide +kernel
theorem dX9_up_146 : decode cX9_up 146 = .ok (.goto 30, 3) := by decide +kernel
theorem dX9_up_149 : decode cX9_up 149 = .ok (.aload_n 0, 1) := by decide +kernel
theorem dX9_up_150 : decode cX9_up 150 = .ok (.iload_n 2, 1) := by decide +kernel
theorem dX9_up_151 : decode cX9_up 151 = .ok (.iload 4, 2) := by decide +kernel
theorem dX9_up_153 : decode cX9_up 153 = .ok (.iadd, 1) := by decide +kernel
theorem dX9_up_154 : decode cX9_up 154 = .ok (.aload_n 0, 1) := by decide +kernel
theorem dX9_up_155 : decode cX9_up 155 = .ok (.getfield 45, 3) := by decide +kernel
theorem dX9_up_158 : decode cX9_up 158 = .ok (.bipush 16, 2) := by decide +kernel
theorem dX9_up_160 : decode cX9_up 160 = .ok (.iload 4, 2) := by decide +kernel
theorem dX9_up_162 : decode cX9_up 162 = .ok (.iadd, 1) := by decide +kernel
theorem dX9_up_163 : decode cX9_up 163 = .ok (.iaload, 1) := by decide +kernel
theorem dX9_up_164 : decode cX9_up 164 = .ok (.aload_n 0, 1) := by decide +kernel
theorem dX9_up_165 : decode cX9_up 165 = .ok (.getfield 57, 3) := by decide +kernel
theorem dX9_up_168 : decode cX9_up 168 = .ok (.iload_n 3, 1) := by decide +kernel
theorem dX9_up_169 : decode cX9_up 169 = .ok (.iaload, 1) := by decide +kernel
theorem dX9_up_170 : decode cX9_up 170 = .ok (.invokevirtual 157, 3) := by decide +kernel
theorem dX9_up_173 : decode cX9_up 173 = .ok (.goto 3, 3) := by decide +kernel
theorem dX9_up_176 : decode cX9_up 176 = .ok (.aload_n 0, 1) := by decide +kernel
theorem dX9_up_177 : decode cX9_up 177 = .ok (.iload_n 3, 1) := by decide +kernel
theorem dX9_up_178 : decode cX9_up 178 = .ok (.invokevirtual 161, 3) := by decide +kernel
theorem dX9_up_181 : decode cX9_up 181 = .ok (.iinc 3 1, 3) := by decide +kernel
theorem dX9_up_184 : decode cX9_up 184 = .ok (.goto (-169), 3) := by decide +kernel
theorem dX9_up_187 : decode cX9_up 187 = .ok (.return_, 1) := by decide +kernel
theorem dX9_follow_0 : decode cX9_follow 0 = .ok (.aload_n 0, 1) := by decide +kernel
theorem dX9_follow_1 : decode cX9_follow 1 = .ok (.iconst 0, 1) := by decide +kernel
theorem dX9_follow_2 : decode cX9_follow 2 = .ok (.iconst 2, 1) := by decide +kernel
theorem dX9_follow_3 : decode cX9_follow 3 = .ok (.invokevirtual 147, 3) := by decide +kernel
theorem dX9_follow_6 : decode cX9_follow 6 = .ok (.iconst 0, 1) := by decide +kernel
theorem dX9_follow_7 : decode cX9_follow 7 = .ok (.istore_n 1, 1) := by decide +kernel
theorem dX9_follow_8 : decode cX9_follow 8 = .ok (.iload_n 1, 1) := by decide +kernel
theorem dX9_follow_9 : decode cX9_follow 9 = .ok (.bipush 8, 2) := by decide +kernel
theorem dX9_follow_11 : decode cX9_follow 11 = .ok (.if_icmp .ge 30, 3) := by decide +kernel
theorem dX9_follow_14 : decode cX9_follow 14 = .ok (.aload_n 0, 1) := by decide +kernel
theorem dX9_follow_15 : decode cX9_follow 15 = .ok (.getfield 85, 3) := by decide +kernel
theorem dX9_follow_18 : decode cX9_follow 18 = .ok (.iload_n 1, 1) := by decide +kernel
theorem dX9_follow_19 : decode cX9_follow 19 = .ok (.iload_n 1, 1) := by decide +kernel
theorem dX9_follow_20 : decode cX9_follow 20 = .ok (.iastore, 1) := by decide +kernel
theorem dX9_follow_21 : decode cX9_follow 21 = .ok (.aload_n 0, 1) := by decide +kernel
theorem dX9_follow_22 : decode cX9_follow 22 = .ok (.getfield 88, 3) := by decide +kernel
theorem dX9_follow_25 : decode cX9_follow 25 = .ok (.iload_n 1, 1) := by decide +kernel
theorem dX9_follow_26 : decode cX9_follow 26 = .ok (.iconst 0, 1) := by decide +kernel
theorem dX9_follow_27 : decode cX9_follow 27 = .ok (.bastore, 1) := by decide +kernel
theorem dX9_follow_28 : decode cX9_follow 28 = .ok (.aload_n 0, 1) := by decide +kernel
theorem dX9_follow_29 : decode cX9_follow 29 = .ok (.getfield 94, 3) := by decide +kernel
theorem dX9_follow_32 : decode cX9_follow 32 = .ok (.iload_n 1, 1) := by decide +kernel
theorem dX9_follow_33 : decode cX9_follow 33 = .ok (.iconst 0, 1) := by decide +kernel
theorem dX9_follow_34 : decode cX9_follow 34 = .ok (.iastore, 1) := by decide +kernel
theorem dX9_follow_35 : decode cX9_follow 35 = .ok (.iinc 1 1, 3) := by decide +kernel
theorem dX9_follow_38 : decode cX9_follow 38 = .ok (.goto (-30), 3) := by decide +kernel
theorem dX9_follow_41 : decode cX9_follow 41 = .ok (.bipush 6, 2) := by decide +kernel
theorem dX9_follow_43 : decode cX9_follow 43 = .ok (.istore_n 1, 1) := by decide +kernel
theorem dX9_follow_44 : decode cX9_follow 44 = .ok (.iload_n 1, 1) := by decide +kernel
theorem dX9_follow_45 : decode cX9_follow 45 = .ok (.bipush 6, 2) := by decide +kernel
theorem dX9_follow_47 : decode cX9_follow 47 = .ok (.aload_n 0, 1) := by decide +kernel
theorem dX9_follow_48 : decode cX9_follow 48 = .ok (.getfield 150, 3) := by decide +kernel
theorem dX9_follow_51 : decode cX9_follow 51 = .ok (.iadd, 1) := by decide +kernel
theorem dX9_follow_52 : decode cX9_follow 52 = .ok (.if_icmp .ge 172, 3) := by decide +kernel
theorem dX9_follow_55 : decode cX9_follow 55 = .ok (.aload_n 0, 1) := by decide +kernel
theorem dX9_follow_56 : decode cX9_follow 56 = .ok (.aload_n 0, 1) := by decide +kernel
theorem dX9_follow_57 : decode cX9_follow 57 = .ok (.getfield 54, 3) := by decide +kernel
theorem dX9_follow_60 : decode cX9_follow 60 = .ok (.iload_n 1, 1) := by decide +kernel
theorem dX9_follow_61 : decode cX9_follow 61 = .ok (.iaload, 1) := by decide +kernel
theorem dX9_follow_62 : decode cX9_follow 62 = .ok (.invokevirtual 136, 3) := by decide +kernel
theorem dX9_follow_65 : decode cX9_follow 65 = .ok (.istore_n 2, 1) := by decide +kernel
theorem dX9_follow_66 : decode cX9_follow 66 = .ok (.aload_n 0, 1) := by decide +kernel
theorem dX9_follow_67 : decode cX9_follow 67 = .ok (.getfield 51, 3) := by decide +kernel
theorem dX9_follow_70 : decode cX9_follow 70 = .ok (.iload_n 1, 1) := by decide +kernel
theorem dX9_follow_71 : decode cX9_follow 71 = .ok (.iaload, 1) := by decide +kernel
theorem dX9_follow_72 : decode cX9_follow 72 = .ok (.ifCond .ne 15, 3) := by decide +kernel
theorem dX9_follow_75 : decode cX9_follow 75 = .ok (.aload_n 0, 1) := by decide +kernel
theorem dX9_follow_76 : decode cX9_follow 76 = .ok (.getfield 85, 3) := by decide +kernel
theorem dX9_follow_79 : decode cX9_follow 79 = .ok (.aload_n 0, 1) := by decide +kernel
theorem dX9_follow_80 : decode cX9_follow 80 = .ok (.getfield 48, 3) := by decide +kernel
theorem dX9_follow_83 : decode cX9_follow 83 = .ok (.iconst 2, 1) := by decide +kernel
theorem dX9_follow_84 : decode cX9_follow 84 = .ok (.iaload, 1) := by decide +kernel
theorem dX9_follow_85 : decode cX9_follow 85 = .ok (.iconst (-1), 1) := by decide +kernel
theorem dX9_follow_86 : decode cX9_follow 86 = .ok (.iastore, 1) := by decide +kernel
theorem dX9_follow_87 : decode cX9_follow 87 = .ok (.aload_n 0, 1) := by decide +kernel
theorem dX9_follow_88 : decode cX9_follow 88 = .ok (.getfield 51, 3) := by decide +kernel
theorem dX9_follow_91 : decode cX9_follow 91 = .ok (.iload_n 1, 1) := by decide +kernel
theorem dX9_follow_92 : decode cX9_follow 92 = .ok (.iaload, 1) := by decide +kernel
theorem dX9_follow_93 : decode cX9_follow 93 = .ok (.iconst 3, 1) := by decide +kernel
theorem dX9_follow_94 : decode cX9_follow 94 = .ok (.if_icmp .ne 54, 3) := by decide +kernel
theorem dX9_follow_97 : decode cX9_follow 97 = .ok (.aload_n 0, 1) := by decide +kernel
theorem dX9_follow_98 : decode cX9_follow 98 = .ok (.getfield 85, 3) := by decide +kernel
theorem dX9_follow_101 : decode cX9_follow 101 = .ok (.iload_n 2, 1) := by decide +kernel
theorem dX9_follow_102 : decode cX9_follow 102 = .ok (.iaload, 1) := by decide +kernel
theorem dX9_follow_103 : decode cX9_follow 103 = .ok (.ifCond .lt 45, 3) := by decide +kernel
theorem dX9_follow_106 : decode cX9_follow 106 = .ok (.aload_n 0, 1) := by decide +kernel
theorem dX9_follow_107 : decode cX9_follow 107 = .ok (.getfield 85, 3) := by decide +kernel
theorem dX9_follow_110 : decode cX9_follow 110 = .ok (.iload_n 2, 1) := by decide +kernel
theorem dX9_follow_111 : decode cX9_follow 111 = .ok (.iaload, 1) := by decide +kernel
theorem dX9_follow_112 : decode cX9_follow 112 = .ok (.istore_n 3, 1) := by decide +kernel
theorem dX9_follow_113 : decode cX9_follow 113 = .ok (.aload_n 0, 1) := by decide +kernel
theorem dX9_follow_114 : decode cX9_follow 114 = .ok (.getfield 91, 3) := by decide +kernel
theorem dX9_follow_117 : decode cX9_follow 117 = .ok (.bipush 6, 2) := by decide +kernel
theorem dX9_follow_119 : decode cX9_follow 119 = .ok (.iload_n 3, 1) := by decide +kernel
theorem dX9_follow_120 : decode cX9_follow 120 = .ok (.imul, 1) := by decide +kernel
theorem dX9_follow_121 : decode cX9_follow 121 = .ok (.aload_n 0, 1) := by decide +kernel
theorem dX9_follow_122 : decode cX9_follow 122 = .ok (.getfield 94, 3) := by decide +kernel
theorem dX9_follow_125 : decode cX9_follow 125 = .ok (.iload_n 3, 1) := by decide +kernel
theorem dX9_follow_126 : decode cX9_follow 126 = .ok (.iaload, 1) := by decide +kernel
theorem dX9_follow_127 : decode cX9_follow 127 = .ok (.iadd, 1) := by decide +kernel
theorem dX9_follow_128 : decode cX9_follow 128 = .ok (.aload_n 0, 1) := by decide +kernel
theorem dX9_follow_129 : decode cX9_follow 129 = .ok (.getfield 45, 3) := by decide +kernel
theorem dX9_follow_132 : decode cX9_follow 132 = .ok (.bipush 16, 2) := by decide +kernel
theorem dX9_follow_134 : decode cX9_follow 134 = .ok (.iload_n 2, 1) := by decide +kernel
theorem dX9_follow_135 : decode cX9_follow 135 = .ok (.iadd, 1) := by decide +kernel
theorem dX9_follow_136 : decode cX9_follow 136 = .ok (.iaload, 1) := by decide +kernel
theorem dX9_follow_137 : decode cX9_follow 137 = .ok (.iastore, 1) := by decide +kernel
theorem dX9_follow_138 : decode cX9_follow 138 = .ok (.aload_n 0, 1) := by decide +kernel
theorem dX9_follow_139 : decode cX9_follow 139 = .ok (.getfield 94, 3) := by decide +kernel
theorem dX9_follow_142 : decode cX9_follow 142 = .ok (.iload_n 3, 1) := by decide +kernel
theorem dX9_follow_143 : decode cX9_follow 143 = .ok (.dup2, 1) := by decide +kernel
theorem dX9_follow_144 : decode cX9_follow 144 = .ok (.iaload, 1) := by decide +kernel
theorem dX9_follow_145 : decode cX9_follow 145 = .ok (.iconst 1, 1) := by decide +kernel
theorem dX9_follow_146 : decode cX9_follow 146 = .ok (.iadd, 1) := by decide +kernel
theorem dX9_follow_147 : decode cX9_follow 147 = .ok (.iastore, 1) := by decide +kernel
theorem dX9_follow_148 : decode cX9_follow 148 = .ok (.aload_n 0, 1) := by decide +kernel
theorem dX9_follow_149 : decode cX9_follow 149 = .ok (.getfield 51, 3) := by decide +kernel
theorem dX9_follow_152 : decode cX9_follow 152 = .ok (.iload_n 1, 1) := by decide +kernel
theorem dX9_follow_153 : decode cX9_follow 153 = .ok (.iaload, 1) := by decide +kernel
theorem dX9_follow_154 : decode cX9_follow 154 = .ok (.iconst 1, 1) := by decide +kernel
theorem dX9_follow_155 : decode cX9_follow 155 = .ok (.if_icmp .ne 58, 3) := by decide +kernel
theorem dX9_follow_158 : decode cX9_follow 158 = .ok (.aload_n 0, 1) := by decide +kernel
theorem dX9_follow_159 : decode cX9_follow 159 = .ok (.getfield 85, 3) := by decide +kernel
theorem dX9_follow_162 : decode cX9_follow 162 = .ok (.iload_n 2, 1) := by decide +kernel
theorem dX9_follow_163 : decode cX9_follow 163 = .ok (.iaload, 1) := by decide +kernel
theorem dX9_follow_164 : decode cX9_follow 164 = .ok (.ifCond .lt 15, 3) := by decide +kernel
theorem dX9_follow_167 : decode cX9_follow 167 = .ok (.aload_n 0, 1) := by decide +kernel
theorem dX9_follow_168 : decode cX9_follow 168 = .ok (.getfield 88, 3) := by decide +kernel
theorem dX9_follow_171 : decode cX9_follow 171 = .ok (.aload_n 0, 1) := by decide +kernel
theorem dX9_follow_172 : decode cX9_follow 172 = .ok (.getfield 85, 3) := by decide +kernel
theorem dX9_follow_175 : decode cX9_follow 175 = .ok (.iload_n 2, 1) := by decide +kernel
theorem dX9_follow_176 : decode cX9_follow 176 = .ok (.iaload, 1) := by decide +kernel
theorem dX9_follow_177 : decode cX9_follow 177 = .ok (.iconst 1, 1) := by decide +kernel
theorem dX9_follow_178 : decode cX9_follow 178 = .ok (.bastore, 1) := by decide +kernel
theorem dX9_follow_179 : decode cX9_follow 179 = .ok (.iload_n 2, 1) := by decide +kernel
theorem dX9_follow_180 : decode cX9_follow 180 = .ok (.istore_n 3, 1) := by decide +kernel
theorem dX9_follow_181 : decode cX9_follow 181 = .ok (.iload_n 3, 1) := by decide +kernel
theorem dX9_follow_182 : decode cX9_follow 182 = .ok (.iconst 1, 1) := by decide +kernel
theorem dX9_follow_183 : decode cX9_follow 183 = .ok (.iadd, 1) := by decide +kernel
theorem dX9_follow_184 : decode cX9_follow 184 = .ok (.aload_n 0, 1) := by decide +kernel
theorem dX9_follow_185 : decode cX9_follow 185 = .ok (.getfield 48, 3) := by decide +kernel
theorem dX9_follow_188 : decode cX9_follow 188 = .ok (.iconst 2, 1) := by decide +kernel
theorem dX9_follow_189 : decode cX9_follow 189 = .ok (.iaload, 1) := by decide +kernel
theorem dX9_follow_190 : decode cX9_follow 190 = .ok (.if_icmp .ge 23, 3) := by decide +kernel
theorem dX9_follow_193 : decode cX9_follow 193 = .ok (.aload_n 0, 1) := by decide +kernel
theorem dX9_follow_194 : decode cX9_follow 194 = .ok (.getfield 85, 3) := by decide +kernel
theorem dX9_follow_197 : decode cX9_follow 197 = .ok (.iload_n 3, 1) := by decide +kernel
theorem dX9_follow_198 : decode cX9_follow 198 = .ok (.aload_n 0, 1) := by decide +kernel
theorem dX9_follow_199 : decode cX9_follow 199 = .ok (.getfield 85, 3) := by decide +kernel
theorem dX9_follow_202 : decode cX9_follow 202 = .ok (.iload_n 3, 1) := by decide +kernel
theorem dX9_follow_203 : decode cX9_follow 203 = .ok (.iconst 1, 1) := by decide +kernel
theorem dX9_follow_204 : decode cX9_follow 204 = .ok (.iadd, 1) := by decide +kernel
theorem dX9_follow_205 : decode cX9_follow 205 = .ok (.iaload, 1) := by decide +kernel
theorem dX9_follow_206 : decode cX9_follow 206 = .ok (.iastore, 1) := by decide +kernel
theorem dX9_follow_207 : decode cX9_follow 207 = .ok (.iinc 3 1, 3) := by decide +kernel
theorem dX9_follow_210 : decode cX9_follow 210 = .ok (.goto (-29), 3) := by decide +kernel
theorem dX9_follow_213 : decode cX9_follow 213 = .ok (.aload_n 0, 1) := by decide +kernel
theorem dX9_follow_214 : decode cX9_follow 214 = .ok (.iload_n 1, 1) := by decide +kernel
theorem dX9_follow_215 : decode cX9_follow 215 = .ok (.invokevirtual 161, 3) := by decide +kernel
theorem dX9_follow_218 : decode cX9_follow 218 = .ok (.iinc 1 1, 3) := by decide +kernel
theorem dX9_follow_221 : decode cX9_follow 221 = .ok (.goto (-177), 3) := by decide +kernel
theorem dX9_follow_224 : decode cX9_follow 224 = .ok (.return_, 1) := by decide +kernel
theorem dX9_down_0 : decode cX9_down 0 = .ok (.aload_n 0, 1) := by decide +kernel
theorem dX9_down_1 : decode cX9_down 1 = .ok (.invokevirtual 164, 3) := by decide +kernel
theorem dX9_down_4 : decode cX9_down 4 = .ok (.iconst 0, 1) := by decide +kernel
theorem dX9_down_5 : decode cX9_down 5 = .ok (.istore 4, 2) := by decide +kernel
theorem dX9_down_7 : decode cX9_down 7 = .ok (.iload 4, 2) := by decide +kernel
theorem dX9_down_9 : decode cX9_down 9 = .ok (.aload_n 0, 1) := by decide +kernel
theorem dX9_down_10 : decode cX9_down 10 = .ok (.getfield 48, 3) := by decide +kernel
theorem dX9_down_13 : decode cX9_down 13 = .ok (.iconst 0, 1) := by decide +kernel
theorem dX9_down_14 : decode cX9_down 14 = .ok (.iaload, 1) := by decide +kernel
theorem dX9_down_15 : decode cX9_down 15 = .ok (.if_icmp .ge 46, 3) := by decide +kernel
theorem dX9_down_18 : decode cX9_down 18 = .ok (.aload_n 0, 1) := by decide +kernel
theorem dX9_down_19 : decode cX9_down 19 = .ok (.getfield 88, 3) := by decide +kernel
theorem dX9_down_22 : decode cX9_down 22 = .ok (.iload 4, 2) := by decide +kernel
theorem dX9_down_24 : decode cX9_down 24 = .ok (.baload, 1) := by decide +kernel
theorem dX9_down_25 : decode cX9_down 25 = .ok (.ifCond .eq 30, 3) := by decide +kernel
theorem dX9_down_28 : decode cX9_down 28 = .ok (.iload_n 2, 1) := by decide +kernel
theorem dX9_down_29 : decode cX9_down 29 = .ok (.ifCond .ge 14, 3) := by decide +kernel
theorem dX9_down_32 : decode cX9_down 32 = .ok (.aload_n 0, 1) := by decide +kernel
theorem dX9_down_33 : decode cX9_down 33 = .ok (.iload_n 3, 1) := by decide +kernel
theorem dX9_down_34 : decode cX9_down 34 = .ok (.iload 4, 2) := by decide +kernel
theorem dX9_down_36 : decode cX9_down 36 = .ok (.iadd, 1) := by decide +kernel
theorem dX9_down_37 : decode cX9_down 37 = .ok (.invokevirtual 101, 3) := by decide +kernel
theorem dX9_down_40 : decode cX9_down 40 = .ok (.goto 15, 3) := by decide +kernel
theorem dX9_down_43 : decode cX9_down 43 = .ok (.aload_n 0, 1) := by decide +kernel
theorem dX9_down_44 : decode cX9_down 44 = .ok (.iload_n 2, 1) := by decide +kernel
theorem dX9_down_45 : decode cX9_down 45 = .ok (.iload 4, 2) := by decide +kernel
theorem dX9_down_47 : decode cX9_down 47 = .ok (.iadd, 1) := by decide +kernel
theorem dX9_down_48 : decode cX9_down 48 = .ok (.iload_n 3, 1) := by decide +kernel
theorem dX9_down_49 : decode cX9_down 49 = .ok (.iload 4, 2) := by decide +kernel
theorem dX9_down_51 : decode cX9_down 51 = .ok (.iadd, 1) := by decide +kernel
theorem dX9_down_52 : decode cX9_down 52 = .ok (.invokevirtual 97, 3) := by decide +kernel
theorem dX9_down_55 : decode cX9_down 55 = .ok (.iinc 4 1, 3) := by decide +kernel
theorem dX9_down_58 : decode cX9_down 58 = .ok (.goto (-51), 3) := by decide +kernel
theorem dX9_down_61 : decode cX9_down 61 = .ok (.iconst 0, 1) := by decide +kernel
theorem dX9_down_62 : decode cX9_down 62 = .ok (.istore 4, 2) := by decide +kernel
theorem dX9_down_64 : decode cX9_down 64 = .ok (.iload 4, 2) := by decide +kernel
theorem dX9_down_66 : decode cX9_down 66 = .ok (.aload_n 0, 1) := by decide +kernel
theorem dX9_down_67 : decode cX9_down 67 = .ok (.getfield 48, 3) := by decide +kernel
theorem dX9_down_70 : decode cX9_down 70 = .ok (.iconst 1, 1) := by decide +kernel
theorem dX9_down_71 : decode cX9_down 71 = .ok (.iaload, 1) := by decide +kernel
theorem dX9_down_72 : decode cX9_down 72 = .ok (.if_icmp .ge 110, 3) := by decide +kernel
theorem dX9_down_75 : decode cX9_down 75 = .ok (.aload_n 0, 1) := by decide +kernel
theorem dX9_down_76 : decode cX9_down 76 = .ok (.getfield 85, 3) := by decide +kernel
theorem dX9_down_79 : decode cX9_down 79 = .ok (.iload 4, 2) := by decide +kernel
theorem dX9_down_81 : decode cX9_down 81 = .ok (.iaload, 1) := by decide +kernel
theorem dX9_down_82 : decode cX9_down 82 = .ok (.istore 5, 2) := by decide +kernel
theorem dX9_down_84 : decode cX9_down 84 = .ok (.iload 5, 2) := by decide +kernel
theorem dX9_down_86 : decode cX9_down 86 = .ok (.ifCond .ge 6, 3) := by decide +kernel
theorem dX9_down_89 : decode cX9_down 89 = .ok (.goto 87, 3) := by decide +kernel
theorem dX9_down_92 : decode cX9_down 92 = .ok (.aload_n 0, 1) := by decide +kernel
theorem dX9_down_93 : decode cX9_down 93 = .ok (.iload_n 1, 1) := by decide +kernel
theorem dX9_down_94 : decode cX9_down 94 = .ok (.iload 4, 2) := by decide +kernel
theorem dX9_down_96 : decode cX9_down 96 = .ok (.iadd, 1) := by decide +kernel
theorem dX9_down_97 : decode cX9_down 97 = .ok (.iload_n 3, 1) := by decide +kernel
theorem dX9_down_98 : decode cX9_down 98 = .ok (.iload 5, 2) := by decide +kernel
theorem dX9_down_100 : decode cX9_down 100 = .ok (.iadd, 1) := by decide +kernel
theorem dX9_down_101 : decode cX9_down 101 = .ok (.invokevirtual 97, 3) := by decide +kernel
theorem dX9_down_104 : decode cX9_down 104 = .ok (.aload_n 0, 1) := by decide +kernel
theorem dX9_down_105 : decode cX9_down 105 = .ok (.getfield 45, 3) := by decide +kernel
theorem dX9_down_108 : decode cX9_down 108 = .ok (.bipush 8, 2) := by decide +kernel
theorem dX9_down_110 : decode cX9_down 110 = .ok (.iload 4, 2) := by decide +kernel
theorem dX9_down_112 : decode cX9_down 112 = .ok (.iadd, 1) := by decide +kernel
theorem dX9_down_113 : decode cX9_down 113 = .ok (.iaload, 1) := by decide +kernel
theorem dX9_down_114 : decode cX9_down 114 = .ok (.istore 6, 2) := by decide +kernel
theorem dX9_down_116 : decode cX9_down 116 = .ok (.aload_n 0, 1) := by decide +kernel
theorem dX9_down_117 : decode cX9_down 117 = .ok (.getfield 94, 3) := by decide +kernel
theorem dX9_down_120 : decode cX9_down 120 = .ok (.iload 5, 2) := by decide +kernel
theorem dX9_down_122 : decode cX9_down 122 = .ok (.iaload, 1) := by decide +kernel
theorem dX9_down_123 : decode cX9_down 123 = .ok (.iconst 1, 1) := by decide +kernel
theorem dX9_down_124 : decode cX9_down 124 = .ok (.isub, 1) := by decide +kernel
theorem dX9_down_125 : decode cX9_down 125 = .ok (.istore 7, 2) := by decide +kernel
theorem dX9_down_127 : decode cX9_down 127 = .ok (.iload 7, 2) := by decide +kernel
theorem dX9_down_129 : decode cX9_down 129 = .ok (.ifCond .lt 47, 3) := by decide +kernel
theorem dX9_down_132 : decode cX9_down 132 = .ok (.aload_n 0, 1) := by decide +kernel
theorem dX9_down_133 : decode cX9_down 133 = .ok (.iload_n 3, 1) := by decide +kernel
theorem dX9_down_134 : decode cX9_down 134 = .ok (.iload 5, 2) := by decide +kernel
theorem dX9_down_136 : decode cX9_down 136 = .ok (.iadd, 1) := by decide +kernel
theorem dX9_down_137 : decode cX9_down 137 = .ok (.iload 6, 2) := by decide +kernel
theorem dX9_down_139 : decode cX9_down 139 = .ok (.aload_n 0, 1) := by decide +kernel
theorem dX9_down_140 : decode cX9_down 140 = .ok (.getfield 91, 3) := by decide +kernel
theorem dX9_down_143 : decode cX9_down 143 = .ok (.bipush 6, 2) := by decide +kernel
theorem dX9_down_145 : decode cX9_down 145 = .ok (.iload 5, 2) := by decide +kernel
theorem dX9_down_147 : decode cX9_down 147 = .ok (.imul, 1) := by decide +kernel
theorem dX9_down_148 : decode cX9_down 148 = .ok (.iload 7, 2) := by decide +kernel
theorem dX9_down_150 : decode cX9_down 150 = .ok (.iadd, 1) := by decide +kernel
theorem dX9_down_151 : decode cX9_down 151 = .ok (.iaload, 1) := by decide +kernel
theorem dX9_down_152 : decode cX9_down 152 = .ok (.invokevirtual 157, 3) := by decide +kernel
theorem dX9_down_155 : decode cX9_down 155 = .ok (.aload_n 0, 1) := by decide +kernel
theorem dX9_down_156 : decode cX9_down 156 = .ok (.getfield 91, 3) := by decide +kernel
theorem dX9_down_159 : decode cX9_down 159 = .ok (.bipush 6, 2) := by decide +kernel
theorem dX9_down_161 : decode cX9_down 161 = .ok (.iload 5, 2) := by decide +kernel
theorem dX9_down_163 : decode cX9_down 163 = .ok (.imul, 1) := by decide +kernel
theorem dX9_down_164 : decode cX9_down 164 = .ok (.iload 7, 2) := by decide +kernel
theorem dX9_down_166 : decode cX9_down 166 = .ok (.iadd, 1) := by decide +kernel
theorem dX9_down_167 : decode cX9_down 167 = .ok (.iaload, 1) := by decide +kernel
theorem dX9_down_168 : decode cX9_down 168 = .ok (.istore 6, 2) := by decide +kernel
theorem dX9_down_170 : decode cX9_down 170 = .ok (.iinc 7 (-1), 3) := by decide +kernel
theorem dX9_down_173 : decode cX9_down 173 = .ok (.goto (-46), 3) := by decide +kernel
theorem dX9_down_176 : decode cX9_down 176 = .ok (.iinc 4 1, 3) := by decide +kernel
theorem dX9_down_179 : decode cX9_down 179 = .ok (.goto (-115), 3) := by decide +kernel
theorem dX9_down_182 : decode cX9_down 182 = .ok (.return_, 1) := by decide +kernel
theorem dX9_act_0 : decode cX9_act 0 = .ok (.aload_n 0, 1) := by decide +kernel
theorem dX9_act_1 : decode cX9_act 1 = .ok (.getfield 167, 3) := by decide +kernel
theorem dX9_act_4 : decode cX9_act 4 = .ok (.ifCond .le 27, 3) := by decide +kernel
theorem dX9_act_7 : decode cX9_act 7 = .ok (.aload_n 0, 1) := by decide +kernel
theorem dX9_act_8 : decode cX9_act 8 = .ok (.dup, 1) := by decide +kernel
theorem dX9_act_9 : decode cX9_act 9 = .ok (.getfield 167, 3) := by decide +kernel
theorem dX9_act_12 : decode cX9_act 12 = .ok (.iconst 1, 1) := by decide +kernel
theorem dX9_act_13 : decode cX9_act 13 = .ok (.isub, 1) := by decide +kernel
theorem dX9_act_14 : decode cX9_act 14 = .ok (.putfield 167, 3) := by decide +kernel
theorem dX9_act_17 : decode cX9_act 17 = .ok (.aload_n 0, 1) := by decide +kernel
theorem dX9_act_18 : decode cX9_act 18 = .ok (.getfield 167, 3) := by decide +kernel
theorem dX9_act_21 : decode cX9_act 21 = .ok (.ifCond .ne 10, 3) := by decide +kernel
theorem dX9_act_24 : decode cX9_act 24 = .ok (.aload_n 0, 1) := by decide +kernel
theorem dX9_act_25 : decode cX9_act 25 = .ok (.iconst 1, 1) := by decide +kernel
theorem dX9_act_26 : decode cX9_act 26 = .ok (.putfield 170, 3) := by decide +kernel
theorem dX9_act_29 : decode cX9_act 29 = .ok (.iconst 0, 1) := by decide +kernel
theorem dX9_act_30 : decode cX9_act 30 = .ok (.ireturn, 1) := by decide +kernel
theorem dX9_act_31 : decode cX9_act 31 = .ok (.aload_n 0, 1) := by decide +kernel
theorem dX9_act_32 : decode cX9_act 32 = .ok (.dup, 1) := by decide +kernel
theorem dX9_act_33 : decode cX9_act 33 = .ok (.getfield 174, 3) := by decide +kernel
theorem dX9_act_36 : decode cX9_act 36 = .ok (.iconst 1, 1) := by decide +kernel
theorem dX9_act_37 : decode cX9_act 37 = .ok (.iadd, 1) := by decide +kernel
theorem dX9_act_38 : decode cX9_act 38 = .ok (.putfield 174, 3) := by decide +kernel
theorem dX9_act_41 : decode cX9_act 41 = .ok (.aload_n 0, 1) := by decide +kernel
theorem dX9_act_42 : decode cX9_act 42 = .ok (.dup, 1) := by decide +kernel
theorem dX9_act_43 : decode cX9_act 43 = .ok (.getfield 177, 3) := by decide +kernel
theorem dX9_act_46 : decode cX9_act 46 = .ok (.iconst 1, 1) := by decide +kernel
theorem dX9_act_47 : decode cX9_act 47 = .ok (.iadd, 1) := by decide +kernel
theorem dX9_act_48 : decode cX9_act 48 = .ok (.putfield 177, 3) := by decide +kernel
theorem dX9_act_51 : decode cX9_act 51 = .ok (.iconst 1, 1) := by decide +kernel
theorem dX9_act_52 : decode cX9_act 52 = .ok (.ireturn, 1) := by decide +kernel
theorem dX9_acts_0 : decode cX9_acts 0 = .ok (.iconst 0, 1) := by decide +kernel
theorem dX9_acts_1 : decode cX9_acts 1 = .ok (.istore_n 2, 1) := by decide +kernel
theorem dX9_acts_2 : decode cX9_acts 2 = .ok (.iload_n 2, 1) := by decide +kernel
theorem dX9_acts_3 : decode cX9_acts 3 = .ok (.iload_n 1, 1) := by decide +kernel
theorem dX9_acts_4 : decode cX9_acts 4 = .ok (.if_icmp .ge 16, 3) := by decide +kernel
theorem dX9_acts_7 : decode cX9_acts 7 = .ok (.aload_n 0, 1) := by decide +kernel
theorem dX9_acts_8 : decode cX9_acts 8 = .ok (.invokevirtual 180, 3) := by decide +kernel
theorem dX9_acts_11 : decode cX9_acts 11 = .ok (.ifCond .eq 9, 3) := by decide +kernel
theorem dX9_acts_14 : decode cX9_acts 14 = .ok (.iinc 2 1, 3) := by decide +kernel
theorem dX9_acts_17 : decode cX9_acts 17 = .ok (.goto (-15), 3) := by decide +kernel
theorem dX9_acts_20 : decode cX9_acts 20 = .ok (.iload_n 2, 1) := by decide +kernel
theorem dX9_acts_21 : decode cX9_acts 21 = .ok (.ireturn, 1) := by decide +kernel
theorem dX9_plan_0 : decode cX9_plan 0 = .ok (.iload_n 1, 1) := by decide +kernel
theorem dX9_plan_1 : decode cX9_plan 1 = .ok (.iconst 0, 1) := by decide +kernel
theorem dX9_plan_2 : decode cX9_plan 2 = .ok (.iconst 3, 1) := by decide +kernel
theorem dX9_plan_3 : decode cX9_plan 3 = .ok (.invokestatic 110, 3) := by decide +kernel
theorem dX9_plan_6 : decode cX9_plan 6 = .ok (.ifCond .eq 13, 3) := by decide +kernel
theorem dX9_plan_9 : decode cX9_plan 9 = .ok (.iload_n 2, 1) := by decide +kernel
theorem dX9_plan_10 : decode cX9_plan 10 = .ok (.iconst 0, 1) := by decide +kernel
theorem dX9_plan_11 : decode cX9_plan 11 = .ok (.bipush 63, 2) := by decide +kernel
theorem dX9_plan_13 : decode cX9_plan 13 = .ok (.invokestatic 110, 3) := by decide +kernel
theorem dX9_plan_16 : decode cX9_plan 16 = .ok (.ifCond .ne 5, 3) := by decide +kernel
theorem dX9_plan_19 : decode cX9_plan 19 = .ok (.iconst (-1), 1) := by decide +kernel
theorem dX9_plan_20 : decode cX9_plan 20 = .ok (.ireturn, 1) := by decide +kernel
theorem dX9_plan_21 : decode cX9_plan 21 = .ok (.iload_n 1, 1) := by decide +kernel
theorem dX9_plan_22 : decode cX9_plan 22 = .ok (.iconst 2, 1) := by decide +kernel
theorem dX9_plan_23 : decode cX9_plan 23 = .ok (.if_icmp .ne 13, 3) := by decide +kernel
theorem dX9_plan_26 : decode cX9_plan 26 = .ok (.iload_n 3, 1) := by decide +kernel
theorem dX9_plan_27 : decode cX9_plan 27 = .ok (.iconst 0, 1) := by decide +kernel
theorem dX9_plan_28 : decode cX9_plan 28 = .ok (.bipush 63, 2) := by decide +kernel
theorem dX9_plan_30 : decode cX9_plan 30 = .ok (.invokestatic 110, 3) := by decide +kernel
theorem dX9_plan_33 : decode cX9_plan 33 = .ok (.ifCond .eq 21, 3) := by decide +kernel
theorem dX9_plan_36 : decode cX9_plan 36 = .ok (.iload_n 1, 1) := by decide +kernel
theorem dX9_plan_37 : decode cX9_plan 37 = .ok (.ifCond .eq 8, 3) := by decide +kernel
theorem dX9_plan_40 : decode cX9_plan 40 = .ok (.iload_n 1, 1) := by decide +kernel
theorem dX9_plan_41 : decode cX9_plan 41 = .ok (.iconst 3, 1) := by decide +kernel
theorem dX9_plan_42 : decode cX9_plan 42 = .ok (.if_icmp .ne 14, 3) := by decide +kernel
theorem dX9_plan_45 : decode cX9_plan 45 = .ok (.iload_n 3, 1) := by decide +kernel
theorem dX9_plan_46 : decode cX9_plan 46 = .ok (.iconst 0, 1) := by decide +kernel
theorem dX9_plan_47 : decode cX9_plan 47 = .ok (.iconst 4, 1) := by decide +kernel
theorem dX9_plan_48 : decode cX9_plan 48 = .ok (.invokestatic 110, 3) := by decide +kernel
theorem dX9_plan_51 : decode cX9_plan 51 = .ok (.ifCond .ne 5, 3) := by decide +kernel
theorem dX9_plan_54 : decode cX9_plan 54 = .ok (.iconst (-1), 1) := by decide +kernel
theorem dX9_plan_55 : decode cX9_plan 55 = .ok (.ireturn, 1) := by decide +kernel
theorem dX9_plan_56 : decode cX9_plan 56 = .ok (.aload_n 0, 1) := by decide +kernel
theorem dX9_plan_57 : decode cX9_plan 57 = .ok (.getfield 184, 3) := by decide +kernel
theorem dX9_plan_60 : decode cX9_plan 60 = .ok (.bipush 6, 2) := by decide +kernel
theorem dX9_plan_62 : decode cX9_plan 62 = .ok (.if_icmp .ne 6, 3) := by decide +kernel
theorem dX9_plan_65 : decode cX9_plan 65 = .ok (.bipush (-4), 2) := by decide +kernel
theorem dX9_plan_67 : decode cX9_plan 67 = .ok (.ireturn, 1) := by decide +kernel
theorem dX9_plan_68 : decode cX9_plan 68 = .ok (.aload_n 0, 1) := by decide +kernel
theorem dX9_plan_69 : decode cX9_plan 69 = .ok (.getfield 51, 3) := by decide +kernel
theorem dX9_plan_72 : decode cX9_plan 72 = .ok (.aload_n 0, 1) := by decide +kernel
theorem dX9_plan_73 : decode cX9_plan 73 = .ok (.getfield 184, 3) := by decide +kernel
theorem dX9_plan_76 : decode cX9_plan 76 = .ok (.iload_n 1, 1) := by decide +kernel
theorem dX9_plan_77 : decode cX9_plan 77 = .ok (.iastore, 1) := by decide +kernel
theorem dX9_plan_78 : decode cX9_plan 78 = .ok (.aload_n 0, 1) := by decide +kernel
theorem dX9_plan_79 : decode cX9_plan 79 = .ok (.getfield 54, 3) := by decide +kernel
theorem dX9_plan_82 : decode cX9_plan 82 = .ok (.aload_n 0, 1) := by decide +kernel
theorem dX9_plan_83 : decode cX9_plan 83 = .ok (.getfield 184, 3) := by decide +kernel
theorem dX9_plan_86 : decode cX9_plan 86 = .ok (.iload_n 2, 1) := by decide +kernel
theorem dX9_plan_87 : decode cX9_plan 87 = .ok (.iastore, 1) := by decide +kernel
theorem dX9_plan_88 : decode cX9_plan 88 = .ok (.aload_n 0, 1) := by decide +kernel
theorem dX9_plan_89 : decode cX9_plan 89 = .ok (.getfield 57, 3) := by decide +kernel
theorem dX9_plan_92 : decode cX9_plan 92 = .ok (.aload_n 0, 1) := by decide +kernel
theorem dX9_plan_93 : decode cX9_plan 93 = .ok (.getfield 184, 3) := by decide +kernel
theorem dX9_plan_96 : decode cX9_plan 96 = .ok (.iload_n 3, 1) := by decide +kernel
theorem dX9_plan_97 : decode cX9_plan 97 = .ok (.iastore, 1) := by decide +kernel
theorem dX9_plan_98 : decode cX9_plan 98 = .ok (.aload_n 0, 1) := by decide +kernel
theorem dX9_plan_99 : decode cX9_plan 99 = .ok (.getfield 60, 3) := by decide +kernel
theorem dX9_plan_102 : decode cX9_plan 102 = .ok (.aload_n 0, 1) := by decide +kernel
theorem dX9_plan_103 : decode cX9_plan 103 = .ok (.getfield 184, 3) := by decide +kernel
theorem dX9_plan_106 : decode cX9_plan 106 = .ok (.iload 4, 2) := by decide +kernel
theorem dX9_plan_108 : decode cX9_plan 108 = .ok (.iastore, 1) := by decide +kernel
theorem dX9_plan_109 : decode cX9_plan 109 = .ok (.aload_n 0, 1) := by decide +kernel
theorem dX9_plan_110 : decode cX9_plan 110 = .ok (.getfield 63, 3) := by decide +kernel
theorem dX9_plan_113 : decode cX9_plan 113 = .ok (.aload_n 0, 1) := by decide +kernel
theorem dX9_plan_114 : decode cX9_plan 114 = .ok (.getfield 184, 3) := by decide +kernel
theorem dX9_plan_117 : decode cX9_plan 117 = .ok (.iload 5, 2) := by decide +kernel
theorem dX9_plan_119 : decode cX9_plan 119 = .ok (.iastore, 1) := by decide +kernel
theorem dX9_plan_120 : decode cX9_plan 120 = .ok (.aload_n 0, 1) := by decide +kernel
theorem dX9_plan_121 : decode cX9_plan 121 = .ok (.dup, 1) := by decide +kernel
theorem dX9_plan_122 : decode cX9_plan 122 = .ok (.getfield 184, 3) := by decide +kernel
theorem dX9_plan_125 : decode cX9_plan 125 = .ok (.iconst 1, 1) := by decide +kernel
theorem dX9_plan_126 : decode cX9_plan 126 = .ok (.iadd, 1) := by decide +kernel
theorem dX9_plan_127 : decode cX9_plan 127 = .ok (.putfield 184, 3) := by decide +kernel
theorem dX9_plan_130 : decode cX9_plan 130 = .ok (.aload_n 0, 1) := by decide +kernel
theorem dX9_plan_131 : decode cX9_plan 131 = .ok (.getfield 184, 3) := by decide +kernel
theorem dX9_plan_134 : decode cX9_plan 134 = .ok (.ireturn, 1) := by decide +kernel
theorem dX9_scrap_0 : decode cX9_scrap 0 = .ok (.aload_n 0, 1) := by decide +kernel
theorem dX9_scrap_1 : decode cX9_scrap 1 = .ok (.getfield 184, 3) := by decide +kernel
theorem dX9_scrap_4 : decode cX9_scrap 4 = .ok (.istore_n 1, 1) := by decide +kernel
theorem dX9_scrap_5 : decode cX9_scrap 5 = .ok (.aload_n 0, 1) := by decide +kernel
theorem dX9_scrap_6 : decode cX9_scrap 6 = .ok (.iconst 0, 1) := by decide +kernel
theorem dX9_scrap_7 : decode cX9_scrap 7 = .ok (.putfield 184, 3) := by decide +kernel
theorem dX9_scrap_10 : decode cX9_scrap 10 = .ok (.iload_n 1, 1) := by decide +kernel
theorem dX9_scrap_11 : decode cX9_scrap 11 = .ok (.ireturn, 1) := by decide +kernel
theorem dX9_draft_0 : decode cX9_draft 0 = .ok (.iload_n 1, 1) := by decide +kernel
theorem dX9_draft_1 : decode cX9_draft 1 = .ok (.iconst 0, 1) := by decide +kernel
theorem dX9_draft_2 : decode cX9_draft 2 = .ok (.bipush 7, 2) := by decide +kernel
theorem dX9_draft_4 : decode cX9_draft 4 = .ok (.invokestatic 110, 3) := by decide +kernel
theorem dX9_draft_7 : decode cX9_draft 7 = .ok (.ifCond .ne 5, 3) := by decide +kernel
theorem dX9_draft_10 : decode cX9_draft 10 = .ok (.iconst (-1), 1) := by decide +kernel
theorem dX9_draft_11 : decode cX9_draft 11 = .ok (.ireturn, 1) := by decide +kernel
theorem dX9_draft_12 : decode cX9_draft 12 = .ok (.aload_n 0, 1) := by decide +kernel
theorem dX9_draft_13 : decode cX9_draft 13 = .ok (.getfield 66, 3) := by decide +kernel
theorem dX9_draft_16 : decode cX9_draft 16 = .ok (.iload_n 1, 1) := by decide +kernel
theorem dX9_draft_17 : decode cX9_draft 17 = .ok (.iload_n 2, 1) := by decide +kernel
theorem dX9_draft_18 : decode cX9_draft 18 = .ok (.iastore, 1) := by decide +kernel
theorem dX9_draft_19 : decode cX9_draft 19 = .ok (.aload_n 0, 1) := by decide +kernel
theorem dX9_draft_20 : decode cX9_draft 20 = .ok (.getfield 69, 3) := by decide +kernel
theorem dX9_draft_23 : decode cX9_draft 23 = .ok (.iload_n 1, 1) := by decide +kernel
theorem dX9_draft_24 : decode cX9_draft 24 = .ok (.iload_n 3, 1) := by decide +kernel
theorem dX9_draft_25 : decode cX9_draft 25 = .ok (.iastore, 1) := by decide +kernel
theorem dX9_draft_26 : decode cX9_draft 26 = .ok (.aload_n 0, 1) := by decide +kernel
theorem dX9_draft_27 : decode cX9_draft 27 = .ok (.getfield 72, 3) := by decide +kernel
theorem dX9_draft_30 : decode cX9_draft 30 = .ok (.iload_n 1, 1) := by decide +kernel
theorem dX9_draft_31 : decode cX9_draft 31 = .ok (.iconst 0, 1) := by decide +kernel
theorem dX9_draft_32 : decode cX9_draft 32 = .ok (.iastore, 1) := by decide +kernel
theorem dX9_draft_33 : decode cX9_draft 33 = .ok (.iconst 1, 1) := by decide +kernel
theorem dX9_draft_34 : decode cX9_draft 34 = .ok (.ireturn, 1) := by decide +kernel
theorem dX9_letters_0 : decode cX9_letters 0 = .ok (.iload_n 1, 1) := by decide +kernel
theorem dX9_letters_1 : decode cX9_letters 1 = .ok (.iconst 0, 1) := by decide +kernel
theorem dX9_letters_2 : decode cX9_letters 2 = .ok (.bipush 7, 2) := by decide +kernel
theorem dX9_letters_4 : decode cX9_letters 4 = .ok (.invokestatic 110, 3) := by decide +kernel
theorem dX9_letters_7 : decode cX9_letters 7 = .ok (.ifCond .ne 5, 3) := by decide +kernel
theorem dX9_letters_10 : decode cX9_letters 10 = .ok (.iconst (-1), 1) := by decide +kernel
theorem dX9_letters_11 : decode cX9_letters 11 = .ok (.ireturn, 1) := by decide +kernel
theorem dX9_letters_12 : decode cX9_letters 12 = .ok (.aload_n 0, 1) := by decide +kernel
theorem dX9_letters_13 : decode cX9_letters 13 = .ok (.sipush 648, 3) := by decide +kernel
theorem dX9_letters_16 : decode cX9_letters 16 = .ok (.iconst 4, 1) := by decide +kernel
theorem dX9_letters_17 : decode cX9_letters 17 = .ok (.iload_n 2, 1) := by decide +kernel
theorem dX9_letters_18 : decode cX9_letters 18 = .ok (.iload_n 3, 1) := by decide +kernel
theorem dX9_letters_19 : decode cX9_letters 19 = .ok (.invokevirtual 153, 3) := by decide +kernel
theorem dX9_letters_22 : decode cX9_letters 22 = .ok (.aload_n 0, 1) := by decide +kernel
theorem dX9_letters_23 : decode cX9_letters 23 = .ok (.getfield 72, 3) := by decide +kernel
theorem dX9_letters_26 : decode cX9_letters 26 = .ok (.iload_n 1, 1) := by decide +kernel
theorem dX9_letters_27 : decode cX9_letters 27 = .ok (.iaload, 1) := by decide +kernel
theorem dX9_letters_28 : decode cX9_letters 28 = .ok (.istore 4, 2) := by decide +kernel
theorem dX9_letters_30 : decode cX9_letters 30 = .ok (.iload 4, 2) := by decide +kernel
theorem dX9_letters_32 : decode cX9_letters 32 = .ok (.aload_n 0, 1) := by decide +kernel
theorem dX9_letters_33 : decode cX9_letters 33 = .ok (.getfield 13, 3) := by decide +kernel
theorem dX9_letters_36 : decode cX9_letters 36 = .ok (.sipush 648, 3) := by decide +kernel
theorem dX9_letters_39 : decode cX9_letters 39 = .ok (.iaload, 1) := by decide +kernel
theorem dX9_letters_40 : decode cX9_letters 40 = .ok (.iadd, 1) := by decide +kernel
theorem dX9_letters_41 : decode cX9_letters 41 = .ok (.bipush 24, 2) := by decide +kernel
theorem dX9_letters_43 : decode cX9_letters 43 = .ok (.if_icmp .le 6, 3) := by decide +kernel
theorem dX9_letters_46 : decode cX9_letters 46 = .ok (.bipush (-4), 2) := by decide +kernel
theorem dX9_letters_48 : decode cX9_letters 48 = .ok (.ireturn, 1) := by decide +kernel
theorem dX9_letters_49 : decode cX9_letters 49 = .ok (.iconst 0, 1) := by decide +kernel
theorem dX9_letters_50 : decode cX9_letters 50 = .ok (.istore 5, 2) := by decide +kernel
theorem dX9_letters_52 : decode cX9_letters 52 = .ok (.iload 5, 2) := by decide +kernel
theorem dX9_letters_54 : decode cX9_letters 54 = .ok (.aload_n 0, 1) := by decide +kernel
theorem dX9_letters_55 : decode cX9_letters 55 = .ok (.getfield 13, 3) := by decide +kernel
theorem dX9_letters_58 : decode cX9_letters 58 = .ok (.sipush 648, 3) := by decide +kernel
theorem dX9_letters_61 : decode cX9_letters 61 = .ok (.iaload, 1) := by decide +kernel
theorem dX9_letters_62 : decode cX9_letters 62 = .ok (.if_icmp .ge 35, 3) := by decide +kernel
theorem dX9_letters_65 : decode cX9_letters 65 = .ok (.aload_n 0, 1) := by decide +kernel
theorem dX9_letters_66 : decode cX9_letters 66 = .ok (.getfield 75, 3) := by decide +kernel
theorem dX9_letters_69 : decode cX9_letters 69 = .ok (.bipush 24, 2) := by decide +kernel
theorem dX9_letters_71 : decode cX9_letters 71 = .ok (.iload_n 1, 1) := by decide +kernel
theorem dX9_letters_72 : decode cX9_letters 72 = .ok (.imul, 1) := by decide +kernel
theorem dX9_letters_73 : decode cX9_letters 73 = .ok (.iload 4, 2) := by decide +kernel
theorem dX9_letters_75 : decode cX9_letters 75 = .ok (.iadd, 1) := by decide +kernel
theorem dX9_letters_76 : decode cX9_letters 76 = .ok (.iload 5, 2) := by decide +kernel
theorem dX9_letters_78 : decode cX9_letters 78 = .ok (.iadd, 1) := by decide +kernel
theorem dX9_letters_79 : decode cX9_letters 79 = .ok (.aload_n 0, 1) := by decide +kernel
theorem dX9_letters_80 : decode cX9_letters 80 = .ok (.getfield 17, 3) := by decide +kernel
theorem dX9_letters_83 : decode cX9_letters 83 = .ok (.sipush 15552, 3) := by decide +kernel
theorem dX9_letters_86 : decode cX9_letters 86 = .ok (.iload 5, 2) := by decide +kernel
theorem dX9_letters_88 : decode cX9_letters 88 = .ok (.iadd, 1) := by decide +kernel
theorem dX9_letters_89 : decode cX9_letters 89 = .ok (.iaload, 1) := by decide +kernel
theorem dX9_letters_90 : decode cX9_letters 90 = .ok (.iastore, 1) := by decide +kernel
theorem dX9_letters_91 : decode cX9_letters 91 = .ok (.iinc 5 1, 3) := by decide +kernel
theorem dX9_letters_94 : decode cX9_letters 94 = .ok (.goto (-42), 3) := by decide +kernel
theorem dX9_letters_97 : decode cX9_letters 97 = .ok (.aload_n 0, 1) := by decide +kernel
theorem dX9_letters_98 : decode cX9_letters 98 = .ok (.getfield 72, 3) := by decide +kernel
theorem dX9_letters_101 : decode cX9_letters 101 = .ok (.iload_n 1, 1) := by decide +kernel
theorem dX9_letters_102 : decode cX9_letters 102 = .ok (.iload 4, 2) := by decide +kernel
theorem dX9_letters_104 : decode cX9_letters 104 = .ok (.aload_n 0, 1) := by decide +kernel
theorem dX9_letters_105 : decode cX9_letters 105 = .ok (.getfield 13, 3) := by decide +kernel
theorem dX9_letters_108 : decode cX9_letters 108 = .ok (.sipush 648, 3) := by decide +kernel
theorem dX9_letters_111 : decode cX9_letters 111 = .ok (.iaload, 1) := by decide +kernel
theorem dX9_letters_112 : decode cX9_letters 112 = .ok (.iadd, 1) := by decide +kernel
theorem dX9_letters_113 : decode cX9_letters 113 = .ok (.iastore, 1) := by decide +kernel
theorem dX9_letters_114 : decode cX9_letters 114 = .ok (.aload_n 0, 1) := by decide +kernel
theorem dX9_letters_115 : decode cX9_letters 115 = .ok (.getfield 72, 3) := by decide +kernel
theorem dX9_letters_118 : decode cX9_letters 118 = .ok (.iload_n 1, 1) := by decide +kernel
theorem dX9_letters_119 : decode cX9_letters 119 = .ok (.iaload, 1) := by decide +kernel
theorem dX9_letters_120 : decode cX9_letters 120 = .ok (.ireturn, 1) := by decide +kernel
theorem dX9_drafted_0 : decode cX9_drafted 0 = .ok (.iconst 0, 1) := by decide +kernel
theorem dX9_drafted_1 : decode cX9_drafted 1 = .ok (.istore_n 3, 1) := by decide +kernel
theorem dX9_drafted_2 : decode cX9_drafted 2 = .ok (.iload_n 3, 1) := by decide +kernel
theorem dX9_drafted_3 : decode cX9_drafted 3 = .ok (.aload_n 0, 1) := by decide +kernel
theorem dX9_drafted_4 : decode cX9_drafted 4 = .ok (.getfield 48, 3) := by decide +kernel
theorem dX9_drafted_7 : decode cX9_drafted 7 = .ok (.iload_n 2, 1) := by decide +kernel
theorem dX9_drafted_8 : decode cX9_drafted 8 = .ok (.iaload, 1) := by decide +kernel
theorem dX9_drafted_9 : decode cX9_drafted 9 = .ok (.if_icmp .ge 107, 3) := by decide +kernel
theorem dX9_drafted_12 : decode cX9_drafted 12 = .ok (.aload_n 0, 1) := by decide +kernel
theorem dX9_drafted_13 : decode cX9_drafted 13 = .ok (.getfield 45, 3) := by decide +kernel
theorem dX9_drafted_16 : decode cX9_drafted 16 = .ok (.bipush 8, 2) := by decide +kernel
theorem dX9_drafted_18 : decode cX9_drafted 18 = .ok (.iload_n 2, 1) := by decide +kernel
theorem dX9_drafted_19 : decode cX9_drafted 19 = .ok (.imul, 1) := by decide +kernel
theorem dX9_drafted_20 : decode cX9_drafted 20 = .ok (.iload_n 3, 1) := by decide +kernel
theorem dX9_drafted_21 : decode cX9_drafted 21 = .ok (.iadd, 1) := by decide +kernel
theorem dX9_drafted_22 : decode cX9_drafted 22 = .ok (.iaload, 1) := by decide +kernel
theorem dX9_drafted_23 : decode cX9_drafted 23 = .ok (.istore 4, 2) := by decide +kernel
theorem dX9_drafted_25 : decode cX9_drafted 25 = .ok (.iload 4, 2) := by decide +kernel
theorem dX9_drafted_27 : decode cX9_drafted 27 = .ok (.iconst 4, 1) := by decide +kernel
theorem dX9_drafted_28 : decode cX9_drafted 28 = .ok (.if_icmp .ne 61, 3) := by decide +kernel
theorem dX9_drafted_31 : decode cX9_drafted 31 = .ok (.aload_n 0, 1) := by decide +kernel
theorem dX9_drafted_32 : decode cX9_drafted 32 = .ok (.getfield 72, 3) := by decide +kernel
theorem dX9_drafted_35 : decode cX9_drafted 35 = .ok (.iload_n 3, 1) := by decide +kernel
theorem dX9_drafted_36 : decode cX9_drafted 36 = .ok (.iaload, 1) := by decide +kernel
theorem dX9_drafted_37 : decode cX9_drafted 37 = .ok (.ifCond .le 52, 3) := by decide +kernel
theorem dX9_drafted_40 : decode cX9_drafted 40 = .ok (.aload_n 0, 1) := by decide +kernel
theorem dX9_drafted_41 : decode cX9_drafted 41 = .ok (.iload_n 1, 1) := by decide +kernel
theorem dX9_drafted_42 : decode cX9_drafted 42 = .ok (.iload_n 3, 1) := by decide +kernel
theorem dX9_drafted_43 : decode cX9_drafted 43 = .ok (.iadd, 1) := by decide +kernel
theorem dX9_drafted_44 : decode cX9_drafted 44 = .ok (.invokevirtual 101, 3) := by decide +kernel
theorem dX9_drafted_47 : decode cX9_drafted 47 = .ok (.iconst 0, 1) := by decide +kernel
theorem dX9_drafted_48 : decode cX9_drafted 48 = .ok (.istore 5, 2) := by decide +kernel
theorem dX9_drafted_50 : decode cX9_drafted 50 = .ok (.iload 5, 2) := by decide +kernel
theorem dX9_drafted_52 : decode cX9_drafted 52 = .ok (.aload_n 0, 1) := by decide +kernel
theorem dX9_drafted_53 : decode cX9_drafted 53 = .ok (.getfield 72, 3) := by decide +kernel
theorem dX9_drafted_56 : decode cX9_drafted 56 = .ok (.iload_n 3, 1) := by decide +kernel
theorem dX9_drafted_57 : decode cX9_drafted 57 = .ok (.iaload, 1) := by decide +kernel
theorem dX9_drafted_58 : decode cX9_drafted 58 = .ok (.if_icmp .ge 28, 3) := by decide +kernel
theorem dX9_drafted_61 : decode cX9_drafted 61 = .ok (.aload_n 0, 1) := by decide +kernel
theorem dX9_drafted_62 : decode cX9_drafted 62 = .ok (.iload_n 1, 1) := by decide +kernel
theorem dX9_drafted_63 : decode cX9_drafted 63 = .ok (.iload_n 3, 1) := by decide +kernel
theorem dX9_drafted_64 : decode cX9_drafted 64 = .ok (.iadd, 1) := by decide +kernel
theorem dX9_drafted_65 : decode cX9_drafted 65 = .ok (.aload_n 0, 1) := by decide +kernel
theorem dX9_drafted_66 : decode cX9_drafted 66 = .ok (.getfield 75, 3) := by decide +kernel
theorem dX9_drafted_69 : decode cX9_drafted 69 = .ok (.bipush 24, 2) := by decide +kernel
theorem dX9_drafted_71 : decode cX9_drafted 71 = .ok (.iload_n 3, 1) := by decide +kernel
theorem dX9_drafted_72 : decode cX9_drafted 72 = .ok (.imul, 1) := by decide +kernel
theorem dX9_drafted_73 : decode cX9_drafted 73 = .ok (.iload 5, 2) := by decide +kernel
theorem dX9_drafted_75 : decode cX9_drafted 75 = .ok (.iadd, 1) := by decide +kernel
theorem dX9_drafted_76 : decode cX9_drafted 76 = .ok (.iaload, 1) := by decide +kernel
theorem dX9_drafted_77 : decode cX9_drafted 77 = .ok (.invokevirtual 107, 3) := by decide +kernel
theorem dX9_drafted_80 : decode cX9_drafted 80 = .ok (.iinc 5 1, 3) := by decide +kernel
theorem dX9_drafted_83 : decode cX9_drafted 83 = .ok (.goto (-33), 3) := by decide +kernel
theorem dX9_drafted_86 : decode cX9_drafted 86 = .ok (.goto 24, 3) := by decide +kernel
theorem dX9_drafted_89 : decode cX9_drafted 89 = .ok (.aload_n 0, 1) := by decide +kernel
theorem dX9_drafted_90 : decode cX9_drafted 90 = .ok (.iload_n 1, 1) := by decide +kernel
theorem dX9_drafted_91 : decode cX9_drafted 91 = .ok (.iload_n 3, 1) := by decide +kernel
theorem dX9_drafted_92 : decode cX9_drafted 92 = .ok (.iadd, 1) := by decide +kernel
theorem dX9_drafted_93 : decode cX9_drafted 93 = .ok (.iload 4, 2) := by decide +kernel
theorem dX9_drafted_95 : decode cX9_drafted 95 = .ok (.aload_n 0, 1) := by decide +kernel
theorem dX9_drafted_96 : decode cX9_drafted 96 = .ok (.getfield 66, 3) := by decide +kernel
theorem dX9_drafted_99 : decode cX9_drafted 99 = .ok (.iload_n 3, 1) := by decide +kernel
theorem dX9_drafted_100 : decode cX9_drafted 100 = .ok (.iaload, 1) := by decide +kernel
theorem dX9_drafted_101 : decode cX9_drafted 101 = .ok (.aload_n 0, 1) := by decide +kernel
theorem dX9_drafted_102 : decode cX9_drafted 102 = .ok (.getfield 69, 3) := by decide +kernel
theorem dX9_drafted_105 : decode cX9_drafted 105 = .ok (.iload_n 3, 1) := by decide +kernel
theorem dX9_drafted_106 : decode cX9_drafted 106 = .ok (.iaload, 1) := by decide +kernel
theorem dX9_drafted_107 : decode cX9_drafted 107 = .ok (.invokevirtual 153, 3) := by decide +kernel
theorem dX9_drafted_110 : decode cX9_drafted 110 = .ok (.iinc 3 1, 3) := by decide +kernel
theorem dX9_drafted_113 : decode cX9_drafted 113 = .ok (.goto (-111), 3) := by decide +kernel
theorem dX9_drafted_116 : decode cX9_drafted 116 = .ok (.return_, 1) := by decide +kernel
theorem dX9_find_0 : decode cX9_find 0 = .ok (.iconst (-1), 1) := by decide +kernel
theorem dX9_find_1 : decode cX9_find 1 = .ok (.istore_n 2, 1) := by decide +kernel
theorem dX9_find_2 : decode cX9_find 2 = .ok (.iconst 0, 1) := by decide +kernel
theorem dX9_find_3 : decode cX9_find 3 = .ok (.istore_n 3, 1) := by decide +kernel
theorem dX9_find_4 : decode cX9_find 4 = .ok (.iload_n 3, 1) := by decide +kernel
theorem dX9_find_5 : decode cX9_find 5 = .ok (.aload_n 0, 1) := by decide +kernel
theorem dX9_find_6 : decode cX9_find 6 = .ok (.getfield 187, 3) := by decide +kernel
theorem dX9_find_9 : decode cX9_find 9 = .ok (.if_icmp .ge 25, 3) := by decide +kernel
theorem dX9_find_12 : decode cX9_find 12 = .ok (.aload_n 0, 1) := by decide +kernel
theorem dX9_find_13 : decode cX9_find 13 = .ok (.getfield 23, 3) := by decide +kernel
theorem dX9_find_16 : decode cX9_find 16 = .ok (.iload_n 3, 1) := by decide +kernel
theorem dX9_find_17 : decode cX9_find 17 = .ok (.iaload, 1) := by decide +kernel
theorem dX9_find_18 : decode cX9_find 18 = .ok (.iload_n 1, 1) := by decide +kernel
theorem dX9_find_19 : decode cX9_find 19 = .ok (.if_icmp .ne 7, 3) := by decide +kernel
theorem dX9_find_22 : decode cX9_find 22 = .ok (.iload_n 3, 1) := by decide +kernel
theorem dX9_find_23 : decode cX9_find 23 = .ok (.goto 4, 3) := by decide +kernel
theorem dX9_find_26 : decode cX9_find 26 = .ok (.iload_n 2, 1) := by decide +kernel
theorem dX9_find_27 : decode cX9_find 27 = .ok (.istore_n 2, 1) := by decide +kernel
theorem dX9_find_28 : decode cX9_find 28 = .ok (.iinc 3 1, 3) := by decide +kernel
theorem dX9_find_31 : decode cX9_find 31 = .ok (.goto (-27), 3) := by decide +kernel
theorem dX9_find_34 : decode cX9_find 34 = .ok (.iload_n 2, 1) := by decide +kernel
theorem dX9_find_35 : decode cX9_find 35 = .ok (.ireturn, 1) := by decide +kernel
theorem dX9_form_0 : decode cX9_form 0 = .ok (.bipush 16, 2) := by decide +kernel
theorem dX9_form_2 : decode cX9_form 2 = .ok (.aload_n 0, 1) := by decide +kernel
theorem dX9_form_3 : decode cX9_form 3 = .ok (.getfield 26, 3) := by decide +kernel
theorem dX9_form_6 : decode cX9_form 6 = .ok (.iload_n 1, 1) := by decide +kernel
theorem dX9_form_7 : decode cX9_form 7 = .ok (.iaload, 1) := by decide +kernel
theorem dX9_form_8 : decode cX9_form 8 = .ok (.imul, 1) := by decide +kernel
theorem dX9_form_9 : decode cX9_form 9 = .ok (.bipush 8, 2) := by decide +kernel
theorem dX9_form_11 : decode cX9_form 11 = .ok (.iload_n 2, 1) := by decide +kernel
theorem dX9_form_12 : decode cX9_form 12 = .ok (.imul, 1) := by decide +kernel
theorem dX9_form_13 : decode cX9_form 13 = .ok (.iadd, 1) := by decide +kernel
theorem dX9_form_14 : decode cX9_form 14 = .ok (.ireturn, 1) := by decide +kernel
theorem dX9_moveRow_0 : decode cX9_moveRow 0 = .ok (.aload_n 0, 1) := by decide +kernel
theorem dX9_moveRow_1 : decode cX9_moveRow 1 = .ok (.getfield 23, 3) := by decide +kernel
theorem dX9_moveRow_4 : decode cX9_moveRow 4 = .ok (.iload_n 2, 1) := by decide +kernel
theorem dX9_moveRow_5 : decode cX9_moveRow 5 = .ok (.aload_n 0, 1) := by decide +kernel
theorem dX9_moveRow_6 : decode cX9_moveRow 6 = .ok (.getfield 23, 3) := by decide +kernel
theorem dX9_moveRow_9 : decode cX9_moveRow 9 = .ok (.iload_n 1, 1) := by decide +kernel
theorem dX9_moveRow_10 : decode cX9_moveRow 10 = .ok (.iaload, 1) := by decide +kernel
theorem dX9_moveRow_11 : decode cX9_moveRow 11 = .ok (.iastore, 1) := by decide +kernel
theorem dX9_moveRow_12 : decode cX9_moveRow 12 = .ok (.aload_n 0, 1) := by decide +kernel
theorem dX9_moveRow_13 : decode cX9_moveRow 13 = .ok (.getfield 26, 3) := by decide +kernel
theorem dX9_moveRow_16 : decode cX9_moveRow 16 = .ok (.iload_n 2, 1) := by decide +kernel
theorem dX9_moveRow_17 : decode cX9_moveRow 17 = .ok (.aload_n 0, 1) := by decide +kernel
theorem dX9_moveRow_18 : decode cX9_moveRow 18 = .ok (.getfield 26, 3) := by decide +kernel
theorem dX9_moveRow_21 : decode cX9_moveRow 21 = .ok (.iload_n 1, 1) := by decide +kernel
theorem dX9_moveRow_22 : decode cX9_moveRow 22 = .ok (.iaload, 1) := by decide +kernel
theorem dX9_moveRow_23 : decode cX9_moveRow 23 = .ok (.iastore, 1) := by decide +kernel
theorem dX9_moveRow_24 : decode cX9_moveRow 24 = .ok (.aload_n 0, 1) := by decide +kernel
theorem dX9_moveRow_25 : decode cX9_moveRow 25 = .ok (.getfield 29, 3) := by decide +kernel
theorem dX9_moveRow_28 : decode cX9_moveRow 28 = .ok (.iload_n 2, 1) := by decide +kernel
theorem dX9_moveRow_29 : decode cX9_moveRow 29 = .ok (.aload_n 0, 1) := by decide +kernel
theorem dX9_moveRow_30 : decode cX9_moveRow 30 = .ok (.getfield 29, 3) := by decide +kernel
theorem dX9_moveRow_33 : decode cX9_moveRow 33 = .ok (.iload_n 1, 1) := by decide +kernel
theorem dX9_moveRow_34 : decode cX9_moveRow 34 = .ok (.iaload, 1) := by decide +kernel
theorem dX9_moveRow_35 : decode cX9_moveRow 35 = .ok (.iastore, 1) := by decide +kernel
theorem dX9_moveRow_36 : decode cX9_moveRow 36 = .ok (.aload_n 0, 1) := by decide +kernel
theorem dX9_moveRow_37 : decode cX9_moveRow 37 = .ok (.getfield 32, 3) := by decide +kernel
theorem dX9_moveRow_40 : decode cX9_moveRow 40 = .ok (.iload_n 2, 1) := by decide +kernel
theorem dX9_moveRow_41 : decode cX9_moveRow 41 = .ok (.aload_n 0, 1) := by decide +kernel
theorem dX9_moveRow_42 : decode cX9_moveRow 42 = .ok (.getfield 32, 3) := by decide +kernel
theorem dX9_moveRow_45 : decode cX9_moveRow 45 = .ok (.iload_n 1, 1) := by decide +kernel
theorem dX9_moveRow_46 : decode cX9_moveRow 46 = .ok (.baload, 1) := by decide +kernel
theorem dX9_moveRow_47 : decode cX9_moveRow 47 = .ok (.bastore, 1) := by decide +kernel
theorem dX9_moveRow_48 : decode cX9_moveRow 48 = .ok (.aload_n 0, 1) := by decide +kernel
theorem dX9_moveRow_49 : decode cX9_moveRow 49 = .ok (.getfield 36, 3) := by decide +kernel
theorem dX9_moveRow_52 : decode cX9_moveRow 52 = .ok (.iload_n 2, 1) := by decide +kernel
theorem dX9_moveRow_53 : decode cX9_moveRow 53 = .ok (.aload_n 0, 1) := by decide +kernel
theorem dX9_moveRow_54 : decode cX9_moveRow 54 = .ok (.getfield 36, 3) := by decide +kernel
theorem dX9_moveRow_57 : decode cX9_moveRow 57 = .ok (.iload_n 1, 1) := by decide +kernel
theorem dX9_moveRow_58 : decode cX9_moveRow 58 = .ok (.baload, 1) := by decide +kernel
theorem dX9_moveRow_59 : decode cX9_moveRow 59 = .ok (.bastore, 1) := by decide +kernel
theorem dX9_moveRow_60 : decode cX9_moveRow 60 = .ok (.return_, 1) := by decide +kernel
theorem dX9_insert_0 : decode cX9_insert 0 = .ok (.aload_n 0, 1) := by decide +kernel
theorem dX9_insert_1 : decode cX9_insert 1 = .ok (.getfield 187, 3) := by decide +kernel
theorem dX9_insert_4 : decode cX9_insert 4 = .ok (.istore_n 2, 1) := by decide +kernel
theorem dX9_insert_5 : decode cX9_insert 5 = .ok (.iload_n 2, 1) := by decide +kernel
theorem dX9_insert_6 : decode cX9_insert 6 = .ok (.ifCond .le 29, 3) := by decide +kernel
theorem dX9_insert_9 : decode cX9_insert 9 = .ok (.aload_n 0, 1) := by decide +kernel
theorem dX9_insert_10 : decode cX9_insert 10 = .ok (.getfield 23, 3) := by decide +kernel
theorem dX9_insert_13 : decode cX9_insert 13 = .ok (.iload_n 2, 1) := by decide +kernel
theorem dX9_insert_14 : decode cX9_insert 14 = .ok (.iconst 1, 1) := by decide +kernel
theorem dX9_insert_15 : decode cX9_insert 15 = .ok (.isub, 1) := by decide +kernel
theorem dX9_insert_16 : decode cX9_insert 16 = .ok (.iaload, 1) := by decide +kernel
theorem dX9_insert_17 : decode cX9_insert 17 = .ok (.iload_n 1, 1) := by decide +kernel
theorem dX9_insert_18 : decode cX9_insert 18 = .ok (.if_icmp .le 17, 3) := by decide +kernel
theorem dX9_insert_21 : decode cX9_insert 21 = .ok (.aload_n 0, 1) := by decide +kernel
theorem dX9_insert_22 : decode cX9_insert 22 = .ok (.iload_n 2, 1) := by decide +kernel
theorem dX9_insert_23 : decode cX9_insert 23 = .ok (.iconst 1, 1) := by decide +kernel
theorem dX9_insert_24 : decode cX9_insert 24 = .ok (.isub, 1) := by decide +kernel
theorem dX9_insert_25 : decode cX9_insert 25 = .ok (.iload_n 2, 1) := by decide +kernel
theorem dX9_insert_26 : decode cX9_insert 26 = .ok (.invokevirtual 190, 3) := by decide +kernel
theorem dX9_insert_29 : decode cX9_insert 29 = .ok (.iinc 2 (-1), 3) := by decide +kernel
theorem dX9_insert_32 : decode cX9_insert 32 = .ok (.goto (-27), 3) := by decide +kernel
theorem dX9_insert_35 : decode cX9_insert 35 = .ok (.iconst 0, 1) := by decide +kernel
theorem dX9_insert_36 : decode cX9_insert 36 = .ok (.istore_n 3, 1) := by decide +kernel
theorem dX9_insert_37 : decode cX9_insert 37 = .ok (.aload_n 0, 1) := by decide +kernel
theorem dX9_insert_38 : decode cX9_insert 38 = .ok (.getfield 39, 3) := by decide +kernel
theorem dX9_insert_41 : decode cX9_insert 41 = .ok (.iload_n 3, 1) := by decide +kernel
theorem dX9_insert_42 : decode cX9_insert 42 = .ok (.baload, 1) := by decide +kernel
theorem dX9_insert_43 : decode cX9_insert 43 = .ok (.ifCond .eq 9, 3) := by decide +kernel
theorem dX9_insert_46 : decode cX9_insert 46 = .ok (.iinc 3 1, 3) := by decide +kernel
theorem dX9_insert_49 : decode cX9_insert 49 = .ok (.goto (-12), 3) := by decide +kernel
theorem dX9_insert_52 : decode cX9_insert 52 = .ok (.aload_n 0, 1) := by decide +kernel
theorem dX9_insert_53 : decode cX9_insert 53 = .ok (.getfield 39, 3) := by decide +kernel
theorem dX9_insert_56 : decode cX9_insert 56 = .ok (.iload_n 3, 1) := by decide +kernel
theorem dX9_insert_57 : decode cX9_insert 57 = .ok (.iconst 1, 1) := by decide +kernel
theorem dX9_insert_58 : decode cX9_insert 58 = .ok (.bastore, 1) := by decide +kernel
theorem dX9_insert_59 : decode cX9_insert 59 = .ok (.aload_n 0, 1) := by decide +kernel
theorem dX9_insert_60 : decode cX9_insert 60 = .ok (.getfield 23, 3) := by decide +kernel
theorem dX9_insert_63 : decode cX9_insert 63 = .ok (.iload_n 2, 1) := by decide +kernel
theorem dX9_insert_64 : decode cX9_insert 64 = .ok (.iload_n 1, 1) := by decide +kernel
theorem dX9_insert_65 : decode cX9_insert 65 = .ok (.iastore, 1) := by decide +kernel
theorem dX9_insert_66 : decode cX9_insert 66 = .ok (.aload_n 0, 1) := by decide +kernel
theorem dX9_insert_67 : decode cX9_insert 67 = .ok (.getfield 26, 3) := by decide +kernel
theorem dX9_insert_70 : decode cX9_insert 70 = .ok (.iload_n 2, 1) := by decide +kernel
theorem dX9_insert_71 : decode cX9_insert 71 = .ok (.iload_n 3, 1) := by decide +kernel
theorem dX9_insert_72 : decode cX9_insert 72 = .ok (.iastore, 1) := by decide +kernel
theorem dX9_insert_73 : decode cX9_insert 73 = .ok (.aload_n 0, 1) := by decide +kernel
theorem dX9_insert_74 : decode cX9_insert 74 = .ok (.getfield 29, 3) := by decide +kernel
theorem dX9_insert_77 : decode cX9_insert 77 = .ok (.iload_n 2, 1) := by decide +kernel
theorem dX9_insert_78 : decode cX9_insert 78 = .ok (.iconst 0, 1) := by decide +kernel
theorem dX9_insert_79 : decode cX9_insert 79 = .ok (.iastore, 1) := by decide +kernel
theorem dX9_insert_80 : decode cX9_insert 80 = .ok (.aload_n 0, 1) := by decide +kernel
theorem dX9_insert_81 : decode cX9_insert 81 = .ok (.getfield 32, 3) := by decide +kernel
theorem dX9_insert_84 : decode cX9_insert 84 = .ok (.iload_n 2, 1) := by decide +kernel
theorem dX9_insert_85 : decode cX9_insert 85 = .ok (.iconst 0, 1) := by decide +kernel
theorem dX9_insert_86 : decode cX9_insert 86 = .ok (.bastore, 1) := by decide +kernel
theorem dX9_insert_87 : decode cX9_insert 87 = .ok (.aload_n 0, 1) := by decide +kernel
theorem dX9_insert_88 : decode cX9_insert 88 = .ok (.getfield 36, 3) := by decide +kernel
theorem dX9_insert_91 : decode cX9_insert 91 = .ok (.iload_n 2, 1) := by decide +kernel
theorem dX9_insert_92 : decode cX9_insert 92 = .ok (.iconst 0, 1) := by decide +kernel
theorem dX9_insert_93 : decode cX9_insert 93 = .ok (.bastore, 1) := by decide +kernel
theorem dX9_insert_94 : decode cX9_insert 94 = .ok (.aload_n 0, 1) := by decide +kernel
theorem dX9_insert_95 : decode cX9_insert 95 = .ok (.dup, 1) := by decide +kernel
theorem dX9_insert_96 : decode cX9_insert 96 = .ok (.getfield 187, 3) := by decide +kernel
theorem dX9_insert_99 : decode cX9_insert 99 = .ok (.iconst 1, 1) := by decide +kernel
theorem dX9_insert_100 : decode cX9_insert 100 = .ok (.iadd, 1) := by decide +kernel
theorem dX9_insert_101 : decode cX9_insert 101 = .ok (.putfield 187, 3) := by decide +kernel
theorem dX9_insert_104 : decode cX9_insert 104 = .ok (.iload_n 2, 1) := by decide +kernel
theorem dX9_insert_105 : decode cX9_insert 105 = .ok (.ireturn, 1) := by decide +kernel
theorem dX9_drop_0 : decode cX9_drop 0 = .ok (.aload_n 0, 1) := by decide +kernel
theorem dX9_drop_1 : decode cX9_drop 1 = .ok (.getfield 39, 3) := by decide +kernel
theorem dX9_drop_4 : decode cX9_drop 4 = .ok (.aload_n 0, 1) := by decide +kernel
theorem dX9_drop_5 : decode cX9_drop 5 = .ok (.getfield 26, 3) := by decide +kernel
theorem dX9_drop_8 : decode cX9_drop 8 = .ok (.iload_n 1, 1) := by decide +kernel
theorem dX9_drop_9 : decode cX9_drop 9 = .ok (.iaload, 1) := by decide +kernel
theorem dX9_drop_10 : decode cX9_drop 10 = .ok (.iconst 0, 1) := by decide +kernel
theorem dX9_drop_11 : decode cX9_drop 11 = .ok (.bastore, 1) := by decide +kernel
theorem dX9_drop_12 : decode cX9_drop 12 = .ok (.iload_n 1, 1) := by decide +kernel
theorem dX9_drop_13 : decode cX9_drop 13 = .ok (.istore_n 2, 1) := by decide +kernel
theorem dX9_drop_14 : decode cX9_drop 14 = .ok (.iload_n 2, 1) := by decide +kernel
theorem dX9_drop_15 : decode cX9_drop 15 = .ok (.iconst 1, 1) := by decide +kernel
theorem dX9_drop_16 : decode cX9_drop 16 = .ok (.iadd, 1) := by decide +kernel
theorem dX9_drop_17 : decode cX9_drop 17 = .ok (.aload_n 0, 1) := by decide +kernel
theorem dX9_drop_18 : decode cX9_drop 18 = .ok (.getfield 187, 3) := by decide +kernel
theorem dX9_drop_21 : decode cX9_drop 21 = .ok (.if_icmp .ge 17, 3) := by decide +kernel
theorem dX9_drop_24 : decode cX9_drop 24 = .ok (.aload_n 0, 1) := by decide +kernel
theorem dX9_drop_25 : decode cX9_drop 25 = .ok (.iload_n 2, 1) := by decide +kernel
theorem dX9_drop_26 : decode cX9_drop 26 = .ok (.iconst 1, 1) := by decide +kernel
theorem dX9_drop_27 : decode cX9_drop 27 = .ok (.iadd, 1) := by decide +kernel
theorem dX9_drop_28 : decode cX9_drop 28 = .ok (.iload_n 2, 1) := by decide +kernel
theorem dX9_drop_29 : decode cX9_drop 29 = .ok (.invokevirtual 190, 3) := by decide +kernel
theorem dX9_drop_32 : decode cX9_drop 32 = .ok (.iinc 2 1, 3) := by decide +kernel
theorem dX9_drop_35 : decode cX9_drop 35 = .ok (.goto (-21), 3) := by decide +kernel
theorem dX9_drop_38 : decode cX9_drop 38 = .ok (.aload_n 0, 1) := by decide +kernel
theorem dX9_drop_39 : decode cX9_drop 39 = .ok (.dup, 1) := by decide +kernel
theorem dX9_drop_40 : decode cX9_drop 40 = .ok (.getfield 187, 3) := by decide +kernel
theorem dX9_drop_43 : decode cX9_drop 43 = .ok (.iconst 1, 1) := by decide +kernel
theorem dX9_drop_44 : decode cX9_drop 44 = .ok (.isub, 1) := by decide +kernel
theorem dX9_drop_45 : decode cX9_drop 45 = .ok (.putfield 187, 3) := by decide +kernel
theorem dX9_drop_48 : decode cX9_drop 48 = .ok (.return_, 1) := by decide +kernel
theorem dX9_write_0 : decode cX9_write 0 = .ok (.aload_n 0, 1) := by decide +kernel
theorem dX9_write_1 : decode cX9_write 1 = .ok (.iconst 0, 1) := by decide +kernel
theorem dX9_write_2 : decode cX9_write 2 = .ok (.putfield 177, 3) := by decide +kernel
theorem dX9_write_5 : decode cX9_write 5 = .ok (.aload_n 0, 1) := by decide +kernel
theorem dX9_write_6 : decode cX9_write 6 = .ok (.getfield 170, 3) := by decide +kernel
theorem dX9_write_9 : decode cX9_write 9 = .ok (.ifCond .eq 6, 3) := by decide +kernel
theorem dX9_write_12 : decode cX9_write 12 = .ok (.bipush (-8), 2) := by decide +kernel
theorem dX9_write_14 : decode cX9_write 14 = .ok (.ireturn, 1) := by decide +kernel
theorem dX9_write_15 : decode cX9_write 15 = .ok (.iload_n 2, 1) := by decide +kernel
theorem dX9_write_16 : decode cX9_write 16 = .ok (.ifCond .eq 13, 3) := by decide +kernel
theorem dX9_write_19 : decode cX9_write 19 = .ok (.aload_n 0, 1) := by decide +kernel
theorem dX9_write_20 : decode cX9_write 20 = .ok (.getfield 193, 3) := by decide +kernel
theorem dX9_write_23 : decode cX9_write 23 = .ok (.ifCond .ne 6, 3) := by decide +kernel
theorem dX9_write_26 : decode cX9_write 26 = .ok (.bipush (-2), 2) := by decide +kernel
theorem dX9_write_28 : decode cX9_write 28 = .ok (.ireturn, 1) := by decide +kernel
theorem dX9_write_29 : decode cX9_write 29 = .ok (.aload_n 0, 1) := by decide +kernel
theorem dX9_write_30 : decode cX9_write 30 = .ok (.iload_n 1, 1) := by decide +kernel
theorem dX9_write_31 : decode cX9_write 31 = .ok (.invokevirtual 196, 3) := by decide +kernel
theorem dX9_write_34 : decode cX9_write 34 = .ok (.istore_n 3, 1) := by decide +kernel
theorem dX9_write_35 : decode cX9_write 35 = .ok (.iload_n 3, 1) := by decide +kernel
theorem dX9_write_36 : decode cX9_write 36 = .ok (.ifCond .lt 7, 3) := by decide +kernel
theorem dX9_write_39 : decode cX9_write 39 = .ok (.iconst 1, 1) := by decide +kernel
theorem dX9_write_40 : decode cX9_write 40 = .ok (.goto 4, 3) := by decide +kernel
theorem dX9_write_43 : decode cX9_write 43 = .ok (.iconst 0, 1) := by decide +kernel
theorem dX9_write_44 : decode cX9_write 44 = .ok (.istore 4, 2) := by decide +kernel
theorem dX9_write_46 : decode cX9_write 46 = .ok (.iload 4, 2) := by decide +kernel
theorem dX9_write_48 : decode cX9_write 48 = .ok (.ifCond .ne 15, 3) := by decide +kernel
theorem dX9_write_51 : decode cX9_write 51 = .ok (.aload_n 0, 1) := by decide +kernel
theorem dX9_write_52 : decode cX9_write 52 = .ok (.getfield 187, 3) := by decide +kernel
theorem dX9_write_55 : decode cX9_write 55 = .ok (.bipush 40, 2) := by decide +kernel
theorem dX9_write_57 : decode cX9_write 57 = .ok (.if_icmp .ne 6, 3) := by decide +kernel
theorem dX9_write_60 : decode cX9_write 60 = .ok (.bipush (-4), 2) := by decide +kernel
theorem dX9_write_62 : decode cX9_write 62 = .ok (.ireturn, 1) := by decide +kernel
theorem dX9_write_63 : decode cX9_write 63 = .ok (.aload_n 0, 1) := by decide +kernel
theorem dX9_write_64 : decode cX9_write 64 = .ok (.getfield 193, 3) := by decide +kernel
theorem dX9_write_67 : decode cX9_write 67 = .ok (.ifCond .eq 7, 3) := by decide +kernel
theorem dX9_write_70 : decode cX9_write 70 = .ok (.iconst 4, 1) := by decide +kernel
theorem dX9_write_71 : decode cX9_write 71 = .ok (.goto 4, 3) := by decide +kernel
theorem dX9_write_74 : decode cX9_write 74 = .ok (.iconst 1, 1) := by decide +kernel
theorem dX9_write_75 : decode cX9_write 75 = .ok (.istore 5, 2) := by decide +kernel
theorem dX9_write_77 : decode cX9_write 77 = .ok (.aload_n 0, 1) := by decide +kernel
theorem dX9_write_78 : decode cX9_write 78 = .ok (.iload 5, 2) := by decide +kernel
theorem dX9_write_80 : decode cX9_write 80 = .ok (.invokevirtual 199, 3) := by decide +kernel
theorem dX9_write_83 : decode cX9_write 83 = .ok (.istore 6, 2) := by decide +kernel
theorem dX9_write_85 : decode cX9_write 85 = .ok (.iload 6, 2) := by decide +kernel
theorem dX9_write_87 : decode cX9_write 87 = .ok (.ifCond .ne 6, 3) := by decide +kernel
theorem dX9_write_90 : decode cX9_write 90 = .ok (.bipush (-9), 2) := by decide +kernel
theorem dX9_write_92 : decode cX9_write 92 = .ok (.ireturn, 1) := by decide +kernel
theorem dX9_write_93 : decode cX9_write 93 = .ok (.iload 4, 2) := by decide +kernel
theorem dX9_write_95 : decode cX9_write 95 = .ok (.ifCond .ne 9, 3) := by decide +kernel
theorem dX9_write_98 : decode cX9_write 98 = .ok (.aload_n 0, 1) := by decide +kernel
theorem dX9_write_99 : decode cX9_write 99 = .ok (.iload_n 1, 1) := by decide +kernel
theorem dX9_write_100 : decode cX9_write 100 = .ok (.invokevirtual 202, 3) := by decide +kernel
theorem dX9_write_103 : decode cX9_write 103 = .ok (.istore_n 3, 1) := by decide +kernel
theorem dX9_write_104 : decode cX9_write 104 = .ok (.iload_n 2, 1) := by decide +kernel
theorem dX9_write_105 : decode cX9_write 105 = .ok (.ifCond .eq 48, 3) := by decide +kernel
theorem dX9_write_108 : decode cX9_write 108 = .ok (.aload_n 0, 1) := by decide +kernel
theorem dX9_write_109 : decode cX9_write 109 = .ok (.aload_n 0, 1) := by decide +kernel
theorem dX9_write_110 : decode cX9_write 110 = .ok (.iload_n 3, 1) := by decide +kernel
theorem dX9_write_111 : decode cX9_write 111 = .ok (.iconst 1, 1) := by decide +kernel
theorem dX9_write_112 : decode cX9_write 112 = .ok (.invokevirtual 205, 3) := by decide +kernel
theorem dX9_write_115 : decode cX9_write 115 = .ok (.iconst 1, 1) := by decide +kernel
theorem dX9_write_116 : decode cX9_write 116 = .ok (.invokevirtual 209, 3) := by decide +kernel
theorem dX9_write_119 : decode cX9_write 119 = .ok (.aload_n 0, 1) := by decide +kernel
theorem dX9_write_120 : decode cX9_write 120 = .ok (.aload_n 0, 1) := by decide +kernel
theorem dX9_write_121 : decode cX9_write 121 = .ok (.iload_n 3, 1) := by decide +kernel
theorem dX9_write_122 : decode cX9_write 122 = .ok (.iconst 1, 1) := by decide +kernel
theorem dX9_write_123 : decode cX9_write 123 = .ok (.invokevirtual 205, 3) := by decide +kernel
theorem dX9_write_126 : decode cX9_write 126 = .ok (.iload 4, 2) := by decide +kernel
theorem dX9_write_128 : decode cX9_write 128 = .ok (.ifCond .eq 12, 3) := by decide +kernel
theorem dX9_write_131 : decode cX9_write 131 = .ok (.aload_n 0, 1) := by decide +kernel
theorem dX9_write_132 : decode cX9_write 132 = .ok (.iload_n 3, 1) := by decide +kernel
theorem dX9_write_133 : decode cX9_write 133 = .ok (.iconst 0, 1) := by decide +kernel
theorem dX9_write_134 : decode cX9_write 134 = .ok (.invokevirtual 205, 3) := by decide +kernel
theorem dX9_write_137 : decode cX9_write 137 = .ok (.goto 4, 3) := by decide +kernel
theorem dX9_write_140 : decode cX9_write 140 = .ok (.iconst (-1), 1) := by decide +kernel
theorem dX9_write_141 : decode cX9_write 141 = .ok (.aload_n 0, 1) := by decide +kernel
theorem dX9_write_142 : decode cX9_write 142 = .ok (.iload_n 3, 1) := by decide +kernel
theorem dX9_write_143 : decode cX9_write 143 = .ok (.iconst 0, 1) := by decide +kernel
theorem dX9_write_144 : decode cX9_write 144 = .ok (.invokevirtual 205, 3) := by decide +kernel
theorem dX9_write_147 : decode cX9_write 147 = .ok (.invokevirtual 212, 3) := by decide +kernel
theorem dX9_write_150 : decode cX9_write 150 = .ok (.goto 37, 3) := by decide +kernel
theorem dX9_write_153 : decode cX9_write 153 = .ok (.aload_n 0, 1) := by decide +kernel
theorem dX9_write_154 : decode cX9_write 154 = .ok (.aload_n 0, 1) := by decide +kernel
theorem dX9_write_155 : decode cX9_write 155 = .ok (.iload_n 3, 1) := by decide +kernel
theorem dX9_write_156 : decode cX9_write 156 = .ok (.iconst 0, 1) := by decide +kernel
theorem dX9_write_157 : decode cX9_write 157 = .ok (.invokevirtual 205, 3) := by decide +kernel
theorem dX9_write_160 : decode cX9_write 160 = .ok (.iconst 0, 1) := by decide +kernel
theorem dX9_write_161 : decode cX9_write 161 = .ok (.invokevirtual 209, 3) := by decide +kernel
theorem dX9_write_164 : decode cX9_write 164 = .ok (.aload_n 0, 1) := by decide +kernel
theorem dX9_write_165 : decode cX9_write 165 = .ok (.getfield 193, 3) := by decide +kernel
theorem dX9_write_168 : decode cX9_write 168 = .ok (.ifCond .eq 19, 3) := by decide +kernel
theorem dX9_write_171 : decode cX9_write 171 = .ok (.aload_n 0, 1) := by decide +kernel
theorem dX9_write_172 : decode cX9_write 172 = .ok (.aload_n 0, 1) := by decide +kernel
theorem dX9_write_173 : decode cX9_write 173 = .ok (.iload_n 3, 1) := by decide +kernel
theorem dX9_write_174 : decode cX9_write 174 = .ok (.iconst 0, 1) := by decide +kernel
theorem dX9_write_175 : decode cX9_write 175 = .ok (.invokevirtual 205, 3) := by decide +kernel
theorem dX9_write_178 : decode cX9_write 178 = .ok (.aload_n 0, 1) := by decide +kernel
theorem dX9_write_179 : decode cX9_write 179 = .ok (.iload_n 3, 1) := by decide +kernel
theorem dX9_write_180 : decode cX9_write 180 = .ok (.iconst 1, 1) := by decide +kernel
theorem dX9_write_181 : decode cX9_write 181 = .ok (.invokevirtual 205, 3) := by decide +kernel
theorem dX9_write_184 : decode cX9_write 184 = .ok (.invokevirtual 214, 3) := by decide +kernel
theorem dX9_write_187 : decode cX9_write 187 = .ok (.aload_n 0, 1) := by decide +kernel
theorem dX9_write_188 : decode cX9_write 188 = .ok (.getfield 193, 3) := by decide +kernel
theorem dX9_write_191 : decode cX9_write 191 = .ok (.ifCond .eq 20, 3) := by decide +kernel
theorem dX9_write_194 : decode cX9_write 194 = .ok (.aload_n 0, 1) := by decide +kernel
theorem dX9_write_195 : decode cX9_write 195 = .ok (.getfield 32, 3) := by decide +kernel
theorem dX9_write_198 : decode cX9_write 198 = .ok (.iload_n 3, 1) := by decide +kernel
theorem dX9_write_199 : decode cX9_write 199 = .ok (.iconst 0, 1) := by decide +kernel
theorem dX9_write_200 : decode cX9_write 200 = .ok (.bastore, 1) := by decide +kernel
theorem dX9_write_201 : decode cX9_write 201 = .ok (.aload_n 0, 1) := by decide +kernel
theorem dX9_write_202 : decode cX9_write 202 = .ok (.getfield 36, 3) := by decide +kernel
theorem dX9_write_205 : decode cX9_write 205 = .ok (.iload_n 3, 1) := by decide +kernel
theorem dX9_write_206 : decode cX9_write 206 = .ok (.iconst 0, 1) := by decide +kernel
theorem dX9_write_207 : decode cX9_write 207 = .ok (.bastore, 1) := by decide +kernel
theorem dX9_write_208 : decode cX9_write 208 = .ok (.goto 20, 3) := by decide +kernel
theorem dX9_write_211 : decode cX9_write 211 = .ok (.aload_n 0, 1) := by decide +kernel
theorem dX9_write_212 : decode cX9_write 212 = .ok (.getfield 29, 3) := by decide +kernel
theorem dX9_write_215 : decode cX9_write 215 = .ok (.iload_n 3, 1) := by decide +kernel
theorem dX9_write_216 : decode cX9_write 216 = .ok (.iaload, 1) := by decide +kernel
theorem dX9_write_217 : decode cX9_write 217 = .ok (.iconst 1, 1) := by decide +kernel
theorem dX9_write_218 : decode cX9_write 218 = .ok (.if_icmp .ne 10, 3) := by decide +kernel
theorem dX9_write_221 : decode cX9_write 221 = .ok (.aload_n 0, 1) := by decide +kernel
theorem dX9_write_222 : decode cX9_write 222 = .ok (.getfield 29, 3) := by decide +kernel
theorem dX9_write_225 : decode cX9_write 225 = .ok (.iload_n 3, 1) := by decide +kernel
theorem dX9_write_226 : decode cX9_write 226 = .ok (.iconst 0, 1) := by decide +kernel
theorem dX9_write_227 : decode cX9_write 227 = .ok (.iastore, 1) := by decide +kernel
theorem dX9_write_228 : decode cX9_write 228 = .ok (.iload 6, 2) := by decide +kernel
theorem dX9_write_230 : decode cX9_write 230 = .ok (.iload 5, 2) := by decide +kernel
theorem dX9_write_232 : decode cX9_write 232 = .ok (.if_icmp .ne 14, 3) := by decide +kernel
theorem dX9_write_235 : decode cX9_write 235 = .ok (.iload 4, 2) := by decide +kernel
theorem dX9_write_237 : decode cX9_write 237 = .ok (.ifCond .eq 7, 3) := by decide +kernel
theorem dX9_write_240 : decode cX9_write 240 = .ok (.iconst 1, 1) := by decide +kernel
theorem dX9_write_241 : decode cX9_write 241 = .ok (.goto 4, 3) := by decide +kernel
theorem dX9_write_244 : decode cX9_write 244 = .ok (.iconst 0, 1) := by decide +kernel
theorem dX9_write_245 : decode cX9_write 245 = .ok (.ireturn, 1) := by decide +kernel
theorem dX9_write_246 : decode cX9_write 246 = .ok (.aload_n 0, 1) := by decide +kernel
theorem dX9_write_247 : decode cX9_write 247 = .ok (.iconst 1, 1) := by decide +kernel
theorem dX9_write_248 : decode cX9_write 248 = .ok (.putfield 217, 3) := by decide +kernel
theorem dX9_write_251 : decode cX9_write 251 = .ok (.bipush (-9), 2) := by decide +kernel
theorem dX9_write_253 : decode cX9_write 253 = .ok (.ireturn, 1) := by decide +kernel
theorem dX9_remove_0 : decode cX9_remove 0 = .ok (.aload_n 0, 1) := by decide +kernel
theorem dX9_remove_1 : decode cX9_remove 1 = .ok (.iconst 0, 1) := by decide +kernel
theorem dX9_remove_2 : decode cX9_remove 2 = .ok (.putfield 177, 3) := by decide +kernel
theorem dX9_remove_5 : decode cX9_remove 5 = .ok (.aload_n 0, 1) := by decide +kernel
theorem dX9_remove_6 : decode cX9_remove 6 = .ok (.getfield 170, 3) := by decide +kernel
theorem dX9_remove_9 : decode cX9_remove 9 = .ok (.ifCond .eq 6, 3) := by decide +kernel
theorem dX9_remove_12 : decode cX9_remove 12 = .ok (.bipush (-8), 2) := by decide +kernel
theorem dX9_remove_14 : decode cX9_remove 14 = .ok (.ireturn, 1) := by decide +kernel
theorem dX9_remove_15 : decode cX9_remove 15 = .ok (.aload_n 0, 1) := by decide +kernel
theorem dX9_remove_16 : decode cX9_remove 16 = .ok (.iload_n 1, 1) := by decide +kernel
theorem dX9_remove_17 : decode cX9_remove 17 = .ok (.invokevirtual 196, 3) := by decide +kernel
theorem dX9_remove_20 : decode cX9_remove 20 = .ok (.istore_n 2, 1) := by decide +kernel
theorem dX9_remove_21 : decode cX9_remove 21 = .ok (.iload_n 2, 1) := by decide +kernel
theorem dX9_remove_22 : decode cX9_remove 22 = .ok (.ifCond .ge 6, 3) := by decide +kernel
theorem dX9_remove_25 : decode cX9_remove 25 = .ok (.bipush (-3), 2) := by decide +kernel
theorem dX9_remove_27 : decode cX9_remove 27 = .ok (.ireturn, 1) := by decide +kernel
theorem dX9_remove_28 : decode cX9_remove 28 = .ok (.aload_n 0, 1) := by decide +kernel
theorem dX9_remove_29 : decode cX9_remove 29 = .ok (.getfield 193, 3) := by decide +kernel
theorem dX9_remove_32 : decode cX9_remove 32 = .ok (.ifCond .eq 7, 3) := by decide +kernel
theorem dX9_remove_35 : decode cX9_remove 35 = .ok (.iconst 4, 1) := by decide +kernel
theorem dX9_remove_36 : decode cX9_remove 36 = .ok (.goto 18, 3) := by decide +kernel
theorem dX9_remove_39 : decode cX9_remove 39 = .ok (.aload_n 0, 1) := by decide +kernel
theorem dX9_remove_40 : decode cX9_remove 40 = .ok (.getfield 29, 3) := by decide +kernel
theorem dX9_remove_43 : decode cX9_remove 43 = .ok (.iload_n 2, 1) := by decide +kernel
theorem dX9_remove_44 : decode cX9_remove 44 = .ok (.iaload, 1) := by decide +kernel
theorem dX9_remove_45 : decode cX9_remove 45 = .ok (.iconst 2, 1) := by decide +kernel
theorem dX9_remove_46 : decode cX9_remove 46 = .ok (.if_icmp .ne 7, 3) := by decide +kernel
theorem dX9_remove_49 : decode cX9_remove 49 = .ok (.iconst 2, 1) := by decide +kernel
theorem dX9_remove_50 : decode cX9_remove 50 = .ok (.goto 4, 3) := by decide +kernel
theorem dX9_remove_53 : decode cX9_remove 53 = .ok (.iconst 1, 1) := by decide +kernel
theorem dX9_remove_54 : decode cX9_remove 54 = .ok (.istore_n 3, 1) := by decide +kernel
theorem dX9_remove_55 : decode cX9_remove 55 = .ok (.aload_n 0, 1) := by decide +kernel
theorem dX9_remove_56 : decode cX9_remove 56 = .ok (.iload_n 3, 1) := by decide +kernel
theorem dX9_remove_57 : decode cX9_remove 57 = .ok (.invokevirtual 199, 3) := by decide +kernel
theorem dX9_remove_60 : decode cX9_remove 60 = .ok (.istore 4, 2) := by decide +kernel
theorem dX9_remove_62 : decode cX9_remove 62 = .ok (.iload 4, 2) := by decide +kernel
theorem dX9_remove_64 : decode cX9_remove 64 = .ok (.ifCond .eq 16, 3) := by decide +kernel
theorem dX9_remove_67 : decode cX9_remove 67 = .ok (.aload_n 0, 1) := by decide +kernel
theorem dX9_remove_68 : decode cX9_remove 68 = .ok (.getfield 193, 3) := by decide +kernel
theorem dX9_remove_71 : decode cX9_remove 71 = .ok (.ifCond .ne 12, 3) := by decide +kernel
theorem dX9_remove_74 : decode cX9_remove 74 = .ok (.iload 4, 2) := by decide +kernel
theorem dX9_remove_76 : decode cX9_remove 76 = .ok (.iload_n 3, 1) := by decide +kernel
theorem dX9_remove_77 : decode cX9_remove 77 = .ok (.if_icmp .ge 6, 3) := by decide +kernel
theorem dX9_remove_80 : decode cX9_remove 80 = .ok (.bipush (-9), 2) := by decide +kernel
theorem dX9_remove_82 : decode cX9_remove 82 = .ok (.ireturn, 1) := by decide +kernel
theorem dX9_remove_83 : decode cX9_remove 83 = .ok (.aload_n 0, 1) := by decide +kernel
theorem dX9_remove_84 : decode cX9_remove 84 = .ok (.iload_n 2, 1) := by decide +kernel
theorem dX9_remove_85 : decode cX9_remove 85 = .ok (.invokevirtual 220, 3) := by decide +kernel
theorem dX9_remove_88 : decode cX9_remove 88 = .ok (.iload 4, 2) := by decide +kernel
theorem dX9_remove_90 : decode cX9_remove 90 = .ok (.iload_n 3, 1) := by decide +kernel
theorem dX9_remove_91 : decode cX9_remove 91 = .ok (.if_icmp .ne 5, 3) := by decide +kernel
theorem dX9_remove_94 : decode cX9_remove 94 = .ok (.iconst 1, 1) := by decide +kernel
theorem dX9_remove_95 : decode cX9_remove 95 = .ok (.ireturn, 1) := by decide +kernel
theorem dX9_remove_96 : decode cX9_remove 96 = .ok (.aload_n 0, 1) := by decide +kernel
theorem dX9_remove_97 : decode cX9_remove 97 = .ok (.iconst 1, 1) := by decide +kernel
theorem dX9_remove_98 : decode cX9_remove 98 = .ok (.putfield 217, 3) := by decide +kernel
theorem dX9_remove_101 : decode cX9_remove 101 = .ok (.bipush (-9), 2) := by decide +kernel
theorem dX9_remove_103 : decode cX9_remove 103 = .ok (.ireturn, 1) := by decide +kernel
theorem dX9_read_0 : decode cX9_read 0 = .ok (.aload_n 0, 1) := by decide +kernel
theorem dX9_read_1 : decode cX9_read 1 = .ok (.getfield 170, 3) := by decide +kernel
theorem dX9_read_4 : decode cX9_read 4 = .ok (.ifCond .eq 6, 3) := by decide +kernel
theorem dX9_read_7 : decode cX9_read 7 = .ok (.bipush (-8), 2) := by decide +kernel
theorem dX9_read_9 : decode cX9_read 9 = .ok (.ireturn, 1) := by decide +kernel
theorem dX9_read_10 : decode cX9_read 10 = .ok (.iload_n 2, 1) := by decide +kernel
theorem dX9_read_11 : decode cX9_read 11 = .ok (.ifCond .eq 13, 3) := by decide +kernel
theorem dX9_read_14 : decode cX9_read 14 = .ok (.aload_n 0, 1) := by decide +kernel
theorem dX9_read_15 : decode cX9_read 15 = .ok (.getfield 193, 3) := by decide +kernel
theorem dX9_read_18 : decode cX9_read 18 = .ok (.ifCond .ne 6, 3) := by decide +kernel
theorem dX9_read_21 : decode cX9_read 21 = .ok (.bipush (-2), 2) := by decide +kernel
theorem dX9_read_23 : decode cX9_read 23 = .ok (.ireturn, 1) := by decide +kernel
theorem dX9_read_24 : decode cX9_read 24 = .ok (.aload_n 0, 1) := by decide +kernel
theorem dX9_read_25 : decode cX9_read 25 = .ok (.iload_n 1, 1) := by decide +kernel
theorem dX9_read_26 : decode cX9_read 26 = .ok (.invokevirtual 196, 3) := by decide +kernel
theorem dX9_read_29 : decode cX9_read 29 = .ok (.istore_n 3, 1) := by decide +kernel
theorem dX9_read_30 : decode cX9_read 30 = .ok (.aload_n 0, 1) := by decide +kernel
theorem dX9_read_31 : decode cX9_read 31 = .ok (.iconst (-1), 1) := by decide +kernel
theorem dX9_read_32 : decode cX9_read 32 = .ok (.putfield 78, 3) := by decide +kernel
theorem dX9_read_35 : decode cX9_read 35 = .ok (.iload_n 3, 1) := by decide +kernel
theorem dX9_read_36 : decode cX9_read 36 = .ok (.ifCond .ge 5, 3) := by decide +kernel
theorem dX9_read_39 : decode cX9_read 39 = .ok (.iconst 0, 1) := by decide +kernel
theorem dX9_read_40 : decode cX9_read 40 = .ok (.ireturn, 1) := by decide +kernel
theorem dX9_read_41 : decode cX9_read 41 = .ok (.iload_n 2, 1) := by decide +kernel
theorem dX9_read_42 : decode cX9_read 42 = .ok (.ifCond .eq 7, 3) := by decide +kernel
theorem dX9_read_45 : decode cX9_read 45 = .ok (.iconst 1, 1) := by decide +kernel
theorem dX9_read_46 : decode cX9_read 46 = .ok (.goto 4, 3) := by decide +kernel
theorem dX9_read_49 : decode cX9_read 49 = .ok (.iconst 0, 1) := by decide +kernel
theorem dX9_read_50 : decode cX9_read 50 = .ok (.istore 4, 2) := by decide +kernel
theorem dX9_read_52 : decode cX9_read 52 = .ok (.aload_n 0, 1) := by decide +kernel
theorem dX9_read_53 : decode cX9_read 53 = .ok (.aload_n 0, 1) := by decide +kernel
theorem dX9_read_54 : decode cX9_read 54 = .ok (.getfield 48, 3) := by decide +kernel
theorem dX9_read_57 : decode cX9_read 57 = .ok (.iload 4, 2) := by decide +kernel
theorem dX9_read_59 : decode cX9_read 59 = .ok (.iaload, 1) := by decide +kernel
theorem dX9_read_60 : decode cX9_read 60 = .ok (.putfield 78, 3) := by decide +kernel
theorem dX9_read_63 : decode cX9_read 63 = .ok (.aload_n 0, 1) := by decide +kernel
theorem dX9_read_64 : decode cX9_read 64 = .ok (.aload_n 0, 1) := by decide +kernel
theorem dX9_read_65 : decode cX9_read 65 = .ok (.iload_n 3, 1) := by decide +kernel
theorem dX9_read_66 : decode cX9_read 66 = .ok (.iload 4, 2) := by decide +kernel
theorem dX9_read_68 : decode cX9_read 68 = .ok (.invokevirtual 205, 3) := by decide +kernel
theorem dX9_read_71 : decode cX9_read 71 = .ok (.sipush 640, 3) := by decide +kernel
theorem dX9_read_74 : decode cX9_read 74 = .ok (.invokevirtual 144, 3) := by decide +kernel
theorem dX9_read_77 : decode cX9_read 77 = .ok (.iconst 0, 1) := by decide +kernel
theorem dX9_read_78 : decode cX9_read 78 = .ok (.istore 5, 2) := by decide +kernel
theorem dX9_read_80 : decode cX9_read 80 = .ok (.iload 5, 2) := by decide +kernel
theorem dX9_read_82 : decode cX9_read 82 = .ok (.bipush 8, 2) := by decide +kernel
theorem dX9_read_84 : decode cX9_read 84 = .ok (.if_icmp .ge 29, 3) := by decide +kernel
theorem dX9_read_87 : decode cX9_read 87 = .ok (.aload_n 0, 1) := by decide +kernel
theorem dX9_read_88 : decode cX9_read 88 = .ok (.getfield 82, 3) := by decide +kernel
theorem dX9_read_91 : decode cX9_read 91 = .ok (.iload 5, 2) := by decide +kernel
theorem dX9_read_93 : decode cX9_read 93 = .ok (.aload_n 0, 1) := by decide +kernel
theorem dX9_read_94 : decode cX9_read 94 = .ok (.getfield 45, 3) := by decide +kernel
theorem dX9_read_97 : decode cX9_read 97 = .ok (.bipush 8, 2) := by decide +kernel
theorem dX9_read_99 : decode cX9_read 99 = .ok (.iload 4, 2) := by decide +kernel
theorem dX9_read_101 : decode cX9_read 101 = .ok (.imul, 1) := by decide +kernel
theorem dX9_read_102 : decode cX9_read 102 = .ok (.iload 5, 2) := by decide +kernel
theorem dX9_read_104 : decode cX9_read 104 = .ok (.iadd, 1) := by decide +kernel
theorem dX9_read_105 : decode cX9_read 105 = .ok (.iaload, 1) := by decide +kernel
theorem dX9_read_106 : decode cX9_read 106 = .ok (.iastore, 1) := by decide +kernel
theorem dX9_read_107 : decode cX9_read 107 = .ok (.iinc 5 1, 3) := by decide +kernel
theorem dX9_read_110 : decode cX9_read 110 = .ok (.goto (-30), 3) := by decide +kernel
theorem dX9_read_113 : decode cX9_read 113 = .ok (.iconst 1, 1) := by decide +kernel
theorem dX9_read_114 : decode cX9_read 114 = .ok (.ireturn, 1) := by decide +kernel
theorem dX9_seen_0 : decode cX9_seen 0 = .ok (.aload_n 0, 1) := by decide +kernel
theorem dX9_seen_1 : decode cX9_seen 1 = .ok (.getfield 78, 3) := by decide +kernel
theorem dX9_seen_4 : decode cX9_seen 4 = .ok (.ireturn, 1) := by decide +kernel
theorem dX9_value_0 : decode cX9_value 0 = .ok (.iload_n 1, 1) := by decide +kernel
theorem dX9_value_1 : decode cX9_value 1 = .ok (.iconst 0, 1) := by decide +kernel
theorem dX9_value_2 : decode cX9_value 2 = .ok (.aload_n 0, 1) := by decide +kernel
theorem dX9_value_3 : decode cX9_value 3 = .ok (.getfield 78, 3) := by decide +kernel
theorem dX9_value_6 : decode cX9_value 6 = .ok (.iconst 1, 1) := by decide +kernel
theorem dX9_value_7 : decode cX9_value 7 = .ok (.isub, 1) := by decide +kernel
theorem dX9_value_8 : decode cX9_value 8 = .ok (.invokestatic 110, 3) := by decide +kernel
theorem dX9_value_11 : decode cX9_value 11 = .ok (.ifCond .ne 5, 3) := by decide +kernel
theorem dX9_value_14 : decode cX9_value 14 = .ok (.lconst 0, 1) := by decide +kernel
theorem dX9_value_15 : decode cX9_value 15 = .ok (.lreturn, 1) := by decide +kernel
theorem dX9_value_16 : decode cX9_value 16 = .ok (.aload_n 0, 1) := by decide +kernel
theorem dX9_value_17 : decode cX9_value 17 = .ok (.getfield 82, 3) := by decide +kernel
theorem dX9_value_20 : decode cX9_value 20 = .ok (.iload_n 1, 1) := by decide +kernel
theorem dX9_value_21 : decode cX9_value 21 = .ok (.iaload, 1) := by decide +kernel
theorem dX9_value_22 : decode cX9_value 22 = .ok (.iconst 4, 1) := by decide +kernel
theorem dX9_value_23 : decode cX9_value 23 = .ok (.if_icmp .ne 17, 3) := by decide +kernel
theorem dX9_value_26 : decode cX9_value 26 = .ok (.aload_n 0, 1) := by decide +kernel
theorem dX9_value_27 : decode cX9_value 27 = .ok (.getfield 13, 3) := by decide +kernel
theorem dX9_value_30 : decode cX9_value 30 = .ok (.sipush 640, 3) := by decide +kernel
theorem dX9_value_33 : decode cX9_value 33 = .ok (.iload_n 1, 1) := by decide +kernel
theorem dX9_value_34 : decode cX9_value 34 = .ok (.iadd, 1) := by decide +kernel
theorem dX9_value_35 : decode cX9_value 35 = .ok (.iaload, 1) := by decide +kernel
theorem dX9_value_36 : decode cX9_value 36 = .ok (.i2l, 1) := by decide +kernel
theorem dX9_value_37 : decode cX9_value 37 = .ok (.goto 13, 3) := by decide +kernel
theorem dX9_value_40 : decode cX9_value 40 = .ok (.aload_n 0, 1) := by decide +kernel
theorem dX9_value_41 : decode cX9_value 41 = .ok (.getfield 7, 3) := by decide +kernel
theorem dX9_value_44 : decode cX9_value 44 = .ok (.sipush 640, 3) := by decide +kernel
theorem dX9_value_47 : decode cX9_value 47 = .ok (.iload_n 1, 1) := by decide +kernel
theorem dX9_value_48 : decode cX9_value 48 = .ok (.iadd, 1) := by decide +kernel
theorem dX9_value_49 : decode cX9_value 49 = .ok (.laload, 1) := by decide +kernel
theorem dX9_value_50 : decode cX9_value 50 = .ok (.lreturn, 1) := by decide +kernel
theorem dX9_letter_0 : decode cX9_letter 0 = .ok (.iload_n 1, 1) := by decide +kernel
theorem dX9_letter_1 : decode cX9_letter 1 = .ok (.iconst 0, 1) := by decide +kernel
theorem dX9_letter_2 : decode cX9_letter 2 = .ok (.aload_n 0, 1) := by decide +kernel
theorem dX9_letter_3 : decode cX9_letter 3 = .ok (.getfield 78, 3) := by decide +kernel
theorem dX9_letter_6 : decode cX9_letter 6 = .ok (.iconst 1, 1) := by decide +kernel
theorem dX9_letter_7 : decode cX9_letter 7 = .ok (.isub, 1) := by decide +kernel
theorem dX9_letter_8 : decode cX9_letter 8 = .ok (.invokestatic 110, 3) := by decide +kernel
theorem dX9_letter_11 : decode cX9_letter 11 = .ok (.ifCond .eq 33, 3) := by decide +kernel
theorem dX9_letter_14 : decode cX9_letter 14 = .ok (.aload_n 0, 1) := by decide +kernel
theorem dX9_letter_15 : decode cX9_letter 15 = .ok (.getfield 82, 3) := by decide +kernel
theorem dX9_letter_18 : decode cX9_letter 18 = .ok (.iload_n 1, 1) := by decide +kernel
theorem dX9_letter_19 : decode cX9_letter 19 = .ok (.iaload, 1) := by decide +kernel
theorem dX9_letter_20 : decode cX9_letter 20 = .ok (.iconst 4, 1) := by decide +kernel
theorem dX9_letter_21 : decode cX9_letter 21 = .ok (.if_icmp .ne 23, 3) := by decide +kernel
theorem dX9_letter_24 : decode cX9_letter 24 = .ok (.iload_n 2, 1) := by decide +kernel
theorem dX9_letter_25 : decode cX9_letter 25 = .ok (.iconst 0, 1) := by decide +kernel
theorem dX9_letter_26 : decode cX9_letter 26 = .ok (.aload_n 0, 1) := by decide +kernel
theorem dX9_letter_27 : decode cX9_letter 27 = .ok (.getfield 13, 3) := by decide +kernel
theorem dX9_letter_30 : decode cX9_letter 30 = .ok (.sipush 640, 3) := by decide +kernel
theorem dX9_letter_33 : decode cX9_letter 33 = .ok (.iload_n 1, 1) := by decide +kernel
theorem dX9_letter_34 : decode cX9_letter 34 = .ok (.iadd, 1) := by decide +kernel
theorem dX9_letter_35 : decode cX9_letter 35 = .ok (.iaload, 1) := by decide +kernel
theorem dX9_letter_36 : decode cX9_letter 36 = .ok (.iconst 1, 1) := by decide +kernel
theorem dX9_letter_37 : decode cX9_letter 37 = .ok (.isub, 1) := by decide +kernel
theorem dX9_letter_38 : decode cX9_letter 38 = .ok (.invokestatic 110, 3) := by decide +kernel
theorem dX9_letter_41 : decode cX9_letter 41 = .ok (.ifCond .ne 5, 3) := by decide +kernel
theorem dX9_letter_44 : decode cX9_letter 44 = .ok (.iconst 0, 1) := by decide +kernel
theorem dX9_letter_45 : decode cX9_letter 45 = .ok (.ireturn, 1) := by decide +kernel
theorem dX9_letter_46 : decode cX9_letter 46 = .ok (.aload_n 0, 1) := by decide +kernel
theorem dX9_letter_47 : decode cX9_letter 47 = .ok (.getfield 17, 3) := by decide +kernel
theorem dX9_letter_50 : decode cX9_letter 50 = .ok (.bipush 24, 2) := by decide +kernel
theorem dX9_letter_52 : decode cX9_letter 52 = .ok (.sipush 640, 3) := by decide +kernel
theorem dX9_letter_55 : decode cX9_letter 55 = .ok (.iload_n 1, 1) := by decide +kernel
theorem dX9_letter_56 : decode cX9_letter 56 = .ok (.iadd, 1) := by decide +kernel
theorem dX9_letter_57 : decode cX9_letter 57 = .ok (.imul, 1) := by decide +kernel
theorem dX9_letter_58 : decode cX9_letter 58 = .ok (.iload_n 2, 1) := by decide +kernel
theorem dX9_letter_59 : decode cX9_letter 59 = .ok (.iadd, 1) := by decide +kernel
theorem dX9_letter_60 : decode cX9_letter 60 = .ok (.iaload, 1) := by decide +kernel
theorem dX9_letter_61 : decode cX9_letter 61 = .ok (.ireturn, 1) := by decide +kernel
theorem dX9_next_0 : decode cX9_next 0 = .ok (.aload_n 0, 1) := by decide +kernel
theorem dX9_next_1 : decode cX9_next 1 = .ok (.getfield 170, 3) := by decide +kernel
theorem dX9_next_4 : decode cX9_next 4 = .ok (.ifCond .eq 5, 3) := by decide +kernel
theorem dX9_next_7 : decode cX9_next 7 = .ok (.iconst 0, 1) := by decide +kernel
theorem dX9_next_8 : decode cX9_next 8 = .ok (.ireturn, 1) := by decide +kernel
theorem dX9_next_9 : decode cX9_next 9 = .ok (.iconst 0, 1) := by decide +kernel
theorem dX9_next_10 : decode cX9_next 10 = .ok (.istore_n 3, 1) := by decide +kernel
theorem dX9_next_11 : decode cX9_next 11 = .ok (.iload_n 3, 1) := by decide +kernel
theorem dX9_next_12 : decode cX9_next 12 = .ok (.aload_n 0, 1) := by decide +kernel
theorem dX9_next_13 : decode cX9_next 13 = .ok (.getfield 187, 3) := by decide +kernel
theorem dX9_next_16 : decode cX9_next 16 = .ok (.if_icmp .ge 30, 3) := by decide +kernel
theorem dX9_next_19 : decode cX9_next 19 = .ok (.iload_n 2, 1) := by decide +kernel
theorem dX9_next_20 : decode cX9_next 20 = .ok (.ifCond .ne 13, 3) := by decide +kernel
theorem dX9_next_23 : decode cX9_next 23 = .ok (.aload_n 0, 1) := by decide +kernel
theorem dX9_next_24 : decode cX9_next 24 = .ok (.getfield 23, 3) := by decide +kernel
theorem dX9_next_27 : decode cX9_next 27 = .ok (.iload_n 3, 1) := by decide +kernel
theorem dX9_next_28 : decode cX9_next 28 = .ok (.iaload, 1) := by decide +kernel
theorem dX9_next_29 : decode cX9_next 29 = .ok (.iload_n 1, 1) := by decide +kernel
theorem dX9_next_30 : decode cX9_next 30 = .ok (.if_icmp .le 10, 3) := by decide +kernel
theorem dX9_next_33 : decode cX9_next 33 = .ok (.aload_n 0, 1) := by decide +kernel
theorem dX9_next_34 : decode cX9_next 34 = .ok (.getfield 23, 3) := by decide +kernel
theorem dX9_next_37 : decode cX9_next 37 = .ok (.iload_n 3, 1) := by decide +kernel
theorem dX9_next_38 : decode cX9_next 38 = .ok (.iaload, 1) := by decide +kernel
theorem dX9_next_39 : decode cX9_next 39 = .ok (.ireturn, 1) := by decide +kernel
theorem dX9_next_40 : decode cX9_next 40 = .ok (.iinc 3 1, 3) := by decide +kernel
theorem dX9_next_43 : decode cX9_next 43 = .ok (.goto (-32), 3) := by decide +kernel
theorem dX9_next_46 : decode cX9_next 46 = .ok (.iload_n 1, 1) := by decide +kernel
theorem dX9_next_47 : decode cX9_next 47 = .ok (.ireturn, 1) := by decide +kernel
theorem dX9_more_0 : decode cX9_more 0 = .ok (.aload_n 0, 1) := by decide +kernel
theorem dX9_more_1 : decode cX9_more 1 = .ok (.getfield 170, 3) := by decide +kernel
theorem dX9_more_4 : decode cX9_more 4 = .ok (.ifCond .eq 6, 3) := by decide +kernel
theorem dX9_more_7 : decode cX9_more 7 = .ok (.bipush (-8), 2) := by decide +kernel
theorem dX9_more_9 : decode cX9_more 9 = .ok (.ireturn, 1) := by decide +kernel
theorem dX9_more_10 : decode cX9_more 10 = .ok (.iconst 0, 1) := by decide +kernel
theorem dX9_more_11 : decode cX9_more 11 = .ok (.istore_n 3, 1) := by decide +kernel
theorem dX9_more_12 : decode cX9_more 12 = .ok (.iconst 0, 1) := by decide +kernel
theorem dX9_more_13 : decode cX9_more 13 = .ok (.istore 4, 2) := by decide +kernel
theorem dX9_more_15 : decode cX9_more 15 = .ok (.iload 4, 2) := by decide +kernel
theorem dX9_more_17 : decode cX9_more 17 = .ok (.aload_n 0, 1) := by decide +kernel
theorem dX9_more_18 : decode cX9_more 18 = .ok (.getfield 187, 3) := by decide +kernel
theorem dX9_more_21 : decode cX9_more 21 = .ok (.if_icmp .ge 32, 3) := by decide +kernel
theorem dX9_more_24 : decode cX9_more 24 = .ok (.iload_n 3, 1) := by decide +kernel
theorem dX9_more_25 : decode cX9_more 25 = .ok (.iload_n 2, 1) := by decide +kernel
theorem dX9_more_26 : decode cX9_more 26 = .ok (.ifCond .ne 14, 3) := by decide +kernel
theorem dX9_more_29 : decode cX9_more 29 = .ok (.aload_n 0, 1) := by decide +kernel
theorem dX9_more_30 : decode cX9_more 30 = .ok (.getfield 23, 3) := by decide +kernel
theorem dX9_more_33 : decode cX9_more 33 = .ok (.iload 4, 2) := by decide +kernel
theorem dX9_more_35 : decode cX9_more 35 = .ok (.iaload, 1) := by decide +kernel
theorem dX9_more_36 : decode cX9_more 36 = .ok (.iload_n 1, 1) := by decide +kernel
theorem dX9_more_37 : decode cX9_more 37 = .ok (.if_icmp .le 7, 3) := by decide +kernel
theorem dX9_more_40 : decode cX9_more 40 = .ok (.iconst 1, 1) := by decide +kernel
theorem dX9_more_41 : decode cX9_more 41 = .ok (.goto 4, 3) := by decide +kernel
theorem dX9_more_44 : decode cX9_more 44 = .ok (.iconst 0, 1) := by decide +kernel
theorem dX9_more_45 : decode cX9_more 45 = .ok (.iadd, 1) := by decide +kernel
theorem dX9_more_46 : decode cX9_more 46 = .ok (.istore_n 3, 1) := by decide +kernel
theorem dX9_more_47 : decode cX9_more 47 = .ok (.iinc 4 1, 3) := by decide +kernel
theorem dX9_more_50 : decode cX9_more 50 = .ok (.goto (-35), 3) := by decide +kernel
theorem dX9_more_53 : decode cX9_more 53 = .ok (.iload_n 3, 1) := by decide +kernel
theorem dX9_more_54 : decode cX9_more 54 = .ok (.ireturn, 1) := by decide +kernel
theorem dX9_shadowed_0 : decode cX9_shadowed 0 = .ok (.iconst 0, 1) := by decide +kernel
theorem dX9_shadowed_1 : decode cX9_shadowed 1 = .ok (.istore_n 1, 1) := by decide +kernel
theorem dX9_shadowed_2 : decode cX9_shadowed 2 = .ok (.iconst 0, 1) := by decide +kernel
theorem dX9_shadowed_3 : decode cX9_shadowed 3 = .ok (.istore_n 2, 1) := by decide +kernel
theorem dX9_shadowed_4 : decode cX9_shadowed 4 = .ok (.iload_n 2, 1) := by decide +kernel
theorem dX9_shadowed_5 : decode cX9_shadowed 5 = .ok (.aload_n 0, 1) := by decide +kernel
theorem dX9_shadowed_6 : decode cX9_shadowed 6 = .ok (.getfield 187, 3) := by decide +kernel
theorem dX9_shadowed_9 : decode cX9_shadowed 9 = .ok (.if_icmp .ge 27, 3) := by decide +kernel
theorem dX9_shadowed_12 : decode cX9_shadowed 12 = .ok (.iload_n 1, 1) := by decide +kernel
theorem dX9_shadowed_13 : decode cX9_shadowed 13 = .ok (.aload_n 0, 1) := by decide +kernel
theorem dX9_shadowed_14 : decode cX9_shadowed 14 = .ok (.getfield 29, 3) := by decide +kernel
theorem dX9_shadowed_17 : decode cX9_shadowed 17 = .ok (.iload_n 2, 1) := by decide +kernel
theorem dX9_shadowed_18 : decode cX9_shadowed 18 = .ok (.iaload, 1) := by decide +kernel
theorem dX9_shadowed_19 : decode cX9_shadowed 19 = .ok (.iconst 2, 1) := by decide +kernel
theorem dX9_shadowed_20 : decode cX9_shadowed 20 = .ok (.if_icmp .ne 7, 3) := by decide +kernel
theorem dX9_shadowed_23 : decode cX9_shadowed 23 = .ok (.iconst 1, 1) := by decide +kernel
theorem dX9_shadowed_24 : decode cX9_shadowed 24 = .ok (.goto 4, 3) := by decide +kernel
theorem dX9_shadowed_27 : decode cX9_shadowed 27 = .ok (.iconst 0, 1) := by decide +kernel
theorem dX9_shadowed_28 : decode cX9_shadowed 28 = .ok (.iadd, 1) := by decide +kernel
theorem dX9_shadowed_29 : decode cX9_shadowed 29 = .ok (.istore_n 1, 1) := by decide +kernel
theorem dX9_shadowed_30 : decode cX9_shadowed 30 = .ok (.iinc 2 1, 3) := by decide +kernel
theorem dX9_shadowed_33 : decode cX9_shadowed 33 = .ok (.goto (-29), 3) := by decide +kernel
theorem dX9_shadowed_36 : decode cX9_shadowed 36 = .ok (.iload_n 1, 1) := by decide +kernel
theorem dX9_shadowed_37 : decode cX9_shadowed 37 = .ok (.ireturn, 1) := by decide +kernel
theorem dX9_isLagging_0 : decode cX9_isLagging 0 = .ok (.aload_n 0, 1) := by decide +kernel
theorem dX9_isLagging_1 : decode cX9_isLagging 1 = .ok (.getfield 193, 3) := by decide +kernel
theorem dX9_isLagging_4 : decode cX9_isLagging 4 = .ok (.ifCond .eq 12, 3) := by decide +kernel
theorem dX9_isLagging_7 : decode cX9_isLagging 7 = .ok (.aload_n 0, 1) := by decide +kernel
theorem dX9_isLagging_8 : decode cX9_isLagging 8 = .ok (.getfield 32, 3) := by decide +kernel
theorem dX9_isLagging_11 : decode cX9_isLagging 11 = .ok (.iload_n 1, 1) := by decide +kernel
theorem dX9_isLagging_12 : decode cX9_isLagging 12 = .ok (.baload, 1) := by decide +kernel
theorem dX9_isLagging_13 : decode cX9_isLagging 13 = .ok (.goto 17, 3) := by decide +kernel
theorem dX9_isLagging_16 : decode cX9_isLagging 16 = .ok (.aload_n 0, 1) := by decide +kernel
theorem dX9_isLagging_17 : decode cX9_isLagging 17 = .ok (.getfield 29, 3) := by decide +kernel
theorem dX9_isLagging_20 : decode cX9_isLagging 20 = .ok (.iload_n 1, 1) := by decide +kernel
theorem dX9_isLagging_21 : decode cX9_isLagging 21 = .ok (.iaload, 1) := by decide +kernel
theorem dX9_isLagging_22 : decode cX9_isLagging 22 = .ok (.ifCond .le 7, 3) := by decide +kernel
theorem dX9_isLagging_25 : decode cX9_isLagging 25 = .ok (.iconst 1, 1) := by decide +kernel
theorem dX9_isLagging_26 : decode cX9_isLagging 26 = .ok (.goto 4, 3) := by decide +kernel
theorem dX9_isLagging_29 : decode cX9_isLagging 29 = .ok (.iconst 0, 1) := by decide +kernel
theorem dX9_isLagging_30 : decode cX9_isLagging 30 = .ok (.ireturn, 1) := by decide +kernel
theorem dX9_begin_0 : decode cX9_begin 0 = .ok (.aload_n 0, 1) := by decide +kernel
theorem dX9_begin_1 : decode cX9_begin 1 = .ok (.iconst 0, 1) := by decide +kernel
theorem dX9_begin_2 : decode cX9_begin 2 = .ok (.putfield 177, 3) := by decide +kernel
theorem dX9_begin_5 : decode cX9_begin 5 = .ok (.aload_n 0, 1) := by decide +kernel
theorem dX9_begin_6 : decode cX9_begin 6 = .ok (.getfield 170, 3) := by decide +kernel
theorem dX9_begin_9 : decode cX9_begin 9 = .ok (.ifCond .eq 6, 3) := by decide +kernel
theorem dX9_begin_12 : decode cX9_begin 12 = .ok (.bipush (-8), 2) := by decide +kernel
theorem dX9_begin_14 : decode cX9_begin 14 = .ok (.ireturn, 1) := by decide +kernel
theorem dX9_begin_15 : decode cX9_begin 15 = .ok (.aload_n 0, 1) := by decide +kernel
theorem dX9_begin_16 : decode cX9_begin 16 = .ok (.getfield 193, 3) := by decide +kernel
theorem dX9_begin_19 : decode cX9_begin 19 = .ok (.ifCond .ne 17, 3) := by decide +kernel
theorem dX9_begin_22 : decode cX9_begin 22 = .ok (.aload_n 0, 1) := by decide +kernel
theorem dX9_begin_23 : decode cX9_begin 23 = .ok (.getfield 184, 3) := by decide +kernel
theorem dX9_begin_26 : decode cX9_begin 26 = .ok (.ifCond .eq 10, 3) := by decide +kernel
theorem dX9_begin_29 : decode cX9_begin 29 = .ok (.aload_n 0, 1) := by decide +kernel
theorem dX9_begin_30 : decode cX9_begin 30 = .ok (.invokevirtual 223, 3) := by decide +kernel
theorem dX9_begin_33 : decode cX9_begin 33 = .ok (.ifCond .le 6, 3) := by decide +kernel
theorem dX9_begin_36 : decode cX9_begin 36 = .ok (.bipush (-2), 2) := by decide +kernel
theorem dX9_begin_38 : decode cX9_begin 38 = .ok (.ireturn, 1) := by decide +kernel
theorem dX9_begin_39 : decode cX9_begin 39 = .ok (.aload_n 0, 1) := by decide +kernel
theorem dX9_begin_40 : decode cX9_begin 40 = .ok (.getfield 227, 3) := by decide +kernel
theorem dX9_begin_43 : decode cX9_begin 43 = .ok (.bipush 30, 2) := by decide +kernel
theorem dX9_begin_45 : decode cX9_begin 45 = .ok (.if_icmp .ne 6, 3) := by decide +kernel
theorem dX9_begin_48 : decode cX9_begin 48 = .ok (.bipush (-4), 2) := by decide +kernel
theorem dX9_begin_50 : decode cX9_begin 50 = .ok (.ireturn, 1) := by decide +kernel
theorem dX9_begin_51 : decode cX9_begin 51 = .ok (.aload_n 0, 1) := by decide +kernel
theorem dX9_begin_52 : decode cX9_begin 52 = .ok (.iconst 0, 1) := by decide +kernel
theorem dX9_begin_53 : decode cX9_begin 53 = .ok (.iconst 2, 1) := by decide +kernel
theorem dX9_begin_54 : decode cX9_begin 54 = .ok (.invokevirtual 147, 3) := by decide +kernel
theorem dX9_begin_57 : decode cX9_begin 57 = .ok (.iconst 0, 1) := by decide +kernel
theorem dX9_begin_58 : decode cX9_begin 58 = .ok (.istore_n 1, 1) := by decide +kernel
theorem dX9_begin_59 : decode cX9_begin 59 = .ok (.iload_n 1, 1) := by decide +kernel
theorem dX9_begin_60 : decode cX9_begin 60 = .ok (.aload_n 0, 1) := by decide +kernel
theorem dX9_begin_61 : decode cX9_begin 61 = .ok (.getfield 184, 3) := by decide +kernel
theorem dX9_begin_64 : decode cX9_begin 64 = .ok (.if_icmp .ge 27, 3) := by decide +kernel
theorem dX9_begin_67 : decode cX9_begin 67 = .ok (.aload_n 0, 1) := by decide +kernel
theorem dX9_begin_68 : decode cX9_begin 68 = .ok (.iload_n 1, 1) := by decide +kernel
theorem dX9_begin_69 : decode cX9_begin 69 = .ok (.invokevirtual 230, 3) := by decide +kernel
theorem dX9_begin_72 : decode cX9_begin 72 = .ok (.ifCond .eq 8, 3) := by decide +kernel
theorem dX9_begin_75 : decode cX9_begin 75 = .ok (.bipush (-10), 2) := by decide +kernel
theorem dX9_begin_77 : decode cX9_begin 77 = .ok (.iload_n 1, 1) := by decide +kernel
theorem dX9_begin_78 : decode cX9_begin 78 = .ok (.isub, 1) := by decide +kernel
theorem dX9_begin_79 : decode cX9_begin 79 = .ok (.ireturn, 1) := by decide +kernel
theorem dX9_begin_80 : decode cX9_begin 80 = .ok (.aload_n 0, 1) := by decide +kernel
theorem dX9_begin_81 : decode cX9_begin 81 = .ok (.iload_n 1, 1) := by decide +kernel
theorem dX9_begin_82 : decode cX9_begin 82 = .ok (.invokevirtual 161, 3) := by decide +kernel
theorem dX9_begin_85 : decode cX9_begin 85 = .ok (.iinc 1 1, 3) := by decide +kernel
theorem dX9_begin_88 : decode cX9_begin 88 = .ok (.goto (-29), 3) := by decide +kernel
theorem dX9_begin_91 : decode cX9_begin 91 = .ok (.aload_n 0, 1) := by decide +kernel
theorem dX9_begin_92 : decode cX9_begin 92 = .ok (.invokevirtual 180, 3) := by decide +kernel
theorem dX9_begin_95 : decode cX9_begin 95 = .ok (.ifCond .ne 6, 3) := by decide +kernel
theorem dX9_begin_98 : decode cX9_begin 98 = .ok (.bipush (-9), 2) := by decide +kernel
theorem dX9_begin_100 : decode cX9_begin 100 = .ok (.ireturn, 1) := by decide +kernel
theorem dX9_begin_101 : decode cX9_begin 101 = .ok (.aload_n 0, 1) := by decide +kernel
theorem dX9_begin_102 : decode cX9_begin 102 = .ok (.iconst 2, 1) := by decide +kernel
theorem dX9_begin_103 : decode cX9_begin 103 = .ok (.iconst 1, 1) := by decide +kernel
theorem dX9_begin_104 : decode cX9_begin 104 = .ok (.invokevirtual 147, 3) := by decide +kernel
theorem dX9_begin_107 : decode cX9_begin 107 = .ok (.iconst 0, 1) := by decide +kernel
theorem dX9_begin_108 : decode cX9_begin 108 = .ok (.istore_n 1, 1) := by decide +kernel
theorem dX9_begin_109 : decode cX9_begin 109 = .ok (.iload_n 1, 1) := by decide +kernel
theorem dX9_begin_110 : decode cX9_begin 110 = .ok (.aload_n 0, 1) := by decide +kernel
theorem dX9_begin_111 : decode cX9_begin 111 = .ok (.getfield 184, 3) := by decide +kernel
theorem dX9_begin_114 : decode cX9_begin 114 = .ok (.if_icmp .ge 84, 3) := by decide +kernel
theorem dX9_begin_117 : decode cX9_begin 117 = .ok (.aload_n 0, 1) := by decide +kernel
theorem dX9_begin_118 : decode cX9_begin 118 = .ok (.getfield 51, 3) := by decide +kernel
theorem dX9_begin_121 : decode cX9_begin 121 = .ok (.bipush 6, 2) := by decide +kernel
theorem dX9_begin_123 : decode cX9_begin 123 = .ok (.iload_n 1, 1) := by decide +kernel
theorem dX9_begin_124 : decode cX9_begin 124 = .ok (.iadd, 1) := by decide +kernel
theorem dX9_begin_125 : decode cX9_begin 125 = .ok (.aload_n 0, 1) := by decide +kernel
theorem dX9_begin_126 : decode cX9_begin 126 = .ok (.getfield 51, 3) := by decide +kernel
theorem dX9_begin_129 : decode cX9_begin 129 = .ok (.iload_n 1, 1) := by decide +kernel
theorem dX9_begin_130 : decode cX9_begin 130 = .ok (.iaload, 1) := by decide +kernel
theorem dX9_begin_131 : decode cX9_begin 131 = .ok (.iastore, 1) := by decide +kernel
theorem dX9_begin_132 : decode cX9_begin 132 = .ok (.aload_n 0, 1) := by decide +kernel
theorem dX9_begin_133 : decode cX9_begin 133 = .ok (.getfield 54, 3) := by decide +kernel
theorem dX9_begin_136 : decode cX9_begin 136 = .ok (.bipush 6, 2) := by decide +kernel
theorem dX9_begin_138 : decode cX9_begin 138 = .ok (.iload_n 1, 1) := by decide +kernel
theorem dX9_begin_139 : decode cX9_begin 139 = .ok (.iadd, 1) := by decide +kernel
theorem dX9_begin_140 : decode cX9_begin 140 = .ok (.aload_n 0, 1) := by decide +kernel
theorem dX9_begin_141 : decode cX9_begin 141 = .ok (.getfield 54, 3) := by decide +kernel
theorem dX9_begin_144 : decode cX9_begin 144 = .ok (.iload_n 1, 1) := by decide +kernel
theorem dX9_begin_145 : decode cX9_begin 145 = .ok (.iaload, 1) := by decide +kernel
theorem dX9_begin_146 : decode cX9_begin 146 = .ok (.iastore, 1) := by decide +kernel
theorem dX9_begin_147 : decode cX9_begin 147 = .ok (.aload_n 0, 1) := by decide +kernel
theorem dX9_begin_148 : decode cX9_begin 148 = .ok (.getfield 57, 3) := by decide +kernel
theorem dX9_begin_151 : decode cX9_begin 151 = .ok (.bipush 6, 2) := by decide +kernel
theorem dX9_begin_153 : decode cX9_begin 153 = .ok (.iload_n 1, 1) := by decide +kernel
theorem dX9_begin_154 : decode cX9_begin 154 = .ok (.iadd, 1) := by decide +kernel
theorem dX9_begin_155 : decode cX9_begin 155 = .ok (.aload_n 0, 1) := by decide +kernel
theorem dX9_begin_156 : decode cX9_begin 156 = .ok (.getfield 57, 3) := by decide +kernel
theorem dX9_begin_159 : decode cX9_begin 159 = .ok (.iload_n 1, 1) := by decide +kernel
theorem dX9_begin_160 : decode cX9_begin 160 = .ok (.iaload, 1) := by decide +kernel
theorem dX9_begin_161 : decode cX9_begin 161 = .ok (.iastore, 1) := by decide +kernel
theorem dX9_begin_162 : decode cX9_begin 162 = .ok (.aload_n 0, 1) := by decide +kernel
theorem dX9_begin_163 : decode cX9_begin 163 = .ok (.getfield 60, 3) := by decide +kernel
theorem dX9_begin_166 : decode cX9_begin 166 = .ok (.bipush 6, 2) := by decide +kernel
theorem dX9_begin_168 : decode cX9_begin 168 = .ok (.iload_n 1, 1) := by decide +kernel
theorem dX9_begin_169 : decode cX9_begin 169 = .ok (.iadd, 1) := by decide +kernel
theorem dX9_begin_170 : decode cX9_begin 170 = .ok (.aload_n 0, 1) := by decide +kernel
theorem dX9_begin_171 : decode cX9_begin 171 = .ok (.getfield 60, 3) := by decide +kernel
theorem dX9_begin_174 : decode cX9_begin 174 = .ok (.iload_n 1, 1) := by decide +kernel
theorem dX9_begin_175 : decode cX9_begin 175 = .ok (.iaload, 1) := by decide +kernel
theorem dX9_begin_176 : decode cX9_begin 176 = .ok (.iastore, 1) := by decide +kernel
theorem dX9_begin_177 : decode cX9_begin 177 = .ok (.aload_n 0, 1) := by decide +kernel
theorem dX9_begin_178 : decode cX9_begin 178 = .ok (.getfield 63, 3) := by decide +kernel
theorem dX9_begin_181 : decode cX9_begin 181 = .ok (.bipush 6, 2) := by decide +kernel
theorem dX9_begin_183 : decode cX9_begin 183 = .ok (.iload_n 1, 1) := by decide +kernel
theorem dX9_begin_184 : decode cX9_begin 184 = .ok (.iadd, 1) := by decide +kernel
theorem dX9_begin_185 : decode cX9_begin 185 = .ok (.aload_n 0, 1) := by decide +kernel
theorem dX9_begin_186 : decode cX9_begin 186 = .ok (.getfield 63, 3) := by decide +kernel
theorem dX9_begin_189 : decode cX9_begin 189 = .ok (.iload_n 1, 1) := by decide +kernel
theorem dX9_begin_190 : decode cX9_begin 190 = .ok (.iaload, 1) := by decide +kernel
theorem dX9_begin_191 : decode cX9_begin 191 = .ok (.iastore, 1) := by decide +kernel
theorem dX9_begin_192 : decode cX9_begin 192 = .ok (.iinc 1 1, 3) := by decide +kernel
theorem dX9_begin_195 : decode cX9_begin 195 = .ok (.goto (-86), 3) := by decide +kernel
theorem dX9_begin_198 : decode cX9_begin 198 = .ok (.aload_n 0, 1) := by decide +kernel
theorem dX9_begin_199 : decode cX9_begin 199 = .ok (.aload_n 0, 1) := by decide +kernel
theorem dX9_begin_200 : decode cX9_begin 200 = .ok (.getfield 184, 3) := by decide +kernel
theorem dX9_begin_203 : decode cX9_begin 203 = .ok (.putfield 150, 3) := by decide +kernel
theorem dX9_begin_206 : decode cX9_begin 206 = .ok (.aload_n 0, 1) := by decide +kernel
theorem dX9_begin_207 : decode cX9_begin 207 = .ok (.iconst 0, 1) := by decide +kernel
theorem dX9_begin_208 : decode cX9_begin 208 = .ok (.putfield 184, 3) := by decide +kernel
theorem dX9_begin_211 : decode cX9_begin 211 = .ok (.aload_n 0, 1) := by decide +kernel
theorem dX9_begin_212 : decode cX9_begin 212 = .ok (.iconst 1, 1) := by decide +kernel
theorem dX9_begin_213 : decode cX9_begin 213 = .ok (.putfield 193, 3) := by decide +kernel
theorem dX9_begin_216 : decode cX9_begin 216 = .ok (.iconst 0, 1) := by decide +kernel
theorem dX9_begin_217 : decode cX9_begin 217 = .ok (.istore_n 1, 1) := by decide +kernel
theorem dX9_begin_218 : decode cX9_begin 218 = .ok (.iload_n 1, 1) := by decide +kernel
theorem dX9_begin_219 : decode cX9_begin 219 = .ok (.aload_n 0, 1) := by decide +kernel
theorem dX9_begin_220 : decode cX9_begin 220 = .ok (.getfield 187, 3) := by decide +kernel
theorem dX9_begin_223 : decode cX9_begin 223 = .ok (.if_icmp .ge 60, 3) := by decide +kernel
theorem dX9_begin_226 : decode cX9_begin 226 = .ok (.aload_n 0, 1) := by decide +kernel
theorem dX9_begin_227 : decode cX9_begin 227 = .ok (.aload_n 0, 1) := by decide +kernel
theorem dX9_begin_228 : decode cX9_begin 228 = .ok (.iload_n 1, 1) := by decide +kernel
theorem dX9_begin_229 : decode cX9_begin 229 = .ok (.iconst 0, 1) := by decide +kernel
theorem dX9_begin_230 : decode cX9_begin 230 = .ok (.invokevirtual 205, 3) := by decide +kernel
theorem dX9_begin_233 : decode cX9_begin 233 = .ok (.aload_n 0, 1) := by decide +kernel
theorem dX9_begin_234 : decode cX9_begin 234 = .ok (.iload_n 1, 1) := by decide +kernel
theorem dX9_begin_235 : decode cX9_begin 235 = .ok (.iconst 1, 1) := by decide +kernel
theorem dX9_begin_236 : decode cX9_begin 236 = .ok (.invokevirtual 205, 3) := by decide +kernel
theorem dX9_begin_239 : decode cX9_begin 239 = .ok (.invokevirtual 214, 3) := by decide +kernel
theorem dX9_begin_242 : decode cX9_begin 242 = .ok (.aload_n 0, 1) := by decide +kernel
theorem dX9_begin_243 : decode cX9_begin 243 = .ok (.getfield 32, 3) := by decide +kernel
theorem dX9_begin_246 : decode cX9_begin 246 = .ok (.iload_n 1, 1) := by decide +kernel
theorem dX9_begin_247 : decode cX9_begin 247 = .ok (.iconst 1, 1) := by decide +kernel
theorem dX9_begin_248 : decode cX9_begin 248 = .ok (.bastore, 1) := by decide +kernel
theorem dX9_begin_249 : decode cX9_begin 249 = .ok (.aload_n 0, 1) := by decide +kernel
theorem dX9_begin_250 : decode cX9_begin 250 = .ok (.getfield 36, 3) := by decide +kernel
theorem dX9_begin_253 : decode cX9_begin 253 = .ok (.iload_n 1, 1) := by decide +kernel
theorem dX9_begin_254 : decode cX9_begin 254 = .ok (.aload_n 0, 1) := by decide +kernel
theorem dX9_begin_255 : decode cX9_begin 255 = .ok (.getfield 29, 3) := by decide +kernel
theorem dX9_begin_258 : decode cX9_begin 258 = .ok (.iload_n 1, 1) := by decide +kernel
theorem dX9_begin_259 : decode cX9_begin 259 = .ok (.iaload, 1) := by decide +kernel
theorem dX9_begin_260 : decode cX9_begin 260 = .ok (.iconst 1, 1) := by decide +kernel
theorem dX9_begin_261 : decode cX9_begin 261 = .ok (.if_icmp .ne 7, 3) := by decide +kernel
theorem dX9_begin_264 : decode cX9_begin 264 = .ok (.iconst 1, 1) := by decide +kernel
theorem dX9_begin_265 : decode cX9_begin 265 = .ok (.goto 4, 3) := by decide +kernel
theorem dX9_begin_268 : decode cX9_begin 268 = .ok (.iconst 0, 1) := by decide +kernel
theorem dX9_begin_269 : decode cX9_begin 269 = .ok (.bastore, 1) := by decide +kernel
theorem dX9_begin_270 : decode cX9_begin 270 = .ok (.aload_n 0, 1) := by decide +kernel
theorem dX9_begin_271 : decode cX9_begin 271 = .ok (.getfield 29, 3) := by decide +kernel
theorem dX9_begin_274 : decode cX9_begin 274 = .ok (.iload_n 1, 1) := by decide +kernel
theorem dX9_begin_275 : decode cX9_begin 275 = .ok (.iconst 0, 1) := by decide +kernel
theorem dX9_begin_276 : decode cX9_begin 276 = .ok (.iastore, 1) := by decide +kernel
theorem dX9_begin_277 : decode cX9_begin 277 = .ok (.iinc 1 1, 3) := by decide +kernel
theorem dX9_begin_280 : decode cX9_begin 280 = .ok (.goto (-62), 3) := by decide +kernel
theorem dX9_begin_283 : decode cX9_begin 283 = .ok (.aload_n 0, 1) := by decide +kernel
theorem dX9_begin_284 : decode cX9_begin 284 = .ok (.getfield 48, 3) := by decide +kernel
theorem dX9_begin_287 : decode cX9_begin 287 = .ok (.iconst 1, 1) := by decide +kernel
theorem dX9_begin_288 : decode cX9_begin 288 = .ok (.iaload, 1) := by decide +kernel
theorem dX9_begin_289 : decode cX9_begin 289 = .ok (.ireturn, 1) := by decide +kernel
theorem dX9_finish_0 : decode cX9_finish 0 = .ok (.aload_n 0, 1) := by decide +kernel
theorem dX9_finish_1 : decode cX9_finish 1 = .ok (.iconst 0, 1) := by decide +kernel
theorem dX9_finish_2 : decode cX9_finish 2 = .ok (.putfield 177, 3) := by decide +kernel
theorem dX9_finish_5 : decode cX9_finish 5 = .ok (.aload_n 0, 1) := by decide +kernel
theorem dX9_finish_6 : decode cX9_finish 6 = .ok (.getfield 170, 3) := by decide +kernel
theorem dX9_finish_9 : decode cX9_finish 9 = .ok (.ifCond .eq 6, 3) := by decide +kernel
theorem dX9_finish_12 : decode cX9_finish 12 = .ok (.bipush (-8), 2) := by decide +kernel
theorem dX9_finish_14 : decode cX9_finish 14 = .ok (.ireturn, 1) := by decide +kernel
theorem dX9_finish_15 : decode cX9_finish 15 = .ok (.aload_n 0, 1) := by decide +kernel
theorem dX9_finish_16 : decode cX9_finish 16 = .ok (.getfield 193, 3) := by decide +kernel
theorem dX9_finish_19 : decode cX9_finish 19 = .ok (.ifCond .ne 6, 3) := by decide +kernel
theorem dX9_finish_22 : decode cX9_finish 22 = .ok (.bipush (-2), 2) := by decide +kernel
theorem dX9_finish_24 : decode cX9_finish 24 = .ok (.ireturn, 1) := by decide +kernel
theorem dX9_finish_25 : decode cX9_finish 25 = .ok (.aload_n 0, 1) := by decide +kernel
theorem dX9_finish_26 : decode cX9_finish 26 = .ok (.invokevirtual 180, 3) := by decide +kernel
theorem dX9_finish_29 : decode cX9_finish 29 = .ok (.ifCond .ne 6, 3) := by decide +kernel
theorem dX9_finish_32 : decode cX9_finish 32 = .ok (.bipush (-9), 2) := by decide +kernel
theorem dX9_finish_34 : decode cX9_finish 34 = .ok (.ireturn, 1) := by decide +kernel
theorem dX9_finish_35 : decode cX9_finish 35 = .ok (.aload_n 0, 1) := by decide +kernel
theorem dX9_finish_36 : decode cX9_finish 36 = .ok (.iconst 1, 1) := by decide +kernel
theorem dX9_finish_37 : decode cX9_finish 37 = .ok (.iconst 0, 1) := by decide +kernel
theorem dX9_finish_38 : decode cX9_finish 38 = .ok (.invokevirtual 147, 3) := by decide +kernel
theorem dX9_finish_41 : decode cX9_finish 41 = .ok (.iconst 0, 1) := by decide +kernel
theorem dX9_finish_42 : decode cX9_finish 42 = .ok (.istore_n 1, 1) := by decide +kernel
theorem dX9_finish_43 : decode cX9_finish 43 = .ok (.iload_n 1, 1) := by decide +kernel
theorem dX9_finish_44 : decode cX9_finish 44 = .ok (.aload_n 0, 1) := by decide +kernel
theorem dX9_finish_45 : decode cX9_finish 45 = .ok (.getfield 187, 3) := by decide +kernel
theorem dX9_finish_48 : decode cX9_finish 48 = .ok (.if_icmp .ge 45, 3) := by decide +kernel
theorem dX9_finish_51 : decode cX9_finish 51 = .ok (.aload_n 0, 1) := by decide +kernel
theorem dX9_finish_52 : decode cX9_finish 52 = .ok (.aload_n 0, 1) := by decide +kernel
theorem dX9_finish_53 : decode cX9_finish 53 = .ok (.iload_n 1, 1) := by decide +kernel
theorem dX9_finish_54 : decode cX9_finish 54 = .ok (.iconst 1, 1) := by decide +kernel
theorem dX9_finish_55 : decode cX9_finish 55 = .ok (.invokevirtual 205, 3) := by decide +kernel
theorem dX9_finish_58 : decode cX9_finish 58 = .ok (.aload_n 0, 1) := by decide +kernel
theorem dX9_finish_59 : decode cX9_finish 59 = .ok (.iload_n 1, 1) := by decide +kernel
theorem dX9_finish_60 : decode cX9_finish 60 = .ok (.iconst 0, 1) := by decide +kernel
theorem dX9_finish_61 : decode cX9_finish 61 = .ok (.invokevirtual 205, 3) := by decide +kernel
theorem dX9_finish_64 : decode cX9_finish 64 = .ok (.invokevirtual 144, 3) := by decide +kernel
theorem dX9_finish_67 : decode cX9_finish 67 = .ok (.aload_n 0, 1) := by decide +kernel
theorem dX9_finish_68 : decode cX9_finish 68 = .ok (.getfield 29, 3) := by decide +kernel
theorem dX9_finish_71 : decode cX9_finish 71 = .ok (.iload_n 1, 1) := by decide +kernel
theorem dX9_finish_72 : decode cX9_finish 72 = .ok (.aload_n 0, 1) := by decide +kernel
theorem dX9_finish_73 : decode cX9_finish 73 = .ok (.getfield 32, 3) := by decide +kernel
theorem dX9_finish_76 : decode cX9_finish 76 = .ok (.iload_n 1, 1) := by decide +kernel
theorem dX9_finish_77 : decode cX9_finish 77 = .ok (.baload, 1) := by decide +kernel
theorem dX9_finish_78 : decode cX9_finish 78 = .ok (.ifCond .eq 7, 3) := by decide +kernel
theorem dX9_finish_81 : decode cX9_finish 81 = .ok (.iconst 1, 1) := by decide +kernel
theorem dX9_finish_82 : decode cX9_finish 82 = .ok (.goto 4, 3) := by decide +kernel
theorem dX9_finish_85 : decode cX9_finish 85 = .ok (.iconst 2, 1) := by decide +kernel
theorem dX9_finish_86 : decode cX9_finish 86 = .ok (.iastore, 1) := by decide +kernel
theorem dX9_finish_87 : decode cX9_finish 87 = .ok (.iinc 1 1, 3) := by decide +kernel
theorem dX9_finish_90 : decode cX9_finish 90 = .ok (.goto (-47), 3) := by decide +kernel
theorem dX9_finish_93 : decode cX9_finish 93 = .ok (.aload_n 0, 1) := by decide +kernel
theorem dX9_finish_94 : decode cX9_finish 94 = .ok (.iconst 0, 1) := by decide +kernel
theorem dX9_finish_95 : decode cX9_finish 95 = .ok (.putfield 193, 3) := by decide +kernel
theorem dX9_finish_98 : decode cX9_finish 98 = .ok (.aload_n 0, 1) := by decide +kernel
theorem dX9_finish_99 : decode cX9_finish 99 = .ok (.dup, 1) := by decide +kernel
theorem dX9_finish_100 : decode cX9_finish 100 = .ok (.getfield 227, 3) := by decide +kernel
theorem dX9_finish_103 : decode cX9_finish 103 = .ok (.iconst 1, 1) := by decide +kernel
theorem dX9_finish_104 : decode cX9_finish 104 = .ok (.iadd, 1) := by decide +kernel
theorem dX9_finish_105 : decode cX9_finish 105 = .ok (.putfield 227, 3) := by decide +kernel
theorem dX9_finish_108 : decode cX9_finish 108 = .ok (.aload_n 0, 1) := by decide +kernel
theorem dX9_finish_109 : decode cX9_finish 109 = .ok (.getfield 227, 3) := by decide +kernel
theorem dX9_finish_112 : decode cX9_finish 112 = .ok (.ireturn, 1) := by decide +kernel
theorem dX9_rollback_0 : decode cX9_rollback 0 = .ok (.aload_n 0, 1) := by decide +kernel
theorem dX9_rollback_1 : decode cX9_rollback 1 = .ok (.iconst 0, 1) := by decide +kernel
theorem dX9_rollback_2 : decode cX9_rollback 2 = .ok (.putfield 177, 3) := by decide +kernel
theorem dX9_rollback_5 : decode cX9_rollback 5 = .ok (.aload_n 0, 1) := by decide +kernel
theorem dX9_rollback_6 : decode cX9_rollback 6 = .ok (.getfield 170, 3) := by decide +kernel
theorem dX9_rollback_9 : decode cX9_rollback 9 = .ok (.ifCond .eq 6, 3) := by decide +kernel
theorem dX9_rollback_12 : decode cX9_rollback 12 = .ok (.bipush (-8), 2) := by decide +kernel
theorem dX9_rollback_14 : decode cX9_rollback 14 = .ok (.ireturn, 1) := by decide +kernel
theorem dX9_rollback_15 : decode cX9_rollback 15 = .ok (.aload_n 0, 1) := by decide +kernel
theorem dX9_rollback_16 : decode cX9_rollback 16 = .ok (.getfield 193, 3) := by decide +kernel
theorem dX9_rollback_19 : decode cX9_rollback 19 = .ok (.ifCond .ne 6, 3) := by decide +kernel
theorem dX9_rollback_22 : decode cX9_rollback 22 = .ok (.bipush (-2), 2) := by decide +kernel
theorem dX9_rollback_24 : decode cX9_rollback 24 = .ok (.ireturn, 1) := by decide +kernel
theorem dX9_rollback_25 : decode cX9_rollback 25 = .ok (.aload_n 0, 1) := by decide +kernel
theorem dX9_rollback_26 : decode cX9_rollback 26 = .ok (.invokevirtual 180, 3) := by decide +kernel
theorem dX9_rollback_29 : decode cX9_rollback 29 = .ok (.ifCond .ne 6, 3) := by decide +kernel
theorem dX9_rollback_32 : decode cX9_rollback 32 = .ok (.bipush (-9), 2) := by decide +kernel
theorem dX9_rollback_34 : decode cX9_rollback 34 = .ok (.ireturn, 1) := by decide +kernel
theorem dX9_rollback_35 : decode cX9_rollback 35 = .ok (.iconst 0, 1) := by decide +kernel
theorem dX9_rollback_36 : decode cX9_rollback 36 = .ok (.istore_n 1, 1) := by decide +kernel
theorem dX9_rollback_37 : decode cX9_rollback 37 = .ok (.iload_n 1, 1) := by decide +kernel
theorem dX9_rollback_38 : decode cX9_rollback 38 = .ok (.aload_n 0, 1) := by decide +kernel
theorem dX9_rollback_39 : decode cX9_rollback 39 = .ok (.getfield 187, 3) := by decide +kernel
theorem dX9_rollback_42 : decode cX9_rollback 42 = .ok (.if_icmp .ge 29, 3) := by decide +kernel
theorem dX9_rollback_45 : decode cX9_rollback 45 = .ok (.aload_n 0, 1) := by decide +kernel
theorem dX9_rollback_46 : decode cX9_rollback 46 = .ok (.getfield 29, 3) := by decide +kernel
theorem dX9_rollback_49 : decode cX9_rollback 49 = .ok (.iload_n 1, 1) := by decide +kernel
theorem dX9_rollback_50 : decode cX9_rollback 50 = .ok (.aload_n 0, 1) := by decide +kernel
theorem dX9_rollback_51 : decode cX9_rollback 51 = .ok (.getfield 36, 3) := by decide +kernel
theorem dX9_rollback_54 : decode cX9_rollback 54 = .ok (.iload_n 1, 1) := by decide +kernel
theorem dX9_rollback_55 : decode cX9_rollback 55 = .ok (.baload, 1) := by decide +kernel
theorem dX9_rollback_56 : decode cX9_rollback 56 = .ok (.ifCond .eq 7, 3) := by decide +kernel
theorem dX9_rollback_59 : decode cX9_rollback 59 = .ok (.iconst 1, 1) := by decide +kernel
theorem dX9_rollback_60 : decode cX9_rollback 60 = .ok (.goto 4, 3) := by decide +kernel
theorem dX9_rollback_63 : decode cX9_rollback 63 = .ok (.iconst 0, 1) := by decide +kernel
theorem dX9_rollback_64 : decode cX9_rollback 64 = .ok (.iastore, 1) := by decide +kernel
theorem dX9_rollback_65 : decode cX9_rollback 65 = .ok (.iinc 1 1, 3) := by decide +kernel
theorem dX9_rollback_68 : decode cX9_rollback 68 = .ok (.goto (-31), 3) := by decide +kernel
theorem dX9_rollback_71 : decode cX9_rollback 71 = .ok (.aload_n 0, 1) := by decide +kernel
theorem dX9_rollback_72 : decode cX9_rollback 72 = .ok (.iconst 0, 1) := by decide +kernel
theorem dX9_rollback_73 : decode cX9_rollback 73 = .ok (.putfield 193, 3) := by decide +kernel
theorem dX9_rollback_76 : decode cX9_rollback 76 = .ok (.aload_n 0, 1) := by decide +kernel
theorem dX9_rollback_77 : decode cX9_rollback 77 = .ok (.getfield 227, 3) := by decide +kernel
theorem dX9_rollback_80 : decode cX9_rollback 80 = .ok (.ireturn, 1) := by decide +kernel
theorem dX9_backfill_0 : decode cX9_backfill 0 = .ok (.aload_n 0, 1) := by decide +kernel
theorem dX9_backfill_1 : decode cX9_backfill 1 = .ok (.iconst 0, 1) := by decide +kernel
theorem dX9_backfill_2 : decode cX9_backfill 2 = .ok (.putfield 177, 3) := by decide +kernel
theorem dX9_backfill_5 : decode cX9_backfill 5 = .ok (.aload_n 0, 1) := by decide +kernel
theorem dX9_backfill_6 : decode cX9_backfill 6 = .ok (.getfield 170, 3) := by decide +kernel
theorem dX9_backfill_9 : decode cX9_backfill 9 = .ok (.ifCond .eq 6, 3) := by decide +kernel
theorem dX9_backfill_12 : decode cX9_backfill 12 = .ok (.bipush (-8), 2) := by decide +kernel
theorem dX9_backfill_14 : decode cX9_backfill 14 = .ok (.ireturn, 1) := by decide +kernel
theorem dX9_backfill_15 : decode cX9_backfill 15 = .ok (.iconst 0, 1) := by decide +kernel
theorem dX9_backfill_16 : decode cX9_backfill 16 = .ok (.istore_n 1, 1) := by decide +kernel
theorem dX9_backfill_17 : decode cX9_backfill 17 = .ok (.iconst 0, 1) := by decide +kernel
theorem dX9_backfill_18 : decode cX9_backfill 18 = .ok (.istore_n 2, 1) := by decide +kernel
theorem dX9_backfill_19 : decode cX9_backfill 19 = .ok (.iload_n 2, 1) := by decide +kernel
theorem dX9_backfill_20 : decode cX9_backfill 20 = .ok (.aload_n 0, 1) := by decide +kernel
theorem dX9_backfill_21 : decode cX9_backfill 21 = .ok (.getfield 187, 3) := by decide +kernel
theorem dX9_backfill_24 : decode cX9_backfill 24 = .ok (.if_icmp .ge 77, 3) := by decide +kernel
theorem dX9_backfill_27 : decode cX9_backfill 27 = .ok (.iload_n 1, 1) := by decide +kernel
theorem dX9_backfill_28 : decode cX9_backfill 28 = .ok (.iconst 4, 1) := by decide +kernel
theorem dX9_backfill_29 : decode cX9_backfill 29 = .ok (.if_icmp .ge 72, 3) := by decide +kernel
theorem dX9_backfill_32 : decode cX9_backfill 32 = .ok (.aload_n 0, 1) := by decide +kernel
theorem dX9_backfill_33 : decode cX9_backfill 33 = .ok (.iload_n 2, 1) := by decide +kernel
theorem dX9_backfill_34 : decode cX9_backfill 34 = .ok (.invokevirtual 234, 3) := by decide +kernel
theorem dX9_backfill_37 : decode cX9_backfill 37 = .ok (.ifCond .ne 6, 3) := by decide +kernel
theorem dX9_backfill_40 : decode cX9_backfill 40 = .ok (.goto 55, 3) := by decide +kernel
theorem dX9_backfill_43 : decode cX9_backfill 43 = .ok (.aload_n 0, 1) := by decide +kernel
theorem dX9_backfill_44 : decode cX9_backfill 44 = .ok (.getfield 193, 3) := by decide +kernel
theorem dX9_backfill_47 : decode cX9_backfill 47 = .ok (.ifCond .ne 17, 3) := by decide +kernel
theorem dX9_backfill_50 : decode cX9_backfill 50 = .ok (.aload_n 0, 1) := by decide +kernel
theorem dX9_backfill_51 : decode cX9_backfill 51 = .ok (.getfield 29, 3) := by decide +kernel
theorem dX9_backfill_54 : decode cX9_backfill 54 = .ok (.iload_n 2, 1) := by decide +kernel
theorem dX9_backfill_55 : decode cX9_backfill 55 = .ok (.iaload, 1) := by decide +kernel
theorem dX9_backfill_56 : decode cX9_backfill 56 = .ok (.iconst 2, 1) := by decide +kernel
theorem dX9_backfill_57 : decode cX9_backfill 57 = .ok (.if_icmp .ne 7, 3) := by decide +kernel
theorem dX9_backfill_60 : decode cX9_backfill 60 = .ok (.iconst 2, 1) := by decide +kernel
theorem dX9_backfill_61 : decode cX9_backfill 61 = .ok (.goto 4, 3) := by decide +kernel
theorem dX9_backfill_64 : decode cX9_backfill 64 = .ok (.iconst 1, 1) := by decide +kernel
theorem dX9_backfill_65 : decode cX9_backfill 65 = .ok (.istore_n 3, 1) := by decide +kernel
theorem dX9_backfill_66 : decode cX9_backfill 66 = .ok (.aload_n 0, 1) := by decide +kernel
theorem dX9_backfill_67 : decode cX9_backfill 67 = .ok (.iload_n 3, 1) := by decide +kernel
theorem dX9_backfill_68 : decode cX9_backfill 68 = .ok (.invokevirtual 199, 3) := by decide +kernel
theorem dX9_backfill_71 : decode cX9_backfill 71 = .ok (.iload_n 3, 1) := by decide +kernel
theorem dX9_backfill_72 : decode cX9_backfill 72 = .ok (.if_icmp .ge 6, 3) := by decide +kernel
theorem dX9_backfill_75 : decode cX9_backfill 75 = .ok (.bipush (-9), 2) := by decide +kernel
theorem dX9_backfill_77 : decode cX9_backfill 77 = .ok (.ireturn, 1) := by decide +kernel
theorem dX9_backfill_78 : decode cX9_backfill 78 = .ok (.aload_n 0, 1) := by decide +kernel
theorem dX9_backfill_79 : decode cX9_backfill 79 = .ok (.getfield 32, 3) := by decide +kernel
theorem dX9_backfill_82 : decode cX9_backfill 82 = .ok (.iload_n 2, 1) := by decide +kernel
theorem dX9_backfill_83 : decode cX9_backfill 83 = .ok (.iconst 0, 1) := by decide +kernel
theorem dX9_backfill_84 : decode cX9_backfill 84 = .ok (.bastore, 1) := by decide +kernel
theorem dX9_backfill_85 : decode cX9_backfill 85 = .ok (.aload_n 0, 1) := by decide +kernel
theorem dX9_backfill_86 : decode cX9_backfill 86 = .ok (.getfield 29, 3) := by decide +kernel
theorem dX9_backfill_89 : decode cX9_backfill 89 = .ok (.iload_n 2, 1) := by decide +kernel
theorem dX9_backfill_90 : decode cX9_backfill 90 = .ok (.iconst 0, 1) := by decide +kernel
theorem dX9_backfill_91 : decode cX9_backfill 91 = .ok (.iastore, 1) := by decide +kernel
theorem dX9_backfill_92 : decode cX9_backfill 92 = .ok (.iinc 1 1, 3) := by decide +kernel
theorem dX9_backfill_95 : decode cX9_backfill 95 = .ok (.iinc 2 1, 3) := by decide +kernel
theorem dX9_backfill_98 : decode cX9_backfill 98 = .ok (.goto (-79), 3) := by decide +kernel
theorem dX9_backfill_101 : decode cX9_backfill 101 = .ok (.iload_n 1, 1) := by decide +kernel
theorem dX9_backfill_102 : decode cX9_backfill 102 = .ok (.ifCond .le 13, 3) := by decide +kernel
theorem dX9_backfill_105 : decode cX9_backfill 105 = .ok (.aload_n 0, 1) := by decide +kernel
theorem dX9_backfill_106 : decode cX9_backfill 106 = .ok (.invokevirtual 180, 3) := by decide +kernel
theorem dX9_backfill_109 : decode cX9_backfill 109 = .ok (.ifCond .ne 6, 3) := by decide +kernel
theorem dX9_backfill_112 : decode cX9_backfill 112 = .ok (.bipush (-9), 2) := by decide +kernel
theorem dX9_backfill_114 : decode cX9_backfill 114 = .ok (.ireturn, 1) := by decide +kernel
theorem dX9_backfill_115 : decode cX9_backfill 115 = .ok (.iload_n 1, 1) := by decide +kernel
theorem dX9_backfill_116 : decode cX9_backfill 116 = .ok (.ireturn, 1) := by decide +kernel
theorem dX9_crash_0 : decode cX9_crash 0 = .ok (.iload_n 1, 1) := by decide +kernel
theorem dX9_crash_1 : decode cX9_crash 1 = .ok (.iconst 0, 1) := by decide +kernel
theorem dX9_crash_2 : decode cX9_crash 2 = .ok (.sipush 1000, 3) := by decide +kernel
theorem dX9_crash_5 : decode cX9_crash 5 = .ok (.invokestatic 110, 3) := by decide +kernel
theorem dX9_crash_8 : decode cX9_crash 8 = .ok (.ifCond .ne 5, 3) := by decide +kernel
theorem dX9_crash_11 : decode cX9_crash 11 = .ok (.iconst (-1), 1) := by decide +kernel
theorem dX9_crash_12 : decode cX9_crash 12 = .ok (.ireturn, 1) := by decide +kernel
theorem dX9_crash_13 : decode cX9_crash 13 = .ok (.aload_n 0, 1) := by decide +kernel
theorem dX9_crash_14 : decode cX9_crash 14 = .ok (.iload_n 1, 1) := by decide +kernel
theorem dX9_crash_15 : decode cX9_crash 15 = .ok (.putfield 167, 3) := by decide +kernel
theorem dX9_crash_18 : decode cX9_crash 18 = .ok (.iconst 1, 1) := by decide +kernel
theorem dX9_crash_19 : decode cX9_crash 19 = .ok (.ireturn, 1) := by decide +kernel
theorem dX9_restart_0 : decode cX9_restart 0 = .ok (.aload_n 0, 1) := by decide +kernel
theorem dX9_restart_1 : decode cX9_restart 1 = .ok (.iconst 0, 1) := by decide +kernel
theorem dX9_restart_2 : decode cX9_restart 2 = .ok (.putfield 177, 3) := by decide +kernel
theorem dX9_restart_5 : decode cX9_restart 5 = .ok (.aload_n 0, 1) := by decide +kernel
theorem dX9_restart_6 : decode cX9_restart 6 = .ok (.getfield 170, 3) := by decide +kernel
theorem dX9_restart_9 : decode cX9_restart 9 = .ok (.ifCond .ne 6, 3) := by decide +kernel
theorem dX9_restart_12 : decode cX9_restart 12 = .ok (.bipush (-2), 2) := by decide +kernel
theorem dX9_restart_14 : decode cX9_restart 14 = .ok (.ireturn, 1) := by decide +kernel
theorem dX9_restart_15 : decode cX9_restart 15 = .ok (.aload_n 0, 1) := by decide +kernel
theorem dX9_restart_16 : decode cX9_restart 16 = .ok (.getfield 217, 3) := by decide +kernel
theorem dX9_restart_19 : decode cX9_restart 19 = .ok (.ifCond .eq 15, 3) := by decide +kernel
theorem dX9_restart_22 : decode cX9_restart 22 = .ok (.aload_n 0, 1) := by decide +kernel
theorem dX9_restart_23 : decode cX9_restart 23 = .ok (.iconst 3, 1) := by decide +kernel
theorem dX9_restart_24 : decode cX9_restart 24 = .ok (.invokevirtual 199, 3) := by decide +kernel
theorem dX9_restart_27 : decode cX9_restart 27 = .ok (.iconst 3, 1) := by decide +kernel
theorem dX9_restart_28 : decode cX9_restart 28 = .ok (.if_icmp .ge 6, 3) := by decide +kernel
theorem dX9_restart_31 : decode cX9_restart 31 = .ok (.bipush (-9), 2) := by decide +kernel
theorem dX9_restart_33 : decode cX9_restart 33 = .ok (.ireturn, 1) := by decide +kernel
theorem dX9_restart_34 : decode cX9_restart 34 = .ok (.aload_n 0, 1) := by decide +kernel
theorem dX9_restart_35 : decode cX9_restart 35 = .ok (.iconst 0, 1) := by decide +kernel
theorem dX9_restart_36 : decode cX9_restart 36 = .ok (.putfield 217, 3) := by decide +kernel
theorem dX9_restart_39 : decode cX9_restart 39 = .ok (.aload_n 0, 1) := by decide +kernel
theorem dX9_restart_40 : decode cX9_restart 40 = .ok (.iconst 0, 1) := by decide +kernel
theorem dX9_restart_41 : decode cX9_restart 41 = .ok (.putfield 170, 3) := by decide +kernel
theorem dX9_restart_44 : decode cX9_restart 44 = .ok (.iconst 1, 1) := by decide +kernel
theorem dX9_restart_45 : decode cX9_restart 45 = .ok (.ireturn, 1) := by decide +kernel
theorem dX9_isDown_0 : decode cX9_isDown 0 = .ok (.aload_n 0, 1) := by decide +kernel
theorem dX9_isDown_1 : decode cX9_isDown 1 = .ok (.getfield 170, 3) := by decide +kernel
theorem dX9_isDown_4 : decode cX9_isDown 4 = .ok (.ireturn, 1) := by decide +kernel
theorem dX9_lagging_0 : decode cX9_lagging 0 = .ok (.iconst 0, 1) := by decide +kernel
theorem dX9_lagging_1 : decode cX9_lagging 1 = .ok (.istore_n 1, 1) := by decide +kernel
theorem dX9_lagging_2 : decode cX9_lagging 2 = .ok (.iconst 0, 1) := by decide +kernel
theorem dX9_lagging_3 : decode cX9_lagging 3 = .ok (.istore_n 2, 1) := by decide +kernel
theorem dX9_lagging_4 : decode cX9_lagging 4 = .ok (.iload_n 2, 1) := by decide +kernel
theorem dX9_lagging_5 : decode cX9_lagging 5 = .ok (.aload_n 0, 1) := by decide +kernel
theorem dX9_lagging_6 : decode cX9_lagging 6 = .ok (.getfield 187, 3) := by decide +kernel
theorem dX9_lagging_9 : decode cX9_lagging 9 = .ok (.if_icmp .ge 25, 3) := by decide +kernel
theorem dX9_lagging_12 : decode cX9_lagging 12 = .ok (.iload_n 1, 1) := by decide +kernel
theorem dX9_lagging_13 : decode cX9_lagging 13 = .ok (.aload_n 0, 1) := by decide +kernel
theorem dX9_lagging_14 : decode cX9_lagging 14 = .ok (.iload_n 2, 1) := by decide +kernel
theorem dX9_lagging_15 : decode cX9_lagging 15 = .ok (.invokevirtual 234, 3) := by decide +kernel
theorem dX9_lagging_18 : decode cX9_lagging 18 = .ok (.ifCond .eq 7, 3) := by decide +kernel
theorem dX9_lagging_21 : decode cX9_lagging 21 = .ok (.iconst 1, 1) := by decide +kernel
theorem dX9_lagging_22 : decode cX9_lagging 22 = .ok (.goto 4, 3) := by decide +kernel
theorem dX9_lagging_25 : decode cX9_lagging 25 = .ok (.iconst 0, 1) := by decide +kernel
theorem dX9_lagging_26 : decode cX9_lagging 26 = .ok (.iadd, 1) := by decide +kernel
theorem dX9_lagging_27 : decode cX9_lagging 27 = .ok (.istore_n 1, 1) := by decide +kernel
theorem dX9_lagging_28 : decode cX9_lagging 28 = .ok (.iinc 2 1, 3) := by decide +kernel
theorem dX9_lagging_31 : decode cX9_lagging 31 = .ok (.goto (-27), 3) := by decide +kernel
theorem dX9_lagging_34 : decode cX9_lagging 34 = .ok (.iload_n 1, 1) := by decide +kernel
theorem dX9_lagging_35 : decode cX9_lagging 35 = .ok (.ireturn, 1) := by decide +kernel
theorem dX9_count_0 : decode cX9_count 0 = .ok (.iload_n 1, 1) := by decide +kernel
theorem dX9_count_1 : decode cX9_count 1 = .ok (.iconst 0, 1) := by decide +kernel
theorem dX9_count_2 : decode cX9_count 2 = .ok (.bipush 9, 2) := by decide +kernel
theorem dX9_count_4 : decode cX9_count 4 = .ok (.invokestatic 110, 3) := by decide +kernel
theorem dX9_count_7 : decode cX9_count 7 = .ok (.ifCond .ne 5, 3) := by decide +kernel
theorem dX9_count_10 : decode cX9_count 10 = .ok (.iconst (-1), 1) := by decide +kernel
theorem dX9_count_11 : decode cX9_count 11 = .ok (.ireturn, 1) := by decide +kernel
theorem dX9_count_12 : decode cX9_count 12 = .ok (.iload_n 1, 1) := by decide +kernel
theorem dX9_count_13 : decode cX9_count 13 = .ok (.bipush 7, 2) := by decide +kernel
theorem dX9_count_15 : decode cX9_count 15 = .ok (.if_icmp .ne 8, 3) := by decide +kernel
theorem dX9_count_18 : decode cX9_count 18 = .ok (.aload_n 0, 1) := by decide +kernel
theorem dX9_count_19 : decode cX9_count 19 = .ok (.getfield 174, 3) := by decide +kernel
theorem dX9_count_22 : decode cX9_count 22 = .ok (.ireturn, 1) := by decide +kernel
theorem dX9_count_23 : decode cX9_count 23 = .ok (.iload_n 1, 1) := by decide +kernel
theorem dX9_count_24 : decode cX9_count 24 = .ok (.bipush 8, 2) := by decide +kernel
theorem dX9_count_26 : decode cX9_count 26 = .ok (.if_icmp .ne 8, 3) := by decide +kernel
theorem dX9_count_29 : decode cX9_count 29 = .ok (.aload_n 0, 1) := by decide +kernel
theorem dX9_count_30 : decode cX9_count 30 = .ok (.getfield 184, 3) := by decide +kernel
theorem dX9_count_33 : decode cX9_count 33 = .ok (.ireturn, 1) := by decide +kernel
theorem dX9_count_34 : decode cX9_count 34 = .ok (.iload_n 1, 1) := by decide +kernel
theorem dX9_count_35 : decode cX9_count 35 = .ok (.bipush 9, 2) := by decide +kernel
theorem dX9_count_37 : decode cX9_count 37 = .ok (.if_icmp .ne 8, 3) := by decide +kernel
theorem dX9_count_40 : decode cX9_count 40 = .ok (.aload_n 0, 1) := by decide +kernel
theorem dX9_count_41 : decode cX9_count 41 = .ok (.getfield 177, 3) := by decide +kernel
theorem dX9_count_44 : decode cX9_count 44 = .ok (.ireturn, 1) := by decide +kernel
theorem dX9_count_45 : decode cX9_count 45 = .ok (.aload_n 0, 1) := by decide +kernel
theorem dX9_count_46 : decode cX9_count 46 = .ok (.getfield 170, 3) := by decide +kernel
theorem dX9_count_49 : decode cX9_count 49 = .ok (.ifCond .eq 6, 3) := by decide +kernel
theorem dX9_count_52 : decode cX9_count 52 = .ok (.bipush (-8), 2) := by decide +kernel
theorem dX9_count_54 : decode cX9_count 54 = .ok (.ireturn, 1) := by decide +kernel
theorem dX9_count_55 : decode cX9_count 55 = .ok (.iload_n 1, 1) := by decide +kernel
theorem dX9_count_56 : decode cX9_count 56 = .ok (.tableswitch 93 0 5 #[40, 45, 58, 65, 83, 88], 40) := by decide +kernel
theorem dX9_count_96 : decode cX9_count 96 = .ok (.aload_n 0, 1) := by decide +kernel
theorem dX9_count_97 : decode cX9_count 97 = .ok (.getfield 227, 3) := by decide +kernel
theorem dX9_count_100 : decode cX9_count 100 = .ok (.ireturn, 1) := by decide +kernel
theorem dX9_count_101 : decode cX9_count 101 = .ok (.aload_n 0, 1) := by decide +kernel
theorem dX9_count_102 : decode cX9_count 102 = .ok (.getfield 193, 3) := by decide +kernel
theorem dX9_count_105 : decode cX9_count 105 = .ok (.ifCond .eq 7, 3) := by decide +kernel
theorem dX9_count_108 : decode cX9_count 108 = .ok (.iconst 1, 1) := by decide +kernel
theorem dX9_count_109 : decode cX9_count 109 = .ok (.goto 4, 3) := by decide +kernel
theorem dX9_count_112 : decode cX9_count 112 = .ok (.iconst 0, 1) := by decide +kernel
theorem dX9_count_113 : decode cX9_count 113 = .ok (.ireturn, 1) := by decide +kernel
theorem dX9_count_114 : decode cX9_count 114 = .ok (.aload_n 0, 1) := by decide +kernel
theorem dX9_count_115 : decode cX9_count 115 = .ok (.getfield 48, 3) := by decide +kernel
theorem dX9_count_118 : decode cX9_count 118 = .ok (.iconst 0, 1) := by decide +kernel
theorem dX9_count_119 : decode cX9_count 119 = .ok (.iaload, 1) := by decide +kernel
theorem dX9_count_120 : decode cX9_count 120 = .ok (.ireturn, 1) := by decide +kernel
theorem dX9_count_121 : decode cX9_count 121 = .ok (.aload_n 0, 1) := by decide +kernel
theorem dX9_count_122 : decode cX9_count 122 = .ok (.getfield 193, 3) := by decide +kernel
theorem dX9_count_125 : decode cX9_count 125 = .ok (.ifCond .eq 12, 3) := by decide +kernel
theorem dX9_count_128 : decode cX9_count 128 = .ok (.aload_n 0, 1) := by decide +kernel
theorem dX9_count_129 : decode cX9_count 129 = .ok (.getfield 48, 3) := by decide +kernel
theorem dX9_count_132 : decode cX9_count 132 = .ok (.iconst 1, 1) := by decide +kernel
theorem dX9_count_133 : decode cX9_count 133 = .ok (.iaload, 1) := by decide +kernel
theorem dX9_count_134 : decode cX9_count 134 = .ok (.goto 4, 3) := by decide +kernel
theorem dX9_count_137 : decode cX9_count 137 = .ok (.iconst 0, 1) := by decide +kernel
theorem dX9_count_138 : decode cX9_count 138 = .ok (.ireturn, 1) := by decide +kernel
theorem dX9_count_139 : decode cX9_count 139 = .ok (.aload_n 0, 1) := by decide +kernel
theorem dX9_count_140 : decode cX9_count 140 = .ok (.getfield 187, 3) := by decide +kernel
theorem dX9_count_143 : decode cX9_count 143 = .ok (.ireturn, 1) := by decide +kernel
theorem dX9_count_144 : decode cX9_count 144 = .ok (.aload_n 0, 1) := by decide +kernel
theorem dX9_count_145 : decode cX9_count 145 = .ok (.invokevirtual 237, 3) := by decide +kernel
theorem dX9_count_148 : decode cX9_count 148 = .ok (.ireturn, 1) := by decide +kernel
theorem dX9_count_149 : decode cX9_count 149 = .ok (.aload_n 0, 1) := by decide +kernel
theorem dX9_count_150 : decode cX9_count 150 = .ok (.getfield 193, 3) := by decide +kernel
theorem dX9_count_153 : decode cX9_count 153 = .ok (.ifCond .eq 7, 3) := by decide +kernel
theorem dX9_count_156 : decode cX9_count 156 = .ok (.iconst 0, 1) := by decide +kernel
theorem dX9_count_157 : decode cX9_count 157 = .ok (.goto 7, 3) := by decide +kernel
theorem dX9_count_160 : decode cX9_count 160 = .ok (.aload_n 0, 1) := by decide +kernel
theorem dX9_count_161 : decode cX9_count 161 = .ok (.invokevirtual 223, 3) := by decide +kernel
theorem dX9_count_164 : decode cX9_count 164 = .ok (.ireturn, 1) := by decide +kernel
theorem dX9_column_0 : decode cX9_column 0 = .ok (.aload_n 0, 1) := by decide +kernel
theorem dX9_column_1 : decode cX9_column 1 = .ok (.getfield 170, 3) := by decide +kernel
theorem dX9_column_4 : decode cX9_column 4 = .ok (.ifCond .eq 6, 3) := by decide +kernel
theorem dX9_column_7 : decode cX9_column 7 = .ok (.bipush (-8), 2) := by decide +kernel
theorem dX9_column_9 : decode cX9_column 9 = .ok (.ireturn, 1) := by decide +kernel
theorem dX9_column_10 : decode cX9_column 10 = .ok (.iload_n 2, 1) := by decide +kernel
theorem dX9_column_11 : decode cX9_column 11 = .ok (.ifCond .eq 13, 3) := by decide +kernel
theorem dX9_column_14 : decode cX9_column 14 = .ok (.aload_n 0, 1) := by decide +kernel
theorem dX9_column_15 : decode cX9_column 15 = .ok (.getfield 193, 3) := by decide +kernel
theorem dX9_column_18 : decode cX9_column 18 = .ok (.ifCond .ne 6, 3) := by decide +kernel
theorem dX9_column_21 : decode cX9_column 21 = .ok (.bipush (-2), 2) := by decide +kernel
theorem dX9_column_23 : decode cX9_column 23 = .ok (.ireturn, 1) := by decide +kernel
theorem dX9_column_24 : decode cX9_column 24 = .ok (.iload_n 2, 1) := by decide +kernel
theorem dX9_column_25 : decode cX9_column 25 = .ok (.ifCond .eq 7, 3) := by decide +kernel
theorem dX9_column_28 : decode cX9_column 28 = .ok (.iconst 1, 1) := by decide +kernel
theorem dX9_column_29 : decode cX9_column 29 = .ok (.goto 4, 3) := by decide +kernel
theorem dX9_column_32 : decode cX9_column 32 = .ok (.iconst 0, 1) := by decide +kernel
theorem dX9_column_33 : decode cX9_column 33 = .ok (.istore_n 3, 1) := by decide +kernel
theorem dX9_column_34 : decode cX9_column 34 = .ok (.iload_n 1, 1) := by decide +kernel
theorem dX9_column_35 : decode cX9_column 35 = .ok (.iconst 0, 1) := by decide +kernel
theorem dX9_column_36 : decode cX9_column 36 = .ok (.aload_n 0, 1) := by decide +kernel
theorem dX9_column_37 : decode cX9_column 37 = .ok (.getfield 48, 3) := by decide +kernel
theorem dX9_column_40 : decode cX9_column 40 = .ok (.iload_n 3, 1) := by decide +kernel
theorem dX9_column_41 : decode cX9_column 41 = .ok (.iaload, 1) := by decide +kernel
theorem dX9_column_42 : decode cX9_column 42 = .ok (.iconst 1, 1) := by decide +kernel
theorem dX9_column_43 : decode cX9_column 43 = .ok (.isub, 1) := by decide +kernel
theorem dX9_column_44 : decode cX9_column 44 = .ok (.invokestatic 110, 3) := by decide +kernel
theorem dX9_column_47 : decode cX9_column 47 = .ok (.ifCond .ne 5, 3) := by decide +kernel
theorem dX9_column_50 : decode cX9_column 50 = .ok (.iconst (-1), 1) := by decide +kernel
theorem dX9_column_51 : decode cX9_column 51 = .ok (.ireturn, 1) := by decide +kernel
theorem dX9_column_52 : decode cX9_column 52 = .ok (.bipush 8, 2) := by decide +kernel
theorem dX9_column_54 : decode cX9_column 54 = .ok (.aload_n 0, 1) := by decide +kernel
theorem dX9_column_55 : decode cX9_column 55 = .ok (.getfield 42, 3) := by decide +kernel
theorem dX9_column_58 : decode cX9_column 58 = .ok (.bipush 8, 2) := by decide +kernel
theorem dX9_column_60 : decode cX9_column 60 = .ok (.iload_n 3, 1) := by decide +kernel
theorem dX9_column_61 : decode cX9_column 61 = .ok (.imul, 1) := by decide +kernel
theorem dX9_column_62 : decode cX9_column 62 = .ok (.iload_n 1, 1) := by decide +kernel
theorem dX9_column_63 : decode cX9_column 63 = .ok (.iadd, 1) := by decide +kernel
theorem dX9_column_64 : decode cX9_column 64 = .ok (.iaload, 1) := by decide +kernel
theorem dX9_column_65 : decode cX9_column 65 = .ok (.imul, 1) := by decide +kernel
theorem dX9_column_66 : decode cX9_column 66 = .ok (.aload_n 0, 1) := by decide +kernel
theorem dX9_column_67 : decode cX9_column 67 = .ok (.getfield 45, 3) := by decide +kernel
theorem dX9_column_70 : decode cX9_column 70 = .ok (.bipush 8, 2) := by decide +kernel
theorem dX9_column_72 : decode cX9_column 72 = .ok (.iload_n 3, 1) := by decide +kernel
theorem dX9_column_73 : decode cX9_column 73 = .ok (.imul, 1) := by decide +kernel
theorem dX9_column_74 : decode cX9_column 74 = .ok (.iload_n 1, 1) := by decide +kernel
theorem dX9_column_75 : decode cX9_column 75 = .ok (.iadd, 1) := by decide +kernel
theorem dX9_column_76 : decode cX9_column 76 = .ok (.iaload, 1) := by decide +kernel
theorem dX9_column_77 : decode cX9_column 77 = .ok (.iadd, 1) := by decide +kernel
theorem dX9_column_78 : decode cX9_column 78 = .ok (.ireturn, 1) := by decide +kernel
end
section
theorem dL_law_0 : decode cL_law 0 = .ok (.new 7, 3) := by decide +kernel
theorem dL_law_3 : decode cL_law 3 = .ok (.dup, 1) := by decide +kernel
theorem dL_law_4 : decode cL_law 4 = .ok (.invokespecial 9, 3) := by decide +kernel
theorem dL_law_7 : decode cL_law 7 = .ok (.astore_n 1, 1) := by decide +kernel
theorem dL_law_8 : decode cL_law 8 = .ok (.new 10, 3) := by decide +kernel
theorem dL_law_11 : decode cL_law 11 = .ok (.dup, 1) := by decide +kernel
theorem dL_law_12 : decode cL_law 12 = .ok (.invokespecial 12, 3) := by decide +kernel
theorem dL_law_15 : decode cL_law 15 = .ok (.astore_n 2, 1) := by decide +kernel
theorem dL_law_16 : decode cL_law 16 = .ok (.iconst 0, 1) := by decide +kernel
theorem dL_law_17 : decode cL_law 17 = .ok (.istore_n 3, 1) := by decide +kernel
theorem dL_law_18 : decode cL_law 18 = .ok (.iload_n 3, 1) := by decide +kernel
theorem dL_law_19 : decode cL_law 19 = .ok (.aload_n 0, 1) := by decide +kernel
theorem dL_law_20 : decode cL_law 20 = .ok (.arraylength, 1) := by decide +kernel
theorem dL_law_21 : decode cL_law 21 = .ok (.bipush 6, 2) := by decide +kernel
theorem dL_law_23 : decode cL_law 23 = .ok (.isub, 1) := by decide +kernel
theorem dL_law_24 : decode cL_law 24 = .ok (.if_icmp .gt 738, 3) := by decide +kernel
theorem dL_law_27 : decode cL_law 27 = .ok (.aload_n 0, 1) := by decide +kernel
theorem dL_law_28 : decode cL_law 28 = .ok (.iload_n 3, 1) := by decide +kernel
theorem dL_law_29 : decode cL_law 29 = .ok (.iaload, 1) := by decide +kernel
theorem dL_law_30 : decode cL_law 30 = .ok (.bipush 31, 2) := by decide +kernel
theorem dL_law_32 : decode cL_law 32 = .ok (.iand, 1) := by decide +kernel
theorem dL_law_33 : decode cL_law 33 = .ok (.tableswitch 723 0 20 #[99, 162, 175, 218, 261, 310, 333, 382, 395, 419, 452, 501, 550, 563, 576, 589, 602, 625, 638, 651, 674], 99) := by decide +kernel
theorem dL_law_132 : decode cL_law 132 = .ok (.aload_n 1, 1) := by decide +kernel
theorem dL_law_133 : decode cL_law 133 = .ok (.aload_n 0, 1) := by decide +kernel
theorem dL_law_134 : decode cL_law 134 = .ok (.iload_n 3, 1) := by decide +kernel
theorem dL_law_135 : decode cL_law 135 = .ok (.iconst 1, 1) := by decide +kernel
theorem dL_law_136 : decode cL_law 136 = .ok (.iadd, 1) := by decide +kernel
theorem dL_law_137 : decode cL_law 137 = .ok (.iaload, 1) := by decide +kernel
theorem dL_law_138 : decode cL_law 138 = .ok (.aload_n 0, 1) := by decide +kernel
theorem dL_law_139 : decode cL_law 139 = .ok (.iload_n 3, 1) := by decide +kernel
theorem dL_law_140 : decode cL_law 140 = .ok (.iconst 2, 1) := by decide +kernel
theorem dL_law_141 : decode cL_law 141 = .ok (.iadd, 1) := by decide +kernel
theorem dL_law_142 : decode cL_law 142 = .ok (.iaload, 1) := by decide +kernel
theorem dL_law_143 : decode cL_law 143 = .ok (.aload_n 0, 1) := by decide +kernel
theorem dL_law_144 : decode cL_law 144 = .ok (.iload_n 3, 1) := by decide +kernel
theorem dL_law_145 : decode cL_law 145 = .ok (.iconst 3, 1) := by decide +kernel
theorem dL_law_146 : decode cL_law 146 = .ok (.iadd, 1) := by decide +kernel
theorem dL_law_147 : decode cL_law 147 = .ok (.iaload, 1) := by decide +kernel
theorem dL_law_148 : decode cL_law 148 = .ok (.aload_n 0, 1) := by decide +kernel
theorem dL_law_149 : decode cL_law 149 = .ok (.iload_n 3, 1) := by decide +kernel
theorem dL_law_150 : decode cL_law 150 = .ok (.iconst 4, 1) := by decide +kernel
theorem dL_law_151 : decode cL_law 151 = .ok (.iadd, 1) := by decide +kernel
theorem dL_law_152 : decode cL_law 152 = .ok (.iaload, 1) := by decide +kernel
theorem dL_law_153 : decode cL_law 153 = .ok (.aload_n 0, 1) := by decide +kernel
theorem dL_law_154 : decode cL_law 154 = .ok (.iload_n 3, 1) := by decide +kernel
theorem dL_law_155 : decode cL_law 155 = .ok (.iconst 5, 1) := by decide +kernel
theorem dL_law_156 : decode cL_law 156 = .ok (.iadd, 1) := by decide +kernel
theorem dL_law_157 : decode cL_law 157 = .ok (.iaload, 1) := by decide +kernel
theorem dL_law_158 : decode cL_law 158 = .ok (.invokevirtual 13, 3) := by decide +kernel
theorem dL_law_161 : decode cL_law 161 = .ok (.aload_n 2, 1) := by decide +kernel
theorem dL_law_162 : decode cL_law 162 = .ok (.aload_n 0, 1) := by decide +kernel
theorem dL_law_163 : decode cL_law 163 = .ok (.iload_n 3, 1) := by decide +kernel
theorem dL_law_164 : decode cL_law 164 = .ok (.iconst 1, 1) := by decide +kernel
theorem dL_law_165 : decode cL_law 165 = .ok (.iadd, 1) := by decide +kernel
theorem dL_law_166 : decode cL_law 166 = .ok (.iaload, 1) := by decide +kernel
theorem dL_law_167 : decode cL_law 167 = .ok (.aload_n 0, 1) := by decide +kernel
theorem dL_law_168 : decode cL_law 168 = .ok (.iload_n 3, 1) := by decide +kernel
theorem dL_law_169 : decode cL_law 169 = .ok (.iconst 2, 1) := by decide +kernel
theorem dL_law_170 : decode cL_law 170 = .ok (.iadd, 1) := by decide +kernel
theorem dL_law_171 : decode cL_law 171 = .ok (.iaload, 1) := by decide +kernel
theorem dL_law_172 : decode cL_law 172 = .ok (.aload_n 0, 1) := by decide +kernel
theorem dL_law_173 : decode cL_law 173 = .ok (.iload_n 3, 1) := by decide +kernel
theorem dL_law_174 : decode cL_law 174 = .ok (.iconst 3, 1) := by decide +kernel
theorem dL_law_175 : decode cL_law 175 = .ok (.iadd, 1) := by decide +kernel
theorem dL_law_176 : decode cL_law 176 = .ok (.iaload, 1) := by decide +kernel
theorem dL_law_177 : decode cL_law 177 = .ok (.aload_n 0, 1) := by decide +kernel
theorem dL_law_178 : decode cL_law 178 = .ok (.iload_n 3, 1) := by decide +kernel
theorem dL_law_179 : decode cL_law 179 = .ok (.iconst 4, 1) := by decide +kernel
theorem dL_law_180 : decode cL_law 180 = .ok (.iadd, 1) := by decide +kernel
theorem dL_law_181 : decode cL_law 181 = .ok (.iaload, 1) := by decide +kernel
theorem dL_law_182 : decode cL_law 182 = .ok (.aload_n 0, 1) := by decide +kernel
theorem dL_law_183 : decode cL_law 183 = .ok (.iload_n 3, 1) := by decide +kernel
theorem dL_law_184 : decode cL_law 184 = .ok (.iconst 5, 1) := by decide +kernel
theorem dL_law_185 : decode cL_law 185 = .ok (.iadd, 1) := by decide +kernel
theorem dL_law_186 : decode cL_law 186 = .ok (.iaload, 1) := by decide +kernel
theorem dL_law_187 : decode cL_law 187 = .ok (.invokevirtual 17, 3) := by decide +kernel
theorem dL_law_190 : decode cL_law 190 = .ok (.if_icmp .eq 566, 3) := by decide +kernel
theorem dL_law_193 : decode cL_law 193 = .ok (.iconst 0, 1) := by decide +kernel
theorem dL_law_194 : decode cL_law 194 = .ok (.ireturn, 1) := by decide +kernel
theorem dL_law_195 : decode cL_law 195 = .ok (.aload_n 1, 1) := by decide +kernel
theorem dL_law_196 : decode cL_law 196 = .ok (.invokevirtual 18, 3) := by decide +kernel
theorem dL_law_199 : decode cL_law 199 = .ok (.aload_n 2, 1) := by decide +kernel
theorem dL_law_200 : decode cL_law 200 = .ok (.invokevirtual 22, 3) := by decide +kernel
theorem dL_law_203 : decode cL_law 203 = .ok (.if_icmp .eq 553, 3) := by decide +kernel
theorem dL_law_206 : decode cL_law 206 = .ok (.iconst 0, 1) := by decide +kernel
theorem dL_law_207 : decode cL_law 207 = .ok (.ireturn, 1) := by decide +kernel
theorem dL_law_208 : decode cL_law 208 = .ok (.aload_n 1, 1) := by decide +kernel
theorem dL_law_209 : decode cL_law 209 = .ok (.aload_n 0, 1) := by decide +kernel
theorem dL_law_210 : decode cL_law 210 = .ok (.iload_n 3, 1) := by decide +kernel
theorem dL_law_211 : decode cL_law 211 = .ok (.iconst 1, 1) := by decide +kernel
theorem dL_law_212 : decode cL_law 212 = .ok (.iadd, 1) := by decide +kernel
theorem dL_law_213 : decode cL_law 213 = .ok (.iaload, 1) := by decide +kernel
theorem dL_law_214 : decode cL_law 214 = .ok (.aload_n 0, 1) := by decide +kernel
theorem dL_law_215 : decode cL_law 215 = .ok (.iload_n 3, 1) := by decide +kernel
theorem dL_law_216 : decode cL_law 216 = .ok (.iconst 2, 1) := by decide +kernel
theorem dL_law_217 : decode cL_law 217 = .ok (.iadd, 1) := by decide +kernel
theorem dL_law_218 : decode cL_law 218 = .ok (.iaload, 1) := by decide +kernel
theorem dL_law_219 : decode cL_law 219 = .ok (.aload_n 0, 1) := by decide +kernel
theorem dL_law_220 : decode cL_law 220 = .ok (.iload_n 3, 1) := by decide +kernel
theorem dL_law_221 : decode cL_law 221 = .ok (.iconst 3, 1) := by decide +kernel
theorem dL_law_222 : decode cL_law 222 = .ok (.iadd, 1) := by decide +kernel
theorem dL_law_223 : decode cL_law 223 = .ok (.iaload, 1) := by decide +kernel
theorem dL_law_224 : decode cL_law 224 = .ok (.invokevirtual 23, 3) := by decide +kernel
theorem dL_law_227 : decode cL_law 227 = .ok (.aload_n 2, 1) := by decide +kernel
theorem dL_law_228 : decode cL_law 228 = .ok (.aload_n 0, 1) := by decide +kernel
theorem dL_law_229 : decode cL_law 229 = .ok (.iload_n 3, 1) := by decide +kernel
theorem dL_law_230 : decode cL_law 230 = .ok (.iconst 1, 1) := by decide +kernel
theorem dL_law_231 : decode cL_law 231 = .ok (.iadd, 1) := by decide +kernel
theorem dL_law_232 : decode cL_law 232 = .ok (.iaload, 1) := by decide +kernel
theorem dL_law_233 : decode cL_law 233 = .ok (.aload_n 0, 1) := by decide +kernel
theorem dL_law_234 : decode cL_law 234 = .ok (.iload_n 3, 1) := by decide +kernel
theorem dL_law_235 : decode cL_law 235 = .ok (.iconst 2, 1) := by decide +kernel
theorem dL_law_236 : decode cL_law 236 = .ok (.iadd, 1) := by decide +kernel
theorem dL_law_237 : decode cL_law 237 = .ok (.iaload, 1) := by decide +kernel
theorem dL_law_238 : decode cL_law 238 = .ok (.aload_n 0, 1) := by decide +kernel
theorem dL_law_239 : decode cL_law 239 = .ok (.iload_n 3, 1) := by decide +kernel
theorem dL_law_240 : decode cL_law 240 = .ok (.iconst 3, 1) := by decide +kernel
theorem dL_law_241 : decode cL_law 241 = .ok (.iadd, 1) := by decide +kernel
theorem dL_law_242 : decode cL_law 242 = .ok (.iaload, 1) := by decide +kernel
theorem dL_law_243 : decode cL_law 243 = .ok (.invokevirtual 27, 3) := by decide +kernel
theorem dL_law_246 : decode cL_law 246 = .ok (.if_icmp .eq 510, 3) := by decide +kernel
theorem dL_law_249 : decode cL_law 249 = .ok (.iconst 0, 1) := by decide +kernel
theorem dL_law_250 : decode cL_law 250 = .ok (.ireturn, 1) := by decide +kernel
theorem dL_law_251 : decode cL_law 251 = .ok (.aload_n 1, 1) := by decide +kernel
theorem dL_law_252 : decode cL_law 252 = .ok (.aload_n 0, 1) := by decide +kernel
theorem dL_law_253 : decode cL_law 253 = .ok (.iload_n 3, 1) := by decide +kernel
theorem dL_law_254 : decode cL_law 254 = .ok (.iconst 1, 1) := by decide +kernel
theorem dL_law_255 : decode cL_law 255 = .ok (.iadd, 1) := by decide +kernel
theorem dL_law_256 : decode cL_law 256 = .ok (.iaload, 1) := by decide +kernel
theorem dL_law_257 : decode cL_law 257 = .ok (.aload_n 0, 1) := by decide +kernel
theorem dL_law_258 : decode cL_law 258 = .ok (.iload_n 3, 1) := by decide +kernel
theorem dL_law_259 : decode cL_law 259 = .ok (.iconst 2, 1) := by decide +kernel
theorem dL_law_260 : decode cL_law 260 = .ok (.iadd, 1) := by decide +kernel
theorem dL_law_261 : decode cL_law 261 = .ok (.iaload, 1) := by decide +kernel
theorem dL_law_262 : decode cL_law 262 = .ok (.aload_n 0, 1) := by decide +kernel
theorem dL_law_263 : decode cL_law 263 = .ok (.iload_n 3, 1) := by decide +kernel
theorem dL_law_264 : decode cL_law 264 = .ok (.iconst 3, 1) := by decide +kernel
theorem dL_law_265 : decode cL_law 265 = .ok (.iadd, 1) := by decide +kernel
theorem dL_law_266 : decode cL_law 266 = .ok (.iaload, 1) := by decide +kernel
theorem dL_law_267 : decode cL_law 267 = .ok (.invokevirtual 28, 3) := by decide +kernel
theorem dL_law_270 : decode cL_law 270 = .ok (.aload_n 2, 1) := by decide +kernel
theorem dL_law_271 : decode cL_law 271 = .ok (.aload_n 0, 1) := by decide +kernel
theorem dL_law_272 : decode cL_law 272 = .ok (.iload_n 3, 1) := by decide +kernel
theorem dL_law_273 : decode cL_law 273 = .ok (.iconst 1, 1) := by decide +kernel
theorem dL_law_274 : decode cL_law 274 = .ok (.iadd, 1) := by decide +kernel
theorem dL_law_275 : decode cL_law 275 = .ok (.iaload, 1) := by decide +kernel
theorem dL_law_276 : decode cL_law 276 = .ok (.aload_n 0, 1) := by decide +kernel
theorem dL_law_277 : decode cL_law 277 = .ok (.iload_n 3, 1) := by decide +kernel
theorem dL_law_278 : decode cL_law 278 = .ok (.iconst 2, 1) := by decide +kernel
theorem dL_law_279 : decode cL_law 279 = .ok (.iadd, 1) := by decide +kernel
theorem dL_law_280 : decode cL_law 280 = .ok (.iaload, 1) := by decide +kernel
theorem dL_law_281 : decode cL_law 281 = .ok (.aload_n 0, 1) := by decide +kernel
theorem dL_law_282 : decode cL_law 282 = .ok (.iload_n 3, 1) := by decide +kernel
theorem dL_law_283 : decode cL_law 283 = .ok (.iconst 3, 1) := by decide +kernel
theorem dL_law_284 : decode cL_law 284 = .ok (.iadd, 1) := by decide +kernel
theorem dL_law_285 : decode cL_law 285 = .ok (.iaload, 1) := by decide +kernel
theorem dL_law_286 : decode cL_law 286 = .ok (.invokevirtual 31, 3) := by decide +kernel
theorem dL_law_289 : decode cL_law 289 = .ok (.if_icmp .eq 467, 3) := by decide +kernel
theorem dL_law_292 : decode cL_law 292 = .ok (.iconst 0, 1) := by decide +kernel
theorem dL_law_293 : decode cL_law 293 = .ok (.ireturn, 1) := by decide +kernel
theorem dL_law_294 : decode cL_law 294 = .ok (.aload_n 1, 1) := by decide +kernel
theorem dL_law_295 : decode cL_law 295 = .ok (.aload_n 0, 1) := by decide +kernel
theorem dL_law_296 : decode cL_law 296 = .ok (.iload_n 3, 1) := by decide +kernel
theorem dL_law_297 : decode cL_law 297 = .ok (.iconst 1, 1) := by decide +kernel
theorem dL_law_298 : decode cL_law 298 = .ok (.iadd, 1) := by decide +kernel
theorem dL_law_299 : decode cL_law 299 = .ok (.iaload, 1) := by decide +kernel
theorem dL_law_300 : decode cL_law 300 = .ok (.aload_n 0, 1) := by decide +kernel
theorem dL_law_301 : decode cL_law 301 = .ok (.iload_n 3, 1) := by decide +kernel
theorem dL_law_302 : decode cL_law 302 = .ok (.iconst 2, 1) := by decide +kernel
theorem dL_law_303 : decode cL_law 303 = .ok (.iadd, 1) := by decide +kernel
theorem dL_law_304 : decode cL_law 304 = .ok (.iaload, 1) := by decide +kernel
theorem dL_law_305 : decode cL_law 305 = .ok (.ifCond .eq 7, 3) := by decide +kernel
theorem dL_law_308 : decode cL_law 308 = .ok (.iconst 1, 1) := by decide +kernel
theorem dL_law_309 : decode cL_law 309 = .ok (.goto 4, 3) := by decide +kernel
theorem dL_law_312 : decode cL_law 312 = .ok (.iconst 0, 1) := by decide +kernel
theorem dL_law_313 : decode cL_law 313 = .ok (.invokevirtual 32, 3) := by decide +kernel
theorem dL_law_316 : decode cL_law 316 = .ok (.aload_n 2, 1) := by decide +kernel
theorem dL_law_317 : decode cL_law 317 = .ok (.aload_n 0, 1) := by decide +kernel
theorem dL_law_318 : decode cL_law 318 = .ok (.iload_n 3, 1) := by decide +kernel
theorem dL_law_319 : decode cL_law 319 = .ok (.iconst 1, 1) := by decide +kernel
theorem dL_law_320 : decode cL_law 320 = .ok (.iadd, 1) := by decide +kernel
theorem dL_law_321 : decode cL_law 321 = .ok (.iaload, 1) := by decide +kernel
theorem dL_law_322 : decode cL_law 322 = .ok (.aload_n 0, 1) := by decide +kernel
theorem dL_law_323 : decode cL_law 323 = .ok (.iload_n 3, 1) := by decide +kernel
theorem dL_law_324 : decode cL_law 324 = .ok (.iconst 2, 1) := by decide +kernel
theorem dL_law_325 : decode cL_law 325 = .ok (.iadd, 1) := by decide +kernel
theorem dL_law_326 : decode cL_law 326 = .ok (.iaload, 1) := by decide +kernel
theorem dL_law_327 : decode cL_law 327 = .ok (.ifCond .eq 7, 3) := by decide +kernel
theorem dL_law_330 : decode cL_law 330 = .ok (.iconst 1, 1) := by decide +kernel
theorem dL_law_331 : decode cL_law 331 = .ok (.goto 4, 3) := by decide +kernel
theorem dL_law_334 : decode cL_law 334 = .ok (.iconst 0, 1) := by decide +kernel
theorem dL_law_335 : decode cL_law 335 = .ok (.invokevirtual 36, 3) := by decide +kernel
theorem dL_law_338 : decode cL_law 338 = .ok (.if_icmp .eq 418, 3) := by decide +kernel
theorem dL_law_341 : decode cL_law 341 = .ok (.iconst 0, 1) := by decide +kernel
theorem dL_law_342 : decode cL_law 342 = .ok (.ireturn, 1) := by decide +kernel
theorem dL_law_343 : decode cL_law 343 = .ok (.aload_n 1, 1) := by decide +kernel
theorem dL_law_344 : decode cL_law 344 = .ok (.aload_n 0, 1) := by decide +kernel
theorem dL_law_345 : decode cL_law 345 = .ok (.iload_n 3, 1) := by decide +kernel
theorem dL_law_346 : decode cL_law 346 = .ok (.iconst 1, 1) := by decide +kernel
theorem dL_law_347 : decode cL_law 347 = .ok (.iadd, 1) := by decide +kernel
theorem dL_law_348 : decode cL_law 348 = .ok (.iaload, 1) := by decide +kernel
theorem dL_law_349 : decode cL_law 349 = .ok (.invokevirtual 37, 3) := by decide +kernel
theorem dL_law_352 : decode cL_law 352 = .ok (.aload_n 2, 1) := by decide +kernel
theorem dL_law_353 : decode cL_law 353 = .ok (.aload_n 0, 1) := by decide +kernel
theorem dL_law_354 : decode cL_law 354 = .ok (.iload_n 3, 1) := by decide +kernel
theorem dL_law_355 : decode cL_law 355 = .ok (.iconst 1, 1) := by decide +kernel
theorem dL_law_356 : decode cL_law 356 = .ok (.iadd, 1) := by decide +kernel
theorem dL_law_357 : decode cL_law 357 = .ok (.iaload, 1) := by decide +kernel
theorem dL_law_358 : decode cL_law 358 = .ok (.invokevirtual 41, 3) := by decide +kernel
theorem dL_law_361 : decode cL_law 361 = .ok (.if_icmp .eq 395, 3) := by decide +kernel
theorem dL_law_364 : decode cL_law 364 = .ok (.iconst 0, 1) := by decide +kernel
theorem dL_law_365 : decode cL_law 365 = .ok (.ireturn, 1) := by decide +kernel
theorem dL_law_366 : decode cL_law 366 = .ok (.aload_n 1, 1) := by decide +kernel
theorem dL_law_367 : decode cL_law 367 = .ok (.aload_n 0, 1) := by decide +kernel
theorem dL_law_368 : decode cL_law 368 = .ok (.iload_n 3, 1) := by decide +kernel
theorem dL_law_369 : decode cL_law 369 = .ok (.iconst 1, 1) := by decide +kernel
theorem dL_law_370 : decode cL_law 370 = .ok (.iadd, 1) := by decide +kernel
theorem dL_law_371 : decode cL_law 371 = .ok (.iaload, 1) := by decide +kernel
theorem dL_law_372 : decode cL_law 372 = .ok (.aload_n 0, 1) := by decide +kernel
theorem dL_law_373 : decode cL_law 373 = .ok (.iload_n 3, 1) := by decide +kernel
theorem dL_law_374 : decode cL_law 374 = .ok (.iconst 2, 1) := by decide +kernel
theorem dL_law_375 : decode cL_law 375 = .ok (.iadd, 1) := by decide +kernel
theorem dL_law_376 : decode cL_law 376 = .ok (.iaload, 1) := by decide +kernel
theorem dL_law_377 : decode cL_law 377 = .ok (.ifCond .eq 7, 3) := by decide +kernel
theorem dL_law_380 : decode cL_law 380 = .ok (.iconst 1, 1) := by decide +kernel
theorem dL_law_381 : decode cL_law 381 = .ok (.goto 4, 3) := by decide +kernel
theorem dL_law_384 : decode cL_law 384 = .ok (.iconst 0, 1) := by decide +kernel
theorem dL_law_385 : decode cL_law 385 = .ok (.invokevirtual 42, 3) := by decide +kernel
theorem dL_law_388 : decode cL_law 388 = .ok (.aload_n 2, 1) := by decide +kernel
theorem dL_law_389 : decode cL_law 389 = .ok (.aload_n 0, 1) := by decide +kernel
theorem dL_law_390 : decode cL_law 390 = .ok (.iload_n 3, 1) := by decide +kernel
theorem dL_law_391 : decode cL_law 391 = .ok (.iconst 1, 1) := by decide +kernel
theorem dL_law_392 : decode cL_law 392 = .ok (.iadd, 1) := by decide +kernel
theorem dL_law_393 : decode cL_law 393 = .ok (.iaload, 1) := by decide +kernel
theorem dL_law_394 : decode cL_law 394 = .ok (.aload_n 0, 1) := by decide +kernel
theorem dL_law_395 : decode cL_law 395 = .ok (.iload_n 3, 1) := by decide +kernel
theorem dL_law_396 : decode cL_law 396 = .ok (.iconst 2, 1) := by decide +kernel
theorem dL_law_397 : decode cL_law 397 = .ok (.iadd, 1) := by decide +kernel
theorem dL_law_398 : decode cL_law 398 = .ok (.iaload, 1) := by decide +kernel
theorem dL_law_399 : decode cL_law 399 = .ok (.ifCond .eq 7, 3) := by decide +kernel
theorem dL_law_402 : decode cL_law 402 = .ok (.iconst 1, 1) := by decide +kernel
theorem dL_law_403 : decode cL_law 403 = .ok (.goto 4, 3) := by decide +kernel
theorem dL_law_406 : decode cL_law 406 = .ok (.iconst 0, 1) := by decide +kernel
theorem dL_law_407 : decode cL_law 407 = .ok (.invokevirtual 45, 3) := by decide +kernel
theorem dL_law_410 : decode cL_law 410 = .ok (.if_icmp .eq 346, 3) := by decide +kernel
theorem dL_law_413 : decode cL_law 413 = .ok (.iconst 0, 1) := by decide +kernel
theorem dL_law_414 : decode cL_law 414 = .ok (.ireturn, 1) := by decide +kernel
theorem dL_law_415 : decode cL_law 415 = .ok (.aload_n 1, 1) := by decide +kernel
theorem dL_law_416 : decode cL_law 416 = .ok (.invokevirtual 46, 3) := by decide +kernel
theorem dL_law_419 : decode cL_law 419 = .ok (.aload_n 2, 1) := by decide +kernel
theorem dL_law_420 : decode cL_law 420 = .ok (.invokevirtual 49, 3) := by decide +kernel
theorem dL_law_423 : decode cL_law 423 = .ok (.if_icmp .eq 333, 3) := by decide +kernel
theorem dL_law_426 : decode cL_law 426 = .ok (.iconst 0, 1) := by decide +kernel
theorem dL_law_427 : decode cL_law 427 = .ok (.ireturn, 1) := by decide +kernel
theorem dL_law_428 : decode cL_law 428 = .ok (.aload_n 1, 1) := by decide +kernel
theorem dL_law_429 : decode cL_law 429 = .ok (.aload_n 0, 1) := by decide +kernel
theorem dL_law_430 : decode cL_law 430 = .ok (.iload_n 3, 1) := by decide +kernel
theorem dL_law_431 : decode cL_law 431 = .ok (.iconst 1, 1) := by decide +kernel
theorem dL_law_432 : decode cL_law 432 = .ok (.iadd, 1) := by decide +kernel
theorem dL_law_433 : decode cL_law 433 = .ok (.iaload, 1) := by decide +kernel
theorem dL_law_434 : decode cL_law 434 = .ok (.invokevirtual 50, 3) := by decide +kernel
theorem dL_law_437 : decode cL_law 437 = .ok (.aload_n 2, 1) := by decide +kernel
theorem dL_law_438 : decode cL_law 438 = .ok (.aload_n 0, 1) := by decide +kernel
theorem dL_law_439 : decode cL_law 439 = .ok (.iload_n 3, 1) := by decide +kernel
theorem dL_law_440 : decode cL_law 440 = .ok (.iconst 1, 1) := by decide +kernel
theorem dL_law_441 : decode cL_law 441 = .ok (.iadd, 1) := by decide +kernel
theorem dL_law_442 : decode cL_law 442 = .ok (.iaload, 1) := by decide +kernel
theorem dL_law_443 : decode cL_law 443 = .ok (.invokevirtual 54, 3) := by decide +kernel
theorem dL_law_446 : decode cL_law 446 = .ok (.lcmp, 1) := by decide +kernel
theorem dL_law_447 : decode cL_law 447 = .ok (.ifCond .eq 309, 3) := by decide +kernel
theorem dL_law_450 : decode cL_law 450 = .ok (.iconst 0, 1) := by decide +kernel
theorem dL_law_451 : decode cL_law 451 = .ok (.ireturn, 1) := by decide +kernel
theorem dL_law_452 : decode cL_law 452 = .ok (.aload_n 1, 1) := by decide +kernel
theorem dL_law_453 : decode cL_law 453 = .ok (.aload_n 0, 1) := by decide +kernel
theorem dL_law_454 : decode cL_law 454 = .ok (.iload_n 3, 1) := by decide +kernel
theorem dL_law_455 : decode cL_law 455 = .ok (.iconst 1, 1) := by decide +kernel
theorem dL_law_456 : decode cL_law 456 = .ok (.iadd, 1) := by decide +kernel
theorem dL_law_457 : decode cL_law 457 = .ok (.iaload, 1) := by decide +kernel
theorem dL_law_458 : decode cL_law 458 = .ok (.aload_n 0, 1) := by decide +kernel
theorem dL_law_459 : decode cL_law 459 = .ok (.iload_n 3, 1) := by decide +kernel
theorem dL_law_460 : decode cL_law 460 = .ok (.iconst 2, 1) := by decide +kernel
theorem dL_law_461 : decode cL_law 461 = .ok (.iadd, 1) := by decide +kernel
theorem dL_law_462 : decode cL_law 462 = .ok (.iaload, 1) := by decide +kernel
theorem dL_law_463 : decode cL_law 463 = .ok (.invokevirtual 55, 3) := by decide +kernel
theorem dL_law_466 : decode cL_law 466 = .ok (.aload_n 2, 1) := by decide +kernel
theorem dL_law_467 : decode cL_law 467 = .ok (.aload_n 0, 1) := by decide +kernel
theorem dL_law_468 : decode cL_law 468 = .ok (.iload_n 3, 1) := by decide +kernel
theorem dL_law_469 : decode cL_law 469 = .ok (.iconst 1, 1) := by decide +kernel
theorem dL_law_470 : decode cL_law 470 = .ok (.iadd, 1) := by decide +kernel
theorem dL_law_471 : decode cL_law 471 = .ok (.iaload, 1) := by decide +kernel
theorem dL_law_472 : decode cL_law 472 = .ok (.aload_n 0, 1) := by decide +kernel
theorem dL_law_473 : decode cL_law 473 = .ok (.iload_n 3, 1) := by decide +kernel
theorem dL_law_474 : decode cL_law 474 = .ok (.iconst 2, 1) := by decide +kernel
theorem dL_law_475 : decode cL_law 475 = .ok (.iadd, 1) := by decide +kernel
theorem dL_law_476 : decode cL_law 476 = .ok (.iaload, 1) := by decide +kernel
theorem dL_law_477 : decode cL_law 477 = .ok (.invokevirtual 59, 3) := by decide +kernel
theorem dL_law_480 : decode cL_law 480 = .ok (.if_icmp .eq 276, 3) := by decide +kernel
theorem dL_law_483 : decode cL_law 483 = .ok (.iconst 0, 1) := by decide +kernel
theorem dL_law_484 : decode cL_law 484 = .ok (.ireturn, 1) := by decide +kernel
theorem dL_law_485 : decode cL_law 485 = .ok (.aload_n 1, 1) := by decide +kernel
theorem dL_law_486 : decode cL_law 486 = .ok (.aload_n 0, 1) := by decide +kernel
theorem dL_law_487 : decode cL_law 487 = .ok (.iload_n 3, 1) := by decide +kernel
theorem dL_law_488 : decode cL_law 488 = .ok (.iconst 1, 1) := by decide +kernel
theorem dL_law_489 : decode cL_law 489 = .ok (.iadd, 1) := by decide +kernel
theorem dL_law_490 : decode cL_law 490 = .ok (.iaload, 1) := by decide +kernel
theorem dL_law_491 : decode cL_law 491 = .ok (.aload_n 0, 1) := by decide +kernel
theorem dL_law_492 : decode cL_law 492 = .ok (.iload_n 3, 1) := by decide +kernel
theorem dL_law_493 : decode cL_law 493 = .ok (.iconst 2, 1) := by decide +kernel
theorem dL_law_494 : decode cL_law 494 = .ok (.iadd, 1) := by decide +kernel
theorem dL_law_495 : decode cL_law 495 = .ok (.iaload, 1) := by decide +kernel
theorem dL_law_496 : decode cL_law 496 = .ok (.ifCond .eq 7, 3) := by decide +kernel
theorem dL_law_499 : decode cL_law 499 = .ok (.iconst 1, 1) := by decide +kernel
theorem dL_law_500 : decode cL_law 500 = .ok (.goto 4, 3) := by decide +kernel
theorem dL_law_503 : decode cL_law 503 = .ok (.iconst 0, 1) := by decide +kernel
theorem dL_law_504 : decode cL_law 504 = .ok (.invokevirtual 60, 3) := by decide +kernel
theorem dL_law_507 : decode cL_law 507 = .ok (.aload_n 2, 1) := by decide +kernel
theorem dL_law_508 : decode cL_law 508 = .ok (.aload_n 0, 1) := by decide +kernel
theorem dL_law_509 : decode cL_law 509 = .ok (.iload_n 3, 1) := by decide +kernel
theorem dL_law_510 : decode cL_law 510 = .ok (.iconst 1, 1) := by decide +kernel
theorem dL_law_511 : decode cL_law 511 = .ok (.iadd, 1) := by decide +kernel
theorem dL_law_512 : decode cL_law 512 = .ok (.iaload, 1) := by decide +kernel
theorem dL_law_513 : decode cL_law 513 = .ok (.aload_n 0, 1) := by decide +kernel
theorem dL_law_514 : decode cL_law 514 = .ok (.iload_n 3, 1) := by decide +kernel
theorem dL_law_515 : decode cL_law 515 = .ok (.iconst 2, 1) := by decide +kernel
theorem dL_law_516 : decode cL_law 516 = .ok (.iadd, 1) := by decide +kernel
theorem dL_law_517 : decode cL_law 517 = .ok (.iaload, 1) := by decide +kernel
theorem dL_law_518 : decode cL_law 518 = .ok (.ifCond .eq 7, 3) := by decide +kernel
theorem dL_law_521 : decode cL_law 521 = .ok (.iconst 1, 1) := by decide +kernel
theorem dL_law_522 : decode cL_law 522 = .ok (.goto 4, 3) := by decide +kernel
theorem dL_law_525 : decode cL_law 525 = .ok (.iconst 0, 1) := by decide +kernel
theorem dL_law_526 : decode cL_law 526 = .ok (.invokevirtual 63, 3) := by decide +kernel
theorem dL_law_529 : decode cL_law 529 = .ok (.if_icmp .eq 227, 3) := by decide +kernel
theorem dL_law_532 : decode cL_law 532 = .ok (.iconst 0, 1) := by decide +kernel
theorem dL_law_533 : decode cL_law 533 = .ok (.ireturn, 1) := by decide +kernel
theorem dL_law_534 : decode cL_law 534 = .ok (.aload_n 1, 1) := by decide +kernel
theorem dL_law_535 : decode cL_law 535 = .ok (.aload_n 0, 1) := by decide +kernel
theorem dL_law_536 : decode cL_law 536 = .ok (.iload_n 3, 1) := by decide +kernel
theorem dL_law_537 : decode cL_law 537 = .ok (.iconst 1, 1) := by decide +kernel
theorem dL_law_538 : decode cL_law 538 = .ok (.iadd, 1) := by decide +kernel
theorem dL_law_539 : decode cL_law 539 = .ok (.iaload, 1) := by decide +kernel
theorem dL_law_540 : decode cL_law 540 = .ok (.aload_n 0, 1) := by decide +kernel
theorem dL_law_541 : decode cL_law 541 = .ok (.iload_n 3, 1) := by decide +kernel
theorem dL_law_542 : decode cL_law 542 = .ok (.iconst 2, 1) := by decide +kernel
theorem dL_law_543 : decode cL_law 543 = .ok (.iadd, 1) := by decide +kernel
theorem dL_law_544 : decode cL_law 544 = .ok (.iaload, 1) := by decide +kernel
theorem dL_law_545 : decode cL_law 545 = .ok (.ifCond .eq 7, 3) := by decide +kernel
theorem dL_law_548 : decode cL_law 548 = .ok (.iconst 1, 1) := by decide +kernel
theorem dL_law_549 : decode cL_law 549 = .ok (.goto 4, 3) := by decide +kernel
theorem dL_law_552 : decode cL_law 552 = .ok (.iconst 0, 1) := by decide +kernel
theorem dL_law_553 : decode cL_law 553 = .ok (.invokevirtual 64, 3) := by decide +kernel
theorem dL_law_556 : decode cL_law 556 = .ok (.aload_n 2, 1) := by decide +kernel
theorem dL_law_557 : decode cL_law 557 = .ok (.aload_n 0, 1) := by decide +kernel
theorem dL_law_558 : decode cL_law 558 = .ok (.iload_n 3, 1) := by decide +kernel
theorem dL_law_559 : decode cL_law 559 = .ok (.iconst 1, 1) := by decide +kernel
theorem dL_law_560 : decode cL_law 560 = .ok (.iadd, 1) := by decide +kernel
theorem dL_law_561 : decode cL_law 561 = .ok (.iaload, 1) := by decide +kernel
theorem dL_law_562 : decode cL_law 562 = .ok (.aload_n 0, 1) := by decide +kernel
theorem dL_law_563 : decode cL_law 563 = .ok (.iload_n 3, 1) := by decide +kernel
theorem dL_law_564 : decode cL_law 564 = .ok (.iconst 2, 1) := by decide +kernel
theorem dL_law_565 : decode cL_law 565 = .ok (.iadd, 1) := by decide +kernel
theorem dL_law_566 : decode cL_law 566 = .ok (.iaload, 1) := by decide +kernel
theorem dL_law_567 : decode cL_law 567 = .ok (.ifCond .eq 7, 3) := by decide +kernel
theorem dL_law_570 : decode cL_law 570 = .ok (.iconst 1, 1) := by decide +kernel
theorem dL_law_571 : decode cL_law 571 = .ok (.goto 4, 3) := by decide +kernel
theorem dL_law_574 : decode cL_law 574 = .ok (.iconst 0, 1) := by decide +kernel
theorem dL_law_575 : decode cL_law 575 = .ok (.invokevirtual 67, 3) := by decide +kernel
theorem dL_law_578 : decode cL_law 578 = .ok (.if_icmp .eq 178, 3) := by decide +kernel
theorem dL_law_581 : decode cL_law 581 = .ok (.iconst 0, 1) := by decide +kernel
theorem dL_law_582 : decode cL_law 582 = .ok (.ireturn, 1) := by decide +kernel
theorem dL_law_583 : decode cL_law 583 = .ok (.aload_n 1, 1) := by decide +kernel
theorem dL_law_584 : decode cL_law 584 = .ok (.invokevirtual 68, 3) := by decide +kernel
theorem dL_law_587 : decode cL_law 587 = .ok (.aload_n 2, 1) := by decide +kernel
theorem dL_law_588 : decode cL_law 588 = .ok (.invokevirtual 71, 3) := by decide +kernel
theorem dL_law_591 : decode cL_law 591 = .ok (.if_icmp .eq 165, 3) := by decide +kernel
theorem dL_law_594 : decode cL_law 594 = .ok (.iconst 0, 1) := by decide +kernel
theorem dL_law_595 : decode cL_law 595 = .ok (.ireturn, 1) := by decide +kernel
theorem dL_law_596 : decode cL_law 596 = .ok (.aload_n 1, 1) := by decide +kernel
theorem dL_law_597 : decode cL_law 597 = .ok (.invokevirtual 72, 3) := by decide +kernel
theorem dL_law_600 : decode cL_law 600 = .ok (.aload_n 2, 1) := by decide +kernel
theorem dL_law_601 : decode cL_law 601 = .ok (.invokevirtual 75, 3) := by decide +kernel
theorem dL_law_604 : decode cL_law 604 = .ok (.if_icmp .eq 152, 3) := by decide +kernel
theorem dL_law_607 : decode cL_law 607 = .ok (.iconst 0, 1) := by decide +kernel
theorem dL_law_608 : decode cL_law 608 = .ok (.ireturn, 1) := by decide +kernel
theorem dL_law_609 : decode cL_law 609 = .ok (.aload_n 1, 1) := by decide +kernel
theorem dL_law_610 : decode cL_law 610 = .ok (.invokevirtual 76, 3) := by decide +kernel
theorem dL_law_613 : decode cL_law 613 = .ok (.aload_n 2, 1) := by decide +kernel
theorem dL_law_614 : decode cL_law 614 = .ok (.invokevirtual 79, 3) := by decide +kernel
theorem dL_law_617 : decode cL_law 617 = .ok (.if_icmp .eq 139, 3) := by decide +kernel
theorem dL_law_620 : decode cL_law 620 = .ok (.iconst 0, 1) := by decide +kernel
theorem dL_law_621 : decode cL_law 621 = .ok (.ireturn, 1) := by decide +kernel
theorem dL_law_622 : decode cL_law 622 = .ok (.aload_n 1, 1) := by decide +kernel
theorem dL_law_623 : decode cL_law 623 = .ok (.invokevirtual 80, 3) := by decide +kernel
theorem dL_law_626 : decode cL_law 626 = .ok (.aload_n 2, 1) := by decide +kernel
theorem dL_law_627 : decode cL_law 627 = .ok (.invokevirtual 83, 3) := by decide +kernel
theorem dL_law_630 : decode cL_law 630 = .ok (.if_icmp .eq 126, 3) := by decide +kernel
theorem dL_law_633 : decode cL_law 633 = .ok (.iconst 0, 1) := by decide +kernel
theorem dL_law_634 : decode cL_law 634 = .ok (.ireturn, 1) := by decide +kernel
theorem dL_law_635 : decode cL_law 635 = .ok (.aload_n 1, 1) := by decide +kernel
theorem dL_law_636 : decode cL_law 636 = .ok (.aload_n 0, 1) := by decide +kernel
theorem dL_law_637 : decode cL_law 637 = .ok (.iload_n 3, 1) := by decide +kernel
theorem dL_law_638 : decode cL_law 638 = .ok (.iconst 1, 1) := by decide +kernel
theorem dL_law_639 : decode cL_law 639 = .ok (.iadd, 1) := by decide +kernel
theorem dL_law_640 : decode cL_law 640 = .ok (.iaload, 1) := by decide +kernel
theorem dL_law_641 : decode cL_law 641 = .ok (.invokevirtual 84, 3) := by decide +kernel
theorem dL_law_644 : decode cL_law 644 = .ok (.aload_n 2, 1) := by decide +kernel
theorem dL_law_645 : decode cL_law 645 = .ok (.aload_n 0, 1) := by decide +kernel
theorem dL_law_646 : decode cL_law 646 = .ok (.iload_n 3, 1) := by decide +kernel
theorem dL_law_647 : decode cL_law 647 = .ok (.iconst 1, 1) := by decide +kernel
theorem dL_law_648 : decode cL_law 648 = .ok (.iadd, 1) := by decide +kernel
theorem dL_law_649 : decode cL_law 649 = .ok (.iaload, 1) := by decide +kernel
theorem dL_law_650 : decode cL_law 650 = .ok (.invokevirtual 87, 3) := by decide +kernel
theorem dL_law_653 : decode cL_law 653 = .ok (.if_icmp .eq 103, 3) := by decide +kernel
theorem dL_law_656 : decode cL_law 656 = .ok (.iconst 0, 1) := by decide +kernel
theorem dL_law_657 : decode cL_law 657 = .ok (.ireturn, 1) := by decide +kernel
theorem dL_law_658 : decode cL_law 658 = .ok (.aload_n 1, 1) := by decide +kernel
theorem dL_law_659 : decode cL_law 659 = .ok (.invokevirtual 88, 3) := by decide +kernel
theorem dL_law_662 : decode cL_law 662 = .ok (.aload_n 2, 1) := by decide +kernel
theorem dL_law_663 : decode cL_law 663 = .ok (.invokevirtual 91, 3) := by decide +kernel
theorem dL_law_666 : decode cL_law 666 = .ok (.if_icmp .eq 90, 3) := by decide +kernel
theorem dL_law_669 : decode cL_law 669 = .ok (.iconst 0, 1) := by decide +kernel
theorem dL_law_670 : decode cL_law 670 = .ok (.ireturn, 1) := by decide +kernel
theorem dL_law_671 : decode cL_law 671 = .ok (.aload_n 1, 1) := by decide +kernel
theorem dL_law_672 : decode cL_law 672 = .ok (.invokevirtual 92, 3) := by decide +kernel
theorem dL_law_675 : decode cL_law 675 = .ok (.aload_n 2, 1) := by decide +kernel
theorem dL_law_676 : decode cL_law 676 = .ok (.invokevirtual 96, 3) := by decide +kernel
theorem dL_law_679 : decode cL_law 679 = .ok (.if_icmp .eq 77, 3) := by decide +kernel
theorem dL_law_682 : decode cL_law 682 = .ok (.iconst 0, 1) := by decide +kernel
theorem dL_law_683 : decode cL_law 683 = .ok (.ireturn, 1) := by decide +kernel
theorem dL_law_684 : decode cL_law 684 = .ok (.aload_n 1, 1) := by decide +kernel
theorem dL_law_685 : decode cL_law 685 = .ok (.aload_n 0, 1) := by decide +kernel
theorem dL_law_686 : decode cL_law 686 = .ok (.iload_n 3, 1) := by decide +kernel
theorem dL_law_687 : decode cL_law 687 = .ok (.iconst 1, 1) := by decide +kernel
theorem dL_law_688 : decode cL_law 688 = .ok (.iadd, 1) := by decide +kernel
theorem dL_law_689 : decode cL_law 689 = .ok (.iaload, 1) := by decide +kernel
theorem dL_law_690 : decode cL_law 690 = .ok (.invokevirtual 97, 3) := by decide +kernel
theorem dL_law_693 : decode cL_law 693 = .ok (.aload_n 2, 1) := by decide +kernel
theorem dL_law_694 : decode cL_law 694 = .ok (.aload_n 0, 1) := by decide +kernel
theorem dL_law_695 : decode cL_law 695 = .ok (.iload_n 3, 1) := by decide +kernel
theorem dL_law_696 : decode cL_law 696 = .ok (.iconst 1, 1) := by decide +kernel
theorem dL_law_697 : decode cL_law 697 = .ok (.iadd, 1) := by decide +kernel
theorem dL_law_698 : decode cL_law 698 = .ok (.iaload, 1) := by decide +kernel
theorem dL_law_699 : decode cL_law 699 = .ok (.invokevirtual 100, 3) := by decide +kernel
theorem dL_law_702 : decode cL_law 702 = .ok (.if_icmp .eq 54, 3) := by decide +kernel
theorem dL_law_705 : decode cL_law 705 = .ok (.iconst 0, 1) := by decide +kernel
theorem dL_law_706 : decode cL_law 706 = .ok (.ireturn, 1) := by decide +kernel
theorem dL_law_707 : decode cL_law 707 = .ok (.aload_n 1, 1) := by decide +kernel
theorem dL_law_708 : decode cL_law 708 = .ok (.aload_n 0, 1) := by decide +kernel
theorem dL_law_709 : decode cL_law 709 = .ok (.iload_n 3, 1) := by decide +kernel
theorem dL_law_710 : decode cL_law 710 = .ok (.iconst 1, 1) := by decide +kernel
theorem dL_law_711 : decode cL_law 711 = .ok (.iadd, 1) := by decide +kernel
theorem dL_law_712 : decode cL_law 712 = .ok (.iaload, 1) := by decide +kernel
theorem dL_law_713 : decode cL_law 713 = .ok (.aload_n 0, 1) := by decide +kernel
theorem dL_law_714 : decode cL_law 714 = .ok (.iload_n 3, 1) := by decide +kernel
theorem dL_law_715 : decode cL_law 715 = .ok (.iconst 2, 1) := by decide +kernel
theorem dL_law_716 : decode cL_law 716 = .ok (.iadd, 1) := by decide +kernel
theorem dL_law_717 : decode cL_law 717 = .ok (.iaload, 1) := by decide +kernel
theorem dL_law_718 : decode cL_law 718 = .ok (.ifCond .eq 7, 3) := by decide +kernel
theorem dL_law_721 : decode cL_law 721 = .ok (.iconst 1, 1) := by decide +kernel
theorem dL_law_722 : decode cL_law 722 = .ok (.goto 4, 3) := by decide +kernel
theorem dL_law_725 : decode cL_law 725 = .ok (.iconst 0, 1) := by decide +kernel
theorem dL_law_726 : decode cL_law 726 = .ok (.invokevirtual 101, 3) := by decide +kernel
theorem dL_law_729 : decode cL_law 729 = .ok (.aload_n 2, 1) := by decide +kernel
theorem dL_law_730 : decode cL_law 730 = .ok (.aload_n 0, 1) := by decide +kernel
theorem dL_law_731 : decode cL_law 731 = .ok (.iload_n 3, 1) := by decide +kernel
theorem dL_law_732 : decode cL_law 732 = .ok (.iconst 1, 1) := by decide +kernel
theorem dL_law_733 : decode cL_law 733 = .ok (.iadd, 1) := by decide +kernel
theorem dL_law_734 : decode cL_law 734 = .ok (.iaload, 1) := by decide +kernel
theorem dL_law_735 : decode cL_law 735 = .ok (.aload_n 0, 1) := by decide +kernel
theorem dL_law_736 : decode cL_law 736 = .ok (.iload_n 3, 1) := by decide +kernel
theorem dL_law_737 : decode cL_law 737 = .ok (.iconst 2, 1) := by decide +kernel
theorem dL_law_738 : decode cL_law 738 = .ok (.iadd, 1) := by decide +kernel
theorem dL_law_739 : decode cL_law 739 = .ok (.iaload, 1) := by decide +kernel
theorem dL_law_740 : decode cL_law 740 = .ok (.ifCond .eq 7, 3) := by decide +kernel
theorem dL_law_743 : decode cL_law 743 = .ok (.iconst 1, 1) := by decide +kernel
theorem dL_law_744 : decode cL_law 744 = .ok (.goto 4, 3) := by decide +kernel
theorem dL_law_747 : decode cL_law 747 = .ok (.iconst 0, 1) := by decide +kernel
theorem dL_law_748 : decode cL_law 748 = .ok (.invokevirtual 104, 3) := by decide +kernel
theorem dL_law_751 : decode cL_law 751 = .ok (.if_icmp .eq 5, 3) := by decide +kernel
theorem dL_law_754 : decode cL_law 754 = .ok (.iconst 0, 1) := by decide +kernel
theorem dL_law_755 : decode cL_law 755 = .ok (.ireturn, 1) := by decide +kernel
theorem dL_law_756 : decode cL_law 756 = .ok (.iinc 3 6, 3) := by decide +kernel
theorem dL_law_759 : decode cL_law 759 = .ok (.goto (-741), 3) := by decide +kernel
theorem dL_law_762 : decode cL_law 762 = .ok (.iconst 1, 1) := by decide +kernel
theorem dL_law_763 : decode cL_law 763 = .ok (.ireturn, 1) := by decide +kernel
end
section
/-! ===== the store: every cell that the law's call makes, by its number from 0; ints, longs and references of objects by field and number, of arrays by number and place ===== -/
def gS : Type := (Nat → Nat → Int32) × (Nat → Nat → Int64) × (Nat → Nat → Option Nat) × (Nat → Nat → Int32) × (Nat → Nat → Int64) × (Nat → Nat → Option Nat) × (Nat → Nat) × (Nat → Nat) × Nat × Nat
def gfI (S : gS) : Nat → Nat → Int32 := S.1
def gfL (S : gS) : Nat → Nat → Int64 := S.2.1
def gfR (S : gS) : Nat → Nat → Option Nat := S.2.2.1
def gaI (S : gS) : Nat → Nat → Int32 := S.2.2.2.1
def gaL (S : gS) : Nat → Nat → Int64 := S.2.2.2.2.1
def gaR (S : gS) : Nat → Nat → Option Nat := S.2.2.2.2.2.1
def gK (S : gS) : Nat → Nat := S.2.2.2.2.2.2.1
def gln (S : gS) : Nat → Nat := S.2.2.2.2.2.2.2.1
def gn (S : gS) : Nat := S.2.2.2.2.2.2.2.2.1
def gsl (S : gS) : Nat := S.2.2.2.2.2.2.2.2.2
def g_up {α : Type} (f : Nat → Nat → α) (i a : Nat) (v : α) : Nat → Nat → α := fun j b => if j = i ∧ b = a then v else f j b
def g_row {α : Type} (f : Nat → Nat → α) (a : Nat) (r : Nat → α) : Nat → Nat → α := fun b => if b = a then r else f b
def g_col {α : Type} (f : Nat → Nat → α) (a : Nat) (v : α) : Nat → Nat → α := fun j b => if b = a then v else f j b
/-- puts: a field of an object, a place of an array, a whole array's row -/
def g_pI (S : gS) (f a : Nat) (v : Int32) : gS := (g_up (gfI S) f a v, S.2)
def g_pL (S : gS) (f a : Nat) (v : Int64) : gS := (gfI S, g_up (gfL S) f a v, S.2.2)
def g_pR (S : gS) (f a : Nat) (v : Option Nat) : gS := (gfI S, gfL S, g_up (gfR S) f a v, S.2.2.2)
def g_rI (S : gS) (a : Nat) (r : Nat → Int32) : gS := (gfI S, gfL S, gfR S, g_row (gaI S) a r, S.2.2.2.2)
def g_rL (S : gS) (a : Nat) (r : Nat → Int64) : gS := (gfI S, gfL S, gfR S, gaI S, g_row (gaL S) a r, S.2.2.2.2.2)
def g_rR (S : gS) (a : Nat) (r : Nat → Option Nat) : gS := (gfI S, gfL S, gfR S, gaI S, gaL S, g_row (gaR S) a r, S.2.2.2.2.2.2)
/-- one more cell: an object of class ci, or an array of kind ci with ln places -/
def g_al (S : gS) (ci ln sl : Nat) : gS := (g_col (gfI S) (gn S) 0, g_col (gfL S) (gn S) 0, g_col (gfR S) (gn S) none, g_row (gaI S) (gn S) (fun _ => 0), g_row (gaL S) (gn S) (fun _ => 0), g_row (gaR S) (gn S) (fun _ => none),
  (fun a => if a = gn S then ci else gK S a), (fun a => if a = gn S then ln else gln S a), gn S + 1, gsl S + sl)
theorem g_up_s {α : Type} {f : Nat → Nat → α} {i a : Nat} {v : α} : g_up f i a v i a = v := by simp [g_up]
theorem g_up_n {α : Type} {f : Nat → Nat → α} {i a j b : Nat} {v : α} (h : b ≠ a) : g_up f i a v j b = f j b := by simp [g_up, h]
theorem g_up_f {α : Type} {f : Nat → Nat → α} {i a j b : Nat} {v : α} (h : j ≠ i) : g_up f i a v j b = f j b := by simp [g_up, h]
/-! ===== the environment, the world ===== -/
/-- launch; where classes and slots are; array classes; the first cell's address; the script's; the table's; the script's length and ints -/
def gE : Type := Launch × va_G × (Nat → ClassId) × Nat × Nat × Nat × Nat × (Nat → Int32)
def eL (E : gE) : Launch := E.1
def eD (E : gE) : va_G := E.2.1
def eC (E : gE) : Nat → ClassId := E.2.2.1
def e0 (E : gE) : Nat := E.2.2.2.1
def eB (E : gE) : Nat := E.2.2.2.2.1
def eT (E : gE) : Nat := E.2.2.2.2.2.1
def eN (E : gE) : Nat := E.2.2.2.2.2.2.1
def eX (E : gE) : Nat → Int32 := E.2.2.2.2.2.2.2
def g_ft : FieldType → Nat
  | .long => 1
  | .object _ => 2
  | .array _ => 2
  | _ => 0
def gTy (ci : Nat) : Nat → FieldType := match ci with
  | 0 => tyX0 | 1 => tyX1 | 2 => tyX2 | 3 => tyX3 | 4 => tyX4 | 5 => tyX5 | 6 => tyX6 | 7 => tyX7 | 8 => tyX8 | _ => tyX9
def g_cl (ci : Nat) : vw_C := vwCl.getD ci (RX9, TX9, 38)
def gNf (ci : Nat) : Nat := (g_cl ci).2.2
def g_ad (E : gE) (r : Option Nat) : Option Nat := r.map (fun a => e0 E + a)
def g_fv (E : gE) (S : gS) (k ci j : Nat) : Value := match g_ft (gTy ci j) with
  | 0 => .int (gfI S (64 * ci + j) k)
  | 1 => .long (gfL S (64 * ci + j) k)
  | _ => va_rf (g_ad E (gfR S (64 * ci + j) k))
def g_cell (E : gE) (S : gS) (k : Nat) : va_E :=
  if gK S k < 10 then .inr (gK S k, (List.range (gNf (gK S k))).map (g_fv E S k (gK S k)))
  else if gK S k = 11 then .inl (eC E 11, gln S k, .inr (.inl (gaL S k)))
  else if gK S k < 13 then .inl (eC E (gK S k), gln S k, .inl (gaI S k))
  else .inl (eC E (gK S k), gln S k, .inr (.inr (.inr (.inr (fun j => g_ad E (gaR S k j))))))
def g_w (E : gE) (S : gS) : va_W := (List.range (gn S)).map (fun k => (e0 E + k, g_cell E S k))
def g_tys (E : gE) : List (ClassId × FieldType) := [(eC E 10, .int), (eC E 11, .long), (eC E 12, .boolean), (eC E 13, .object RX4), (eC E 14, .object RX6)]
def g_A (E : gE) : Nat → Prop := fun q => e0 E ≤ q
def g_P (E : gE) (S : gS) (H : Heap) : Prop := va_P (eD E) vwCl (g_w E S) H
theorem g_w_get {E : gE} {S : gS} {k : Nat} (h : k < gn S) : (g_w E S)[k]? = some (e0 E + k, g_cell E S k) := by
  simp [g_w, h]
theorem g_w_inv {E : gE} {S : gS} {k : Nat} {q : Nat × va_E} (h : (g_w E S)[k]? = some q) : k < gn S ∧ q = (e0 E + k, g_cell E S k) := by
  have hk : k < gn S := by
    have := (List.getElem?_eq_some_iff.mp h).1
    simpa [g_w] using this
  rw [g_w_get hk] at h
  exact ⟨hk, (Option.some.inj h).symm⟩
theorem g_w_D (E : gE) (S : gS) : va_D (g_A E) (g_w E S) := by
  refine ⟨fun i j p q hi hj h => ?_, fun k q hk => ?_⟩
  · obtain ⟨-, rfl⟩ := g_w_inv hi
    obtain ⟨-, rfl⟩ := g_w_inv hj
    exact Nat.add_left_cancel h
  · obtain ⟨-, rfl⟩ := g_w_inv hk
    exact Nat.le_add_right _ _
theorem g_w_set {E : gE} {S S' : gS} (hn : gn S' = gn S) {k : Nat} (hk : k < gn S) (he : ∀ j, j ≠ k → g_cell E S' j = g_cell E S j) : (g_w E S).set k (e0 E + k, g_cell E S' k) = g_w E S' := by
  apply List.ext_getElem?
  intro j
  by_cases hj : j < gn S
  · rw [g_w_get (S := S') (by rw [hn]; exact hj)]
    by_cases hjk : j = k
    · subst hjk
      rw [List.getElem?_set_self (by simpa [g_w] using hj)]
    · rw [List.getElem?_set_ne (Ne.symm hjk), g_w_get hj, he j hjk]
  · have h1 : ((g_w E S).set k (e0 E + k, g_cell E S' k))[j]? = none := by
      apply List.getElem?_eq_none
      simp [g_w]; omega
    have h2 : (g_w E S')[j]? = none := by
      apply List.getElem?_eq_none
      simp [g_w]; omega
    rw [h1, h2]
theorem g_w_push {E : gE} {S : gS} {ci ln sl : Nat} : g_w E (g_al S ci ln sl) = g_w E S ++ [(e0 E + gn S, g_cell E (g_al S ci ln sl) (gn S))] := by
  have hc : ∀ k, k ≠ gn S → g_cell E (g_al S ci ln sl) k = g_cell E S k := by
    intro k hk
    have h1 : gK (g_al S ci ln sl) k = gK S k := by simp [g_al, gK, hk]
    have h2 : gln (g_al S ci ln sl) k = gln S k := by simp [g_al, gln, hk]
    have h3 : gaL (g_al S ci ln sl) k = gaL S k := by simp [g_al, gaL, g_row, hk]
    have h4 : gaI (g_al S ci ln sl) k = gaI S k := by simp [g_al, gaI, g_row, hk]
    have h5 : gaR (g_al S ci ln sl) k = gaR S k := by simp [g_al, gaR, g_row, hk]
    have h6 : g_fv E (g_al S ci ln sl) k = g_fv E S k := by
      funext c j
      simp [g_fv, g_al, gfI, gfL, gfR, g_col, hk]
    simp only [g_cell, h1, h2, h3, h4, h5, h6]
  have hn : gn (g_al S ci ln sl) = gn S + 1 := rfl
  unfold g_w
  rw [hn, List.range_succ, List.map_append]
  congr 1
  apply List.map_congr_left
  intro k hk
  rw [hc k (Nat.ne_of_lt (List.mem_range.mp hk))]
theorem g_set_map {α : Type} {N jj : Nat} {f g : Nat → α} (h : jj < N) (hne : ∀ i, i ≠ jj → g i = f i) : (List.range N).map g = ((List.range N).map f).set jj (g jj) := by
  apply List.ext_getElem?
  intro i
  by_cases hi : i = jj
  · subst hi
    rw [List.getElem?_set_self (by simpa using h)]
    simp [h]
  · rw [List.getElem?_set_ne (Ne.symm hi)]
    simp only [List.getElem?_map]
    cases hr : (List.range N)[i]? with
    | none => rfl
    | some k =>
      have : k = i := by
        have := List.getElem?_eq_some_iff.mp hr
        obtain ⟨a, b⟩ := this
        simpa using b.symm
      subst this
      simp [hne k hi]
/-! ===== the class tables as one ===== -/
def lw_good : List Cond := lw_tbl.filter goodWord
theorem lw_good_of {w : Cond} (h : w ∈ lw_tbl) (g : goodWord w = true) : w ∈ lw_good := List.mem_filter.mpr ⟨h, g⟩
theorem g_t {i : Nat} {w : Cond} (h : tables_1[i]? = some w) (g : goodWord w = true) : w ∈ lw_good := lw_good_of (List.mem_append_right _ (List.mem_of_getElem? h)) g
theorem g_s {i : Nat} {w : Cond} (h : (k2_sels lw_privs)[i]? = some w) (g : goodWord w = true) : w ∈ lw_good := lw_good_of (List.mem_append_left _ (List.mem_of_getElem? h)) g
theorem g_good_in {M : Cond} (h : M ∈ lw_good) : GoodIn lw_good (M :: lw_good) := by
  intro w hw
  rcases List.mem_cons.mp hw with rfl | hw
  · exact ⟨h, good_of_word (List.mem_filter.mp h).2⟩
  · exact ⟨hw, good_of_word (List.mem_filter.mp hw).2⟩
end
section
theorem g_cl_at : ∀ ci, ci < 10 → vwCl[ci]? = some (g_cl ci) := by
  intro ci h
  match ci, h with
  | 0, _ => rfl
  | 1, _ => rfl
  | 2, _ => rfl
  | 3, _ => rfl
  | 4, _ => rfl
  | 5, _ => rfl
  | 6, _ => rfl
  | 7, _ => rfl
  | 8, _ => rfl
  | 9, _ => rfl
  | n + 10, h => exact absurd h (by omega)
theorem g_nm : ∀ ci, ci < 10 → ∀ a, a < gNf ci → ∀ b, b < gNf ci → a ≠ b → ((g_cl ci).2.1 a).2.1 ≠ ((g_cl ci).2.1 b).2.1 := by
  intro ci h
  match ci, h with
  | 0, _ => exact nmX0
  | 1, _ => exact nmX1
  | 2, _ => exact nmX2
  | 3, _ => exact nmX3
  | 4, _ => exact nmX4
  | 5, _ => exact nmX5
  | 6, _ => exact nmX6
  | 7, _ => exact nmX7
  | 8, _ => exact nmX8
  | 9, _ => exact nmX9
  | n + 10, h => exact absurd h (by omega)
theorem g_tyok : ∀ ci, ci < 10 → ∀ k, k < gNf ci → parseFieldDescriptor ((g_cl ci).2.1 k).2.2.1 = some (gTy ci k) := by
  intro ci h
  match ci, h with
  | 0, _ => exact tyX0_ok
  | 1, _ => exact tyX1_ok
  | 2, _ => exact tyX2_ok
  | 3, _ => exact tyX3_ok
  | 4, _ => exact tyX4_ok
  | 5, _ => exact tyX5_ok
  | 6, _ => exact tyX6_ok
  | 7, _ => exact tyX7_ok
  | 8, _ => exact tyX8_ok
  | 9, _ => exact tyX9_ok
  | n + 10, h => exact absurd h (by omega)
theorem g_in0 : ((List.range 10).all fun ci => (u_ws (g_cl ci).1 (g_cl ci).2.1 (g_cl ci).2.2).all fun w => decide (w ∈ tables_1) && goodWord w) = true := by decide +kernel
theorem g_in {ci : Nat} (h : ci < 10) : ∀ w ∈ u_ws (g_cl ci).1 (g_cl ci).2.1 (g_cl ci).2.2, w ∈ lw_good := by
  intro w hw
  have h1 := List.all_eq_true.mp (List.all_eq_true.mp g_in0 ci (List.mem_range.mpr h)) w hw
  simp only [Bool.and_eq_true, decide_eq_true_eq] at h1
  exact lw_good_of (List.mem_append_right _ h1.1) h1.2
/-! ===== what stays true of every state in which a method starts ===== -/
def g_cb (j : Nat) : Int32 := ([14, 13, 27, 23, 12] : List Int32).getD j 0
def g_nests : List Cond := [.methodLinkNest RX8 9 yX0_init "ShiftHouse", .methodLinkNest RX7 17 yX4_init "ShiftHouse", .methodLinkNest RX4 11 yX2_init "ShiftHouse", .methodLinkNest RX8 25 yX1_init "ShiftHouse", .methodLinkNest RX1 17 yX2_init "ShiftHouse", .methodLinkNest RX8 32 yX2_init "ShiftHouse", .methodLinkNest RX8 39 yX5_init "ShiftHouse", .methodLinkNest RX3 21 yX6_init "ShiftHouse"]
theorem g_nests_in : ∀ w ∈ g_nests, w ∈ tables_1 := by decide +kernel
theorem g_nest_form : ∀ w ∈ g_nests, ∃ a i x h, w = Cond.methodLinkNest a i x h := by
  intro w hw
  simp only [g_nests, List.mem_cons, List.not_mem_nil, or_false] at hw
  rcases hw with rfl | rfl | rfl | rfl | rfl | rfl | rfl | rfl <;> exact ⟨_, _, _, _, rfl⟩
def g_Ev (E : gE) (U : State) : Prop := va_K (eD E) vwCl (g_tys E) U ∧ va_T .int (eB E) (eN E) (fun j => .int (eX E j)) (g_A E) U U.heap ∧ va_Z "ShiftHouse$Schema" "CAN_BECOME" "[I" (.ref (eT E)) (g_A E) U U.heap ∧ va_T .int (eT E) 5 (fun j => .int (g_cb j)) (g_A E) U U.heap ∧ (∀ w ∈ g_nests, va_Nw w U) ∧ va_AO RX4 U ∧ va_AO RX6 U
theorem g_Ev.to {E : gE} {s U : State} (hW : s.WarmedH U.vm) (hk : ∀ a : Nat, a < s.heap.size → ¬ g_A E a → U.heap[a]? = s.heap[a]?) (h : g_Ev E s) : g_Ev E U := by
  obtain ⟨h1, h2, h3, h4, h5, h6, h7⟩ := h
  refine ⟨va_K.moved hW.alike h1, va_T.moved hW.alike (h2.kept hk), va_Z.moved hW.alike (h3.kept hk), va_T.moved hW.alike (h4.kept hk), fun w hw => ?_, va_AO.moved hW.alike h6, va_AO.moved hW.alike h7⟩
  obtain ⟨a, i, x, hh, rfl⟩ := g_nest_form w hw
  exact va_Nw.warmM hW (h5 _ hw)
theorem g_Ev.calling {E : gE} {U : State} {g : JFrame} {mk : MethodId} {a : Array Value} (h : g_Ev E U) : g_Ev E (U.calling g mk a) := by
  obtain ⟨h1, h2, h3, h4, h5, h6, h7⟩ := h
  have hv : U.vm.Alike (U.calling g mk a).vm := Vm.Alike.refl U.vm
  refine ⟨va_K.moved hv h1, va_T.moved hv h2, va_Z.moved hv h3, va_T.moved hv h4, fun w hw => ?_, va_AO.moved hv h6, va_AO.moved hv h7⟩
  obtain ⟨b, i, x, hh, rfl⟩ := g_nest_form w hw
  exact va_Nw.same rfl rfl (h5 _ hw)
/-! ===== a method: its name, its code, its locals, what it answers, its room ===== -/
def gM : Type := MethodName × ByteArray × Nat × Option FieldType × Nat × Nat
def my (M : gM) : MethodName := M.1
def mc (M : gM) : ByteArray := M.2.1
def ml (M : gM) : Nat := M.2.2.1
def mt (M : gM) : Option FieldType := M.2.2.2.1
def mf (M : gM) : Nat := M.2.2.2.2.1
def mo (M : gM) : Nat := M.2.2.2.2.2
def m_ws (M : gM) : List Cond := .code (my M) (mc M) (ml M) (mt M) :: lw_good
def g_rv (E : gE) : Value → Value
  | .ref k => .ref (e0 E + k)
  | .retAddr k => .ref (if k = 0 then eB E else eT E)
  | v => v
theorem g_rv_cat (E : gE) (v : Value) : (g_rv E v).category = v.category := by cases v <;> rfl
def g_lv (E : gE) (lv : List (Nat × Value)) : List (Nat × Value) := lv.map (fun q => (q.1, g_rv E q.2))
/-- the instruction that ends a method, and what it may answer -/
def g_ri : Option FieldType → Instr
  | none => .return_
  | some .long => .lreturn
  | some (.object _) => .areturn
  | some (.array _) => .areturn
  | _ => .ireturn
def g_rok : Option FieldType → Option Value → Prop
  | none, none => True
  | some .int, some (.int _) => True
  | some .boolean, some (.int x) => x = 0 ∨ x = 1
  | some .long, some (.long _) => True
  | some (.object _), some (.ref _) => True
  | _, _ => False
def gX (E : gE) (M : gM) (n0 s0 : Nat) (r : Option Value) (S' : gS) (p : Program) (e : Env) (s : State) (m : MethodId) (args : Array Value) (below : List Frame) (meth : Method) (c : Code) (R : Room) (Q : State → Prop) : Prop :=
  p.tables.exec = Jvm.exec ∧ c.code = mc M ∧ c.maxLocals = ml M ∧ s.vm.findClass (my M).cls = some m.cls ∧ (∀ w ∈ lw_good, w.before args s = true) ∧ meth.name = (my M).name ∧ g_Ev E s ∧ s.heap.size = e0 E + n0 ∧
  mf M ≤ R.frames ∧ mo M ≤ R.locals ∧ gn S' - n0 ≤ R.cells ∧ gsl S' - s0 ≤ R.slots ∧
  (∀ (H : Heap) (locs : List Loc) (ls : Array Slot) (pc : Nat), decode (mc M) pc = .ok (g_ri (mt M), 1) → g_rok (mt M) r → g_P E S' H → va_S (g_A E) s.heap H locs →
    W p (eL E) e R s m args below meth c H locs (gn S' - n0) (gsl S' - s0) Q (F0 m pc ls (r.toList.map (g_rv E))))
def gG (E : gE) (M : gM) (n0 s0 pc : Nat) (lv : List (Nat × Value)) (st : List Value) (S : gS) (r : Option Value) (S' : gS) : Prop :=
  ∀ (p : Program) (e : Env) (s : State) (m : MethodId) (args : Array Value) (below : List Frame) (meth : Method) (c : Code) (R : Room) (Q : State → Prop), gX E M n0 s0 r S' p e s m args below meth c R Q →
    ∀ (H : Heap) (locs : List Loc) (ls : Array Slot), lv_has ls (ml M) (g_lv E lv) → g_P E S H → va_S (g_A E) s.heap H locs → n0 ≤ gn S → s0 ≤ gsl S →
      W p (eL E) e R s m args below meth c H locs (gn S - n0) (gsl S - s0) Q (F0 m pc ls (st.map (g_rv E)))
/-- THE JUDGEMENT: from here on the method comes to what o says -/
def gJ {ρ : Type} (em : ρ → Option Value × gS) (E : gE) (M : gM) (n0 s0 pc : Nat) (lv : List (Nat × Value)) (st : List Value) (S : gS) (o : Option ρ) : Prop :=
  ∀ z, o = some z → gn S ≤ gn (em z).2 ∧ gsl S ≤ gsl (em z).2 ∧ gG E M n0 s0 pc lv st S (em z).1 (em z).2
/-- A CONTRACT -/
def g_Pc (E : gE) (args : List Value) (S : gS) : Array Value → State → Prop := va_Pc (args.map (g_rv E)) (fun U => U.heap.size = e0 E + gn S ∧ g_P E S U.heap ∧ g_Ev E U)
def g_Qc (E : gE) (r : Option Value) (S' : gS) : Array Value → State → Outcome → State → Prop := fun _ st oc t => oc = .returned (r.map (g_rv E)) ∧ g_P E S' t.heap ∧ va_F (g_A E) st t
def gC {ρ : Type} (em : ρ → Option Value × gS) (E : gE) (M : gM) (args : List Value) (S : gS) (o : Option ρ) : Prop :=
  ∀ z, o = some z → gn S ≤ gn (em z).2 ∧ gsl S ≤ gsl (em z).2 ∧ Met (eL E) (my M) (m_ws M) ({ frames := mf M, cells := gn (em z).2 - gn S, slots := gsl (em z).2 - gsl S, locals := mo M }) (g_Pc E args S) (g_Qc E (em z).1 (em z).2) (gn (em z).2 - gn S) (gsl (em z).2 - gsl S) (g_A E)
def gI (z : Int32 × gS) : Option Value × gS := (some (.int z.1), z.2)
def gL (z : Int64 × gS) : Option Value × gS := (some (.long z.1), z.2)
def gR (z : Nat × gS) : Option Value × gS := (some (.ref z.1), z.2)
def gV (z : gS) : Option Value × gS := (none, z)
theorem gJ.none {ρ : Type} {em : ρ → Option Value × gS} {E : gE} {M : gM} {n0 s0 pc : Nat} {lv : List (Nat × Value)} {st : List Value} {S : gS} : gJ em E M n0 s0 pc lv st S none := fun _ h => by cases h
theorem gC.of {ρ : Type} {em : ρ → Option Value × gS} {E : gE} {M : gM} {args : List Value} {S : gS} {o : Option ρ} (hy : plainName (my M).cls = true) (hn : (lg_sl (args.map (g_rv E))).length ≤ ml M) (hJ : gJ em E M (gn S) (gsl S) 0 (lv_args 0 args) [] S o) : gC em E M args S o := by
  intro z hz
  obtain ⟨m1, m2, hG⟩ := hJ z hz
  refine ⟨m1, m2, Met.ofW (cc := mc M) (maxL := ml M) (ret := mt M) hy rfl ?_⟩
  intro p e s m ar below meth c s₁ B hml hv
  obtain ⟨rfl, hsz, hP, hEv⟩ := hv
  have hts := atoms_spec (ws := m_ws M) B.pre
  have hown : s.vm.findClass (my M).cls = some m.cls := findClass_of_methodNamed B.named
  have hlocks : meth.locks = false := B.notSynchronized
  have hnm : meth.name = (my M).name := (name_of_methodNamed B.named B.method).1
  have hl := lv_entry (args.map (g_rv E)) (n := ml M) hn
  rw [lg_entry_eq]
  generalize (lg_sl (args.map (g_rv E)) ++ List.replicate (ml M - (lg_sl (args.map (g_rv E))).length) Slot.unset).toArray = ls at hl ⊢
  have hla : ∀ (as : List Value) (i : Nat), lv_args i (as.map (g_rv E)) = g_lv E (lv_args i as) := by
    intro as
    induction as with
    | nil => intro i; rfl
    | cons a as ih =>
      intro i
      show (i, g_rv E a) :: lv_args (if (g_rv E a).category = 2 then i + 2 else i + 1) (as.map (g_rv E)) = _
      rw [g_rv_cat, ih]
      rfl
  rw [hla] at hl
  have hX : gX E M (gn S) (gsl S) (em z).1 (em z).2 p e s m (args.map (g_rv E)).toArray below meth c (headSpec (m_ws M) { frames := mf M, cells := gn (em z).2 - gn S, slots := gsl (em z).2 - gsl S, locals := mo M }).room (MQ below (g_Qc E (em z).1 (em z).2) (args.map (g_rv E)).toArray s (gn (em z).2 - gn S) (gsl (em z).2 - gsl S) (g_A E)) := by
    refine ⟨B.exec, B.bytes, hml, hown, fun w hw => hts w (List.mem_cons_of_mem _ hw), hnm, hEv, hsz, Nat.le_refl _, Nat.le_refl _, Nat.le_refl _, Nat.le_refl _, ?_⟩
    intro H locs ls pc hd hok hP' hS
    have hx := B.exec
    have hb := B.bytes
    have hr : meth.sig.returnType = mt M := B.returns
    have hq : ∀ t : State, t.heap = H → s.WarmedH t.vm → g_Qc E (em z).1 (em z).2 (args.map (g_rv E)).toArray s (.returned ((em z).1.map (g_rv E))) t := fun t ht _ => ⟨rfl, by rw [ht]; exact hP', hS.F ht⟩
    generalize (em z).1 = r at hok hq ⊢
    cases r with
    | none =>
      cases hmt : mt M with
      | none => rw [hmt] at hd hr; exact W.vret hx hb hr hq hS.2.2 hd
      | some ft => rw [hmt] at hok; cases ft <;> exact hok.elim
    | some v =>
      cases hmt : mt M with
      | none => rw [hmt] at hok; exact hok.elim
      | some ft =>
        rw [hmt] at hd hr hok
        cases ft with
        | int => cases v <;> first | exact hok.elim | exact W.iret hx hb hr hq hS.2.2 hd
        | boolean =>
          cases v with
          | int x =>
            refine W.zret hx hb hr ?_ hq hS.2.2 hd
            rcases hok with h | h <;> subst h <;> decide
          | _ => exact hok.elim
        | long => cases v <;> first | exact hok.elim | exact W.lret hx hb hr hq hS.2.2 hd
        | object nm =>
          cases v with
          | ref a => exact W.aret (v := .ref (e0 E + a)) hx hb hr (Or.inl ⟨_, rfl⟩) (Or.inr ⟨_, rfl⟩) hq hS.2.2 hd
          | _ => exact hok.elim
        | _ => exact hok.elim
  have K := hG p e s m _ below meth c _ _ hX s.heap [] ls hl hP va_S.rf (Nat.le_refl _) (Nat.le_refl _)
  rw [Nat.sub_self, Nat.sub_self] at K
  exact K
end
section
section XR
variable {ρ : Type} {em : ρ → Option Value × gS} {E : gE} {M : gM} {n0 s0 pc : Nat} {lv : List (Nat × Value)} {st : List Value} {S : gS} {o : Option ρ}
/-- an instruction that touches the stack alone -/
theorem gJ.step {pc2 : Nat} {st2 : List Value}
    (hW : ∀ (p : Program) (e : Env) (s : State) (m : MethodId) (args : Array Value) (below : List Frame) (meth : Method) (c : Code) (R : Room) (Q : State → Prop) (H : Heap) (locs : List Loc) (ls : Array Slot) (cells slots : Nat), p.tables.exec = Jvm.exec → c.code = mc M →
      W p (eL E) e R s m args below meth c H locs cells slots Q (F0 m pc2 ls (st2.map (g_rv E))) → W p (eL E) e R s m args below meth c H locs cells slots Q (F0 m pc ls (st.map (g_rv E))))
    (h : gJ em E M n0 s0 pc2 lv st2 S o) : gJ em E M n0 s0 pc lv st S o := by
  intro z hz
  obtain ⟨m1, m2, hG⟩ := h z hz
  exact ⟨m1, m2, fun p e s m args below meth c R Q hX H locs ls hl hP hS h1 h2 => hW p e s m args below meth c R Q H locs ls _ _ hX.1 hX.2.1 (hG p e s m args below meth c R Q hX H locs ls hl hP hS h1 h2)⟩
/-- the same, when it must know the locals, the tables and the start -/
theorem gJ.stepX {pc2 : Nat} {st2 : List Value}
    (hW : ∀ (p : Program) (e : Env) (s : State) (m : MethodId) (args : Array Value) (below : List Frame) (meth : Method) (c : Code) (R : Room) (Q : State → Prop) (H : Heap) (locs : List Loc) (ls : Array Slot) (r : Option Value) (S' : gS), gX E M n0 s0 r S' p e s m args below meth c R Q → lv_has ls (ml M) (g_lv E lv) → g_P E S H → va_S (g_A E) s.heap H locs → gn S - n0 ≤ R.cells → gsl S - s0 ≤ R.slots →
      W p (eL E) e R s m args below meth c H locs (gn S - n0) (gsl S - s0) Q (F0 m pc2 ls (st2.map (g_rv E))) → W p (eL E) e R s m args below meth c H locs (gn S - n0) (gsl S - s0) Q (F0 m pc ls (st.map (g_rv E))))
    (h : gJ em E M n0 s0 pc2 lv st2 S o) : gJ em E M n0 s0 pc lv st S o := by
  intro z hz
  obtain ⟨m1, m2, hG⟩ := h z hz
  refine ⟨m1, m2, fun p e s m args below meth c R Q hX H locs ls hl hP hS h1 h2 => hW p e s m args below meth c R Q H locs ls _ _ hX hl hP hS ?_ ?_ (hG p e s m args below meth c R Q hX H locs ls hl hP hS h1 h2)⟩
  · have := hX.2.2.2.2.2.2.2.2.2.2.1; omega
  · have := hX.2.2.2.2.2.2.2.2.2.2.2.1; omega
/-- fewer locals, in any order -/
theorem X_sub {lv2 : List (Nat × Value)} (ks : List Nat) (hl : lv_pick lv ks = lv2) (h : gJ em E M n0 s0 pc lv2 st S o) : gJ em E M n0 s0 pc lv st S o := by
  intro z hz
  obtain ⟨m1, m2, hG⟩ := h z hz
  refine ⟨m1, m2, fun p e s m args below meth c R Q hX H locs ls hl2 hP hS h1 h2 => hG p e s m args below meth c R Q hX H locs ls (lv_sub hl2 ks ?_) hP hS h1 h2⟩
  subst hl
  unfold lv_pick g_lv
  rw [List.map_filterMap]
  congr 1
  funext k
  simp
theorem X_eq {o2 : Option ρ} (he : o = o2) (h : gJ em E M n0 s0 pc lv st S o2) : gJ em E M n0 s0 pc lv st S o := he ▸ h
theorem X_let {α : Type} {v : α} {F : α → Option ρ} (h : ∀ x, gJ em E M n0 s0 pc lv st S (F x)) : gJ em E M n0 s0 pc lv st S (F v) := h v
-- constants
theorem X_iconst {n : Int} {v : Int32} (hd : decode (mc M) pc = .ok (.iconst n, 1)) (hv : Int32.ofInt n = v) (h : gJ em E M n0 s0 (pc + 1) lv (.int v :: st) S o) : gJ em E M n0 s0 pc lv st S o := gJ.step (fun p e s m args below meth c R Q H locs ls cells slots hx hb k => lv_iconst hx hb hd hv k) h
theorem X_bipush {n : Int} {v : Int32} (hd : decode (mc M) pc = .ok (.bipush n, 2)) (hv : (Int8.ofInt n).toInt32 = v) (h : gJ em E M n0 s0 (pc + 2) lv (.int v :: st) S o) : gJ em E M n0 s0 pc lv st S o := gJ.step (fun p e s m args below meth c R Q H locs ls cells slots hx hb k => lv_bipush hx hb hd hv k) h
theorem X_sipush {n : Int} {v : Int32} (hd : decode (mc M) pc = .ok (.sipush n, 3)) (hv : (Int16.ofInt n).toInt32 = v) (h : gJ em E M n0 s0 (pc + 3) lv (.int v :: st) S o) : gJ em E M n0 s0 pc lv st S o := gJ.step (fun p e s m args below meth c R Q H locs ls cells slots hx hb k => lv_sipush hx hb hd hv k) h
theorem X_lconst {n : Fin 2} {v : Int64} (hd : decode (mc M) pc = .ok (.lconst n, 1)) (hv : Int64.ofNat (n : Nat) = v) (h : gJ em E M n0 s0 (pc + 1) lv (.long v :: st) S o) : gJ em E M n0 s0 pc lv st S o := gJ.step (fun p e s m args below meth c R Q H locs ls cells slots hx hb k => lv_lconst hx hb hd hv k) h
theorem X_ldc2 {idx : Nat} {v : Int64} (hw : Cond.constantLong (my M).cls idx v ∈ lw_good) (hd : decode (mc M) pc = .ok (.ldc2_w idx, 3)) (h : gJ em E M n0 s0 (pc + 3) lv (.long v :: st) S o) : gJ em E M n0 s0 pc lv st S o :=
  gJ.stepX (fun p e s m args below meth c R Q H locs ls r S' hX hl hP hS _ _ k => lv_ldc2 hX.1 hX.2.1 hX.2.2.2.1 (hX.2.2.2.2.1 _ hw) hd k) h
-- loads
theorem g_look {ls : Array Slot} {nL : Nat} {lv : List (Nat × Value)} (h : lv_has ls nL (g_lv E lv)) {k i : Nat} {v : Value} (hk : lv[k]? = some (i, v)) : ls[i]? = some (.val (g_rv E v)) := lv_at h k (by simp [g_lv, hk])
theorem X_iload_n {i : Fin 4} {j : Nat} {x : Int32} (k : Nat) (hd : decode (mc M) pc = .ok (.iload_n i, 1)) (hi : (i : Nat) = j) (hk : lv[k]? = some (j, .int x)) (h : gJ em E M n0 s0 (pc + 1) lv (.int x :: st) S o) : gJ em E M n0 s0 pc lv st S o :=
  gJ.stepX (fun p e s m args below meth c R Q H locs ls r S' hX hl hP hS _ _ k => lv_iload_n hX.1 hX.2.1 hd hi (g_look hl hk) k) h
theorem X_iload {j : Nat} {x : Int32} (k : Nat) (hd : decode (mc M) pc = .ok (.iload j, 2)) (hk : lv[k]? = some (j, .int x)) (h : gJ em E M n0 s0 (pc + 2) lv (.int x :: st) S o) : gJ em E M n0 s0 pc lv st S o :=
  gJ.stepX (fun p e s m args below meth c R Q H locs ls r S' hX hl hP hS _ _ k => lv_iload hX.1 hX.2.1 hd (g_look hl hk) k) h
theorem X_lload_n {i : Fin 4} {j : Nat} {x : Int64} (k : Nat) (hd : decode (mc M) pc = .ok (.lload_n i, 1)) (hi : (i : Nat) = j) (hk : lv[k]? = some (j, .long x)) (h : gJ em E M n0 s0 (pc + 1) lv (.long x :: st) S o) : gJ em E M n0 s0 pc lv st S o :=
  gJ.stepX (fun p e s m args below meth c R Q H locs ls r S' hX hl hP hS _ _ k => lv_lload_n hX.1 hX.2.1 hd hi (g_look hl hk) k) h
theorem X_lload {j : Nat} {x : Int64} (k : Nat) (hd : decode (mc M) pc = .ok (.lload j, 2)) (hk : lv[k]? = some (j, .long x)) (h : gJ em E M n0 s0 (pc + 2) lv (.long x :: st) S o) : gJ em E M n0 s0 pc lv st S o :=
  gJ.stepX (fun p e s m args below meth c R Q H locs ls r S' hX hl hP hS _ _ k => lv_lload hX.1 hX.2.1 hd (g_look hl hk) k) h
theorem X_aload_n {i : Fin 4} {j : Nat} {x : Nat} (k : Nat) (hd : decode (mc M) pc = .ok (.aload_n i, 1)) (hi : (i : Nat) = j) (hk : lv[k]? = some (j, .ref x)) (h : gJ em E M n0 s0 (pc + 1) lv (.ref x :: st) S o) : gJ em E M n0 s0 pc lv st S o :=
  gJ.stepX (fun p e s m args below meth c R Q H locs ls r S' hX hl hP hS _ _ k => lv_aload_n hX.1 hX.2.1 hd hi (g_look hl hk) k) h
theorem X_aload_nT {i : Fin 4} {j : Nat} {x : Nat} (k : Nat) (hd : decode (mc M) pc = .ok (.aload_n i, 1)) (hi : (i : Nat) = j) (hk : lv[k]? = some (j, .retAddr x)) (h : gJ em E M n0 s0 (pc + 1) lv (.retAddr x :: st) S o) : gJ em E M n0 s0 pc lv st S o :=
  gJ.stepX (fun p e s m args below meth c R Q H locs ls r S' hX hl hP hS _ _ k => lv_aload_n hX.1 hX.2.1 hd hi (g_look hl hk) k) h
theorem X_aload {j : Nat} {x : Nat} (k : Nat) (hd : decode (mc M) pc = .ok (.aload j, 2)) (hk : lv[k]? = some (j, .ref x)) (h : gJ em E M n0 s0 (pc + 2) lv (.ref x :: st) S o) : gJ em E M n0 s0 pc lv st S o :=
  gJ.stepX (fun p e s m args below meth c R Q H locs ls r S' hX hl hP hS _ _ k => lv_aload hX.1 hX.2.1 hd (g_look hl hk) k) h
-- stores into locals
theorem g_lv_filter (E : gE) (lv : List (Nat × Value)) (f : Nat → Nat → Bool) : (g_lv E lv).filter (fun q => f q.1 q.2.category) = g_lv E (lv.filter (fun q => f q.1 q.2.category)) := by
  unfold g_lv
  rw [List.filter_map]
  congr 1
  apply List.filter_congr
  intro q _
  simp [Function.comp, g_rv_cat]
/-- an instruction that changes the locals -/
theorem gJ.stepL {pc2 : Nat} {st2 : List Value} {lv2 : List (Nat × Value)}
    (hW : ∀ (p : Program) (e : Env) (s : State) (m : MethodId) (args : Array Value) (below : List Frame) (meth : Method) (c : Code) (R : Room) (Q : State → Prop) (H : Heap) (locs : List Loc) (ls : Array Slot) (cells slots : Nat), p.tables.exec = Jvm.exec → c.code = mc M → lv_has ls (ml M) (g_lv E lv) →
      (∀ ls' : Array Slot, lv_has ls' (ml M) (g_lv E lv2) → W p (eL E) e R s m args below meth c H locs cells slots Q (F0 m pc2 ls' (st2.map (g_rv E)))) → W p (eL E) e R s m args below meth c H locs cells slots Q (F0 m pc ls (st.map (g_rv E))))
    (h : gJ em E M n0 s0 pc2 lv2 st2 S o) : gJ em E M n0 s0 pc lv st S o := by
  intro z hz
  obtain ⟨m1, m2, hG⟩ := h z hz
  exact ⟨m1, m2, fun p e s m args below meth c R Q hX H locs ls hl hP hS h1 h2 => hW p e s m args below meth c R Q H locs ls _ _ hX.1 hX.2.1 hl (fun ls' hl' => hG p e s m args below meth c R Q hX H locs ls' hl' hP hS h1 h2)⟩
def g_put1 (lv : List (Nat × Value)) (i : Nat) (v : Value) : List (Nat × Value) := (i, v) :: lv.filter (fun q => !(q.1 == i) && !(q.1 + 1 == i && q.2.category == 2))
def g_put2 (lv : List (Nat × Value)) (i : Nat) (v : Value) : List (Nat × Value) := (i, v) :: lv.filter (fun q => !(q.1 == i) && (!(q.1 == i + 1) && !(q.1 + 1 == i && q.2.category == 2)))
theorem g_put1_eq (E : gE) (lv : List (Nat × Value)) (i : Nat) (v : Value) : (i, g_rv E v) :: (g_lv E lv).filter (fun q => !(q.1 == i) && !(q.1 + 1 == i && q.2.category == 2)) = g_lv E (g_put1 lv i v) := by
  show _ = (i, g_rv E v) :: g_lv E _
  rw [← g_lv_filter E lv (fun a c => !(a == i) && !(a + 1 == i && c == 2))]
theorem g_put2_eq (E : gE) (lv : List (Nat × Value)) (i : Nat) (v : Value) : (i, g_rv E v) :: (g_lv E lv).filter (fun q => !(q.1 == i) && (!(q.1 == i + 1) && !(q.1 + 1 == i && q.2.category == 2))) = g_lv E (g_put2 lv i v) := by
  show _ = (i, g_rv E v) :: g_lv E _
  rw [← g_lv_filter E lv (fun a c => !(a == i) && (!(a == i + 1) && !(a + 1 == i && c == 2)))]
theorem X_istore_n {i : Fin 4} {j : Nat} {x : Int32} {lv2 : List (Nat × Value)} (hd : decode (mc M) pc = .ok (.istore_n i, 1)) (hi : (i : Nat) = j) (hn : j < ml M) (hl : g_put1 lv j (.int x) = lv2) (h : gJ em E M n0 s0 (pc + 1) lv2 st S o) : gJ em E M n0 s0 pc lv (.int x :: st) S o :=
  gJ.stepL (fun p e s m args below meth c R Q H locs ls cells slots hx hb hl2 k => lv_istore_n hx hb hd hi hl2 hn (by rw [← hl]; exact g_put1_eq E lv j (.int x)) k) h
theorem X_istore {j : Nat} {x : Int32} {lv2 : List (Nat × Value)} (hd : decode (mc M) pc = .ok (.istore j, 2)) (hn : j < ml M) (hl : g_put1 lv j (.int x) = lv2) (h : gJ em E M n0 s0 (pc + 2) lv2 st S o) : gJ em E M n0 s0 pc lv (.int x :: st) S o :=
  gJ.stepL (fun p e s m args below meth c R Q H locs ls cells slots hx hb hl2 k => lv_istore hx hb hd hl2 hn (by rw [← hl]; exact g_put1_eq E lv j (.int x)) k) h
theorem X_astore_n {i : Fin 4} {j : Nat} {x : Nat} {lv2 : List (Nat × Value)} (hd : decode (mc M) pc = .ok (.astore_n i, 1)) (hi : (i : Nat) = j) (hn : j < ml M) (hl : g_put1 lv j (.ref x) = lv2) (h : gJ em E M n0 s0 (pc + 1) lv2 st S o) : gJ em E M n0 s0 pc lv (.ref x :: st) S o :=
  gJ.stepL (fun p e s m args below meth c R Q H locs ls cells slots hx hb hl2 k => lv_astore_n hx hb hd hi hl2 hn (by rw [← hl]; exact g_put1_eq E lv j (.ref x)) k) h
theorem X_astore {j : Nat} {x : Nat} {lv2 : List (Nat × Value)} (hd : decode (mc M) pc = .ok (.astore j, 2)) (hn : j < ml M) (hl : g_put1 lv j (.ref x) = lv2) (h : gJ em E M n0 s0 (pc + 2) lv2 st S o) : gJ em E M n0 s0 pc lv (.ref x :: st) S o :=
  gJ.stepL (fun p e s m args below meth c R Q H locs ls cells slots hx hb hl2 k => lv_astore hx hb hd hl2 hn (by rw [← hl]; exact g_put1_eq E lv j (.ref x)) k) h
theorem X_lstore_n {i : Fin 4} {j : Nat} {x : Int64} {lv2 : List (Nat × Value)} (hd : decode (mc M) pc = .ok (.lstore_n i, 1)) (hi : (i : Nat) = j) (hn : j + 1 < ml M) (hl : g_put2 lv j (.long x) = lv2) (h : gJ em E M n0 s0 (pc + 1) lv2 st S o) : gJ em E M n0 s0 pc lv (.long x :: st) S o :=
  gJ.stepL (fun p e s m args below meth c R Q H locs ls cells slots hx hb hl2 k => lv_lstore_n hx hb hd hi hl2 hn (by rw [← hl]; exact g_put2_eq E lv j (.long x)) k) h
theorem X_lstore {j : Nat} {x : Int64} {lv2 : List (Nat × Value)} (hd : decode (mc M) pc = .ok (.lstore j, 2)) (hn : j + 1 < ml M) (hl : g_put2 lv j (.long x) = lv2) (h : gJ em E M n0 s0 (pc + 2) lv2 st S o) : gJ em E M n0 s0 pc lv (.long x :: st) S o :=
  gJ.stepL (fun p e s m args below meth c R Q H locs ls cells slots hx hb hl2 k => lv_lstore hx hb hd hl2 hn (by rw [← hl]; exact g_put2_eq E lv j (.long x)) k) h
theorem X_iinc {j k : Nat} {n : Int} {x v : Int32} {lv2 : List (Nat × Value)} (hd : decode (mc M) pc = .ok (.iinc j n, 3)) (hk : lv[k]? = some (j, .int x)) (hv : Int32.ofInt n = v) (hn : j < ml M) (hl : g_put1 lv j (.int (x + v)) = lv2) (h : gJ em E M n0 s0 (pc + 3) lv2 st S o) : gJ em E M n0 s0 pc lv st S o :=
  gJ.stepL (fun p e s m args below meth c R Q H locs ls cells slots hx hb hl2 k2 => lv_iinc (k := k) (x := x) (v := x + v) hx hb hd hl2 (by simp [g_lv, hk, g_rv]) (by rw [hv]) hn (by rw [← hl]; exact g_put1_eq E lv j (.int (x + v))) k2) h
end XR
end
section
theorem X_iadd {ρ : Type} {em : ρ → Option Value × gS} {E : gE} {M : gM} {n0 s0 pc : Nat} {lv : List (Nat × Value)} {st : List Value} {S : gS} {o : Option ρ} {x y : Int32} (hd : decode (mc M) pc = .ok (.iadd, 1)) (h : gJ em E M n0 s0 (pc + 1) lv (.int (x + y) :: st) S o) : gJ em E M n0 s0 pc lv (.int y :: .int x :: st) S o := gJ.step (fun p e s m args below meth c R Q H locs ls cells slots hx hb k => lv_iadd hx hb hd k) h
theorem X_isub {ρ : Type} {em : ρ → Option Value × gS} {E : gE} {M : gM} {n0 s0 pc : Nat} {lv : List (Nat × Value)} {st : List Value} {S : gS} {o : Option ρ} {x y : Int32} (hd : decode (mc M) pc = .ok (.isub, 1)) (h : gJ em E M n0 s0 (pc + 1) lv (.int (x - y) :: st) S o) : gJ em E M n0 s0 pc lv (.int y :: .int x :: st) S o := gJ.step (fun p e s m args below meth c R Q H locs ls cells slots hx hb k => lv_isub hx hb hd k) h
theorem X_imul {ρ : Type} {em : ρ → Option Value × gS} {E : gE} {M : gM} {n0 s0 pc : Nat} {lv : List (Nat × Value)} {st : List Value} {S : gS} {o : Option ρ} {x y : Int32} (hd : decode (mc M) pc = .ok (.imul, 1)) (h : gJ em E M n0 s0 (pc + 1) lv (.int (x * y) :: st) S o) : gJ em E M n0 s0 pc lv (.int y :: .int x :: st) S o := gJ.step (fun p e s m args below meth c R Q H locs ls cells slots hx hb k => lv_imul hx hb hd k) h
theorem X_iand {ρ : Type} {em : ρ → Option Value × gS} {E : gE} {M : gM} {n0 s0 pc : Nat} {lv : List (Nat × Value)} {st : List Value} {S : gS} {o : Option ρ} {x y : Int32} (hd : decode (mc M) pc = .ok (.iand, 1)) (h : gJ em E M n0 s0 (pc + 1) lv (.int (x &&& y) :: st) S o) : gJ em E M n0 s0 pc lv (.int y :: .int x :: st) S o := gJ.step (fun p e s m args below meth c R Q H locs ls cells slots hx hb k => lv_iand hx hb hd k) h
theorem X_ior {ρ : Type} {em : ρ → Option Value × gS} {E : gE} {M : gM} {n0 s0 pc : Nat} {lv : List (Nat × Value)} {st : List Value} {S : gS} {o : Option ρ} {x y : Int32} (hd : decode (mc M) pc = .ok (.ior, 1)) (h : gJ em E M n0 s0 (pc + 1) lv (.int (x ||| y) :: st) S o) : gJ em E M n0 s0 pc lv (.int y :: .int x :: st) S o := gJ.step (fun p e s m args below meth c R Q H locs ls cells slots hx hb k => lv_ior hx hb hd k) h
theorem X_ixor {ρ : Type} {em : ρ → Option Value × gS} {E : gE} {M : gM} {n0 s0 pc : Nat} {lv : List (Nat × Value)} {st : List Value} {S : gS} {o : Option ρ} {x y : Int32} (hd : decode (mc M) pc = .ok (.ixor, 1)) (h : gJ em E M n0 s0 (pc + 1) lv (.int (x ^^^ y) :: st) S o) : gJ em E M n0 s0 pc lv (.int y :: .int x :: st) S o := gJ.step (fun p e s m args below meth c R Q H locs ls cells slots hx hb k => lv_ixor hx hb hd k) h
theorem X_idiv {ρ : Type} {em : ρ → Option Value × gS} {E : gE} {M : gM} {n0 s0 pc : Nat} {lv : List (Nat × Value)} {st : List Value} {S : gS} {o : Option ρ} {x y : Int32} (hd : decode (mc M) pc = .ok (.idiv, 1)) (hne : ¬ y = 0) (h : gJ em E M n0 s0 (pc + 1) lv (.int (x / y) :: st) S o) : gJ em E M n0 s0 pc lv (.int y :: .int x :: st) S o := gJ.step (fun p e s m args below meth c R Q H locs ls cells slots hx hb k => lv_idiv hx hb hd hne k) h
theorem X_irem {ρ : Type} {em : ρ → Option Value × gS} {E : gE} {M : gM} {n0 s0 pc : Nat} {lv : List (Nat × Value)} {st : List Value} {S : gS} {o : Option ρ} {x y : Int32} (hd : decode (mc M) pc = .ok (.irem, 1)) (hne : ¬ y = 0) (h : gJ em E M n0 s0 (pc + 1) lv (.int (x - x / y * y) :: st) S o) : gJ em E M n0 s0 pc lv (.int y :: .int x :: st) S o := gJ.step (fun p e s m args below meth c R Q H locs ls cells slots hx hb k => lv_irem hx hb hd hne k) h
theorem X_ladd {ρ : Type} {em : ρ → Option Value × gS} {E : gE} {M : gM} {n0 s0 pc : Nat} {lv : List (Nat × Value)} {st : List Value} {S : gS} {o : Option ρ} {x y : Int64} (hd : decode (mc M) pc = .ok (.ladd, 1)) (h : gJ em E M n0 s0 (pc + 1) lv (.long (x + y) :: st) S o) : gJ em E M n0 s0 pc lv (.long y :: .long x :: st) S o := gJ.step (fun p e s m args below meth c R Q H locs ls cells slots hx hb k => lv_ladd hx hb hd k) h
theorem X_lsub {ρ : Type} {em : ρ → Option Value × gS} {E : gE} {M : gM} {n0 s0 pc : Nat} {lv : List (Nat × Value)} {st : List Value} {S : gS} {o : Option ρ} {x y : Int64} (hd : decode (mc M) pc = .ok (.lsub, 1)) (h : gJ em E M n0 s0 (pc + 1) lv (.long (x - y) :: st) S o) : gJ em E M n0 s0 pc lv (.long y :: .long x :: st) S o := gJ.step (fun p e s m args below meth c R Q H locs ls cells slots hx hb k => lv_lsub hx hb hd k) h
theorem X_lmul {ρ : Type} {em : ρ → Option Value × gS} {E : gE} {M : gM} {n0 s0 pc : Nat} {lv : List (Nat × Value)} {st : List Value} {S : gS} {o : Option ρ} {x y : Int64} (hd : decode (mc M) pc = .ok (.lmul, 1)) (h : gJ em E M n0 s0 (pc + 1) lv (.long (x * y) :: st) S o) : gJ em E M n0 s0 pc lv (.long y :: .long x :: st) S o := gJ.step (fun p e s m args below meth c R Q H locs ls cells slots hx hb k => lv_lmul hx hb hd k) h
theorem X_land {ρ : Type} {em : ρ → Option Value × gS} {E : gE} {M : gM} {n0 s0 pc : Nat} {lv : List (Nat × Value)} {st : List Value} {S : gS} {o : Option ρ} {x y : Int64} (hd : decode (mc M) pc = .ok (.land, 1)) (h : gJ em E M n0 s0 (pc + 1) lv (.long (x &&& y) :: st) S o) : gJ em E M n0 s0 pc lv (.long y :: .long x :: st) S o := gJ.step (fun p e s m args below meth c R Q H locs ls cells slots hx hb k => lv_land hx hb hd k) h
theorem X_lor {ρ : Type} {em : ρ → Option Value × gS} {E : gE} {M : gM} {n0 s0 pc : Nat} {lv : List (Nat × Value)} {st : List Value} {S : gS} {o : Option ρ} {x y : Int64} (hd : decode (mc M) pc = .ok (.lor, 1)) (h : gJ em E M n0 s0 (pc + 1) lv (.long (x ||| y) :: st) S o) : gJ em E M n0 s0 pc lv (.long y :: .long x :: st) S o := gJ.step (fun p e s m args below meth c R Q H locs ls cells slots hx hb k => lv_lor hx hb hd k) h
theorem X_lxor {ρ : Type} {em : ρ → Option Value × gS} {E : gE} {M : gM} {n0 s0 pc : Nat} {lv : List (Nat × Value)} {st : List Value} {S : gS} {o : Option ρ} {x y : Int64} (hd : decode (mc M) pc = .ok (.lxor, 1)) (h : gJ em E M n0 s0 (pc + 1) lv (.long (x ^^^ y) :: st) S o) : gJ em E M n0 s0 pc lv (.long y :: .long x :: st) S o := gJ.step (fun p e s m args below meth c R Q H locs ls cells slots hx hb k => lv_lxor hx hb hd k) h
theorem X_ldiv {ρ : Type} {em : ρ → Option Value × gS} {E : gE} {M : gM} {n0 s0 pc : Nat} {lv : List (Nat × Value)} {st : List Value} {S : gS} {o : Option ρ} {x y : Int64} (hd : decode (mc M) pc = .ok (.ldiv, 1)) (hne : ¬ y = 0) (h : gJ em E M n0 s0 (pc + 1) lv (.long (x / y) :: st) S o) : gJ em E M n0 s0 pc lv (.long y :: .long x :: st) S o := gJ.step (fun p e s m args below meth c R Q H locs ls cells slots hx hb k => lv_ldiv hx hb hd hne k) h
theorem X_lrem {ρ : Type} {em : ρ → Option Value × gS} {E : gE} {M : gM} {n0 s0 pc : Nat} {lv : List (Nat × Value)} {st : List Value} {S : gS} {o : Option ρ} {x y : Int64} (hd : decode (mc M) pc = .ok (.lrem, 1)) (hne : ¬ y = 0) (h : gJ em E M n0 s0 (pc + 1) lv (.long (x - x / y * y) :: st) S o) : gJ em E M n0 s0 pc lv (.long y :: .long x :: st) S o := gJ.step (fun p e s m args below meth c R Q H locs ls cells slots hx hb k => lv_lrem hx hb hd hne k) h
theorem X_ineg {ρ : Type} {em : ρ → Option Value × gS} {E : gE} {M : gM} {n0 s0 pc : Nat} {lv : List (Nat × Value)} {st : List Value} {S : gS} {o : Option ρ} {x : Int32} (hd : decode (mc M) pc = .ok (.ineg, 1)) (h : gJ em E M n0 s0 (pc + 1) lv (.int (-x) :: st) S o) : gJ em E M n0 s0 pc lv (.int x :: st) S o := gJ.step (fun p e s m args below meth c R Q H locs ls cells slots hx hb k => lv_ineg hx hb hd k) h
theorem X_lneg {ρ : Type} {em : ρ → Option Value × gS} {E : gE} {M : gM} {n0 s0 pc : Nat} {lv : List (Nat × Value)} {st : List Value} {S : gS} {o : Option ρ} {x : Int64} (hd : decode (mc M) pc = .ok (.lneg, 1)) (h : gJ em E M n0 s0 (pc + 1) lv (.long (-x) :: st) S o) : gJ em E M n0 s0 pc lv (.long x :: st) S o := gJ.step (fun p e s m args below meth c R Q H locs ls cells slots hx hb k => lv_lneg hx hb hd k) h
theorem X_ishl {ρ : Type} {em : ρ → Option Value × gS} {E : gE} {M : gM} {n0 s0 pc : Nat} {lv : List (Nat × Value)} {st : List Value} {S : gS} {o : Option ρ} {x y : Int32} (hd : decode (mc M) pc = .ok (.ishl, 1)) (h : gJ em E M n0 s0 (pc + 1) lv (.int (x <<< (y &&& 31)) :: st) S o) : gJ em E M n0 s0 pc lv (.int y :: .int x :: st) S o := gJ.step (fun p e s m args below meth c R Q H locs ls cells slots hx hb k => lv_ishl hx hb hd k) h
theorem X_ishr {ρ : Type} {em : ρ → Option Value × gS} {E : gE} {M : gM} {n0 s0 pc : Nat} {lv : List (Nat × Value)} {st : List Value} {S : gS} {o : Option ρ} {x y : Int32} (hd : decode (mc M) pc = .ok (.ishr, 1)) (h : gJ em E M n0 s0 (pc + 1) lv (.int (x >>> (y &&& 31)) :: st) S o) : gJ em E M n0 s0 pc lv (.int y :: .int x :: st) S o := gJ.step (fun p e s m args below meth c R Q H locs ls cells slots hx hb k => lv_ishr hx hb hd k) h
theorem X_lushr {ρ : Type} {em : ρ → Option Value × gS} {E : gE} {M : gM} {n0 s0 pc : Nat} {lv : List (Nat × Value)} {st : List Value} {S : gS} {o : Option ρ} {x : Int64} {y : Int32} (hd : decode (mc M) pc = .ok (.lushr, 1)) (h : gJ em E M n0 s0 (pc + 1) lv (.long ((x.toUInt64 >>> (y.toInt64.toUInt64 &&& Int64.toUInt64 63)).toInt64) :: st) S o) : gJ em E M n0 s0 pc lv (.int y :: .long x :: st) S o := gJ.step (fun p e s m args below meth c R Q H locs ls cells slots hx hb k => lv_lushr hx hb hd rfl k) h
theorem X_lshl {ρ : Type} {em : ρ → Option Value × gS} {E : gE} {M : gM} {n0 s0 pc : Nat} {lv : List (Nat × Value)} {st : List Value} {S : gS} {o : Option ρ} {x : Int64} {y : Int32} (hd : decode (mc M) pc = .ok (.lshl, 1)) (h : gJ em E M n0 s0 (pc + 1) lv (.long (x <<< (y.toInt64 &&& 63)) :: st) S o) : gJ em E M n0 s0 pc lv (.int y :: .long x :: st) S o := gJ.step (fun p e s m args below meth c R Q H locs ls cells slots hx hb k => lv_lshl hx hb hd rfl k) h
theorem X_lshr {ρ : Type} {em : ρ → Option Value × gS} {E : gE} {M : gM} {n0 s0 pc : Nat} {lv : List (Nat × Value)} {st : List Value} {S : gS} {o : Option ρ} {x : Int64} {y : Int32} (hd : decode (mc M) pc = .ok (.lshr, 1)) (h : gJ em E M n0 s0 (pc + 1) lv (.long (x >>> (y.toInt64 &&& 63)) :: st) S o) : gJ em E M n0 s0 pc lv (.int y :: .long x :: st) S o := gJ.step (fun p e s m args below meth c R Q H locs ls cells slots hx hb k => lv_lshr hx hb hd rfl k) h
theorem X_i2l {ρ : Type} {em : ρ → Option Value × gS} {E : gE} {M : gM} {n0 s0 pc : Nat} {lv : List (Nat × Value)} {st : List Value} {S : gS} {o : Option ρ} {x : Int32} (hd : decode (mc M) pc = .ok (.i2l, 1)) (h : gJ em E M n0 s0 (pc + 1) lv (.long x.toInt64 :: st) S o) : gJ em E M n0 s0 pc lv (.int x :: st) S o := gJ.step (fun p e s m args below meth c R Q H locs ls cells slots hx hb k => lv_i2l hx hb hd rfl k) h
theorem X_l2i {ρ : Type} {em : ρ → Option Value × gS} {E : gE} {M : gM} {n0 s0 pc : Nat} {lv : List (Nat × Value)} {st : List Value} {S : gS} {o : Option ρ} {x : Int64} (hd : decode (mc M) pc = .ok (.l2i, 1)) (h : gJ em E M n0 s0 (pc + 1) lv (.int x.toInt32 :: st) S o) : gJ em E M n0 s0 pc lv (.long x :: st) S o := gJ.step (fun p e s m args below meth c R Q H locs ls cells slots hx hb k => lv_l2i hx hb hd rfl k) h
theorem X_i2s {ρ : Type} {em : ρ → Option Value × gS} {E : gE} {M : gM} {n0 s0 pc : Nat} {lv : List (Nat × Value)} {st : List Value} {S : gS} {o : Option ρ} {x : Int32} (hd : decode (mc M) pc = .ok (.i2s, 1)) (h : gJ em E M n0 s0 (pc + 1) lv (.int x.toInt16.toInt32 :: st) S o) : gJ em E M n0 s0 pc lv (.int x :: st) S o := gJ.step (fun p e s m args below meth c R Q H locs ls cells slots hx hb k => lv_i2s hx hb hd rfl k) h
theorem X_lcmp {ρ : Type} {em : ρ → Option Value × gS} {E : gE} {M : gM} {n0 s0 pc : Nat} {lv : List (Nat × Value)} {st : List Value} {S : gS} {o : Option ρ} {x y : Int64} (hd : decode (mc M) pc = .ok (.lcmp, 1)) (h : gJ em E M n0 s0 (pc + 1) lv (.int (lg_cmp x y) :: st) S o) : gJ em E M n0 s0 pc lv (.long y :: .long x :: st) S o := gJ.step (fun p e s m args below meth c R Q H locs ls cells slots hx hb k => W.lcmp hx hb hd k) h
theorem X_dup {ρ : Type} {em : ρ → Option Value × gS} {E : gE} {M : gM} {n0 s0 pc : Nat} {lv : List (Nat × Value)} {st : List Value} {S : gS} {o : Option ρ} {v : Value} (hd : decode (mc M) pc = .ok (.dup, 1)) (hv : v.category = 1) (h : gJ em E M n0 s0 (pc + 1) lv (v :: v :: st) S o) : gJ em E M n0 s0 pc lv (v :: st) S o := gJ.step (fun p e s m args below meth c R Q H locs ls cells slots hx hb k => lv_dup hx hb hd (by rw [g_rv_cat]; exact hv) k) h
theorem X_pop {ρ : Type} {em : ρ → Option Value × gS} {E : gE} {M : gM} {n0 s0 pc : Nat} {lv : List (Nat × Value)} {st : List Value} {S : gS} {o : Option ρ} {v : Value} (hd : decode (mc M) pc = .ok (.pop, 1)) (hv : v.category = 1) (h : gJ em E M n0 s0 (pc + 1) lv (st) S o) : gJ em E M n0 s0 pc lv (v :: st) S o := gJ.step (fun p e s m args below meth c R Q H locs ls cells slots hx hb k => lv_pop hx hb hd (by rw [g_rv_cat]; exact hv) k) h
theorem X_dup2 {ρ : Type} {em : ρ → Option Value × gS} {E : gE} {M : gM} {n0 s0 pc : Nat} {lv : List (Nat × Value)} {st : List Value} {S : gS} {o : Option ρ} {v w : Value} (hd : decode (mc M) pc = .ok (.dup2, 1)) (hv : v.category = 1) (hw : w.category = 1) (h : gJ em E M n0 s0 (pc + 1) lv (v :: w :: v :: w :: st) S o) : gJ em E M n0 s0 pc lv (v :: w :: st) S o := gJ.step (fun p e s m args below meth c R Q H locs ls cells slots hx hb k => lv_dup2_11 hx hb hd (by rw [g_rv_cat]; exact hv) (by rw [g_rv_cat]; exact hw) k) h
theorem X_dup_x1 {ρ : Type} {em : ρ → Option Value × gS} {E : gE} {M : gM} {n0 s0 pc : Nat} {lv : List (Nat × Value)} {st : List Value} {S : gS} {o : Option ρ} {v w : Value} (hd : decode (mc M) pc = .ok (.dup_x1, 1)) (hv : v.category = 1) (hw : w.category = 1) (h : gJ em E M n0 s0 (pc + 1) lv (v :: w :: v :: st) S o) : gJ em E M n0 s0 pc lv (v :: w :: st) S o := gJ.step (fun p e s m args below meth c R Q H locs ls cells slots hx hb k => lv_dup_x1 hx hb hd (by rw [g_rv_cat]; exact hv) (by rw [g_rv_cat]; exact hw) k) h
theorem X_goto {ρ : Type} {em : ρ → Option Value × gS} {E : gE} {M : gM} {n0 s0 pc : Nat} {lv : List (Nat × Value)} {st : List Value} {S : gS} {o : Option ρ} {off : Int} {tgt : Nat} (hd : decode (mc M) pc = .ok (.goto off, 3)) (ht : (pc : Int) + off = (tgt : Int)) (h : gJ em E M n0 s0 tgt lv st S o) : gJ em E M n0 s0 pc lv st S o := gJ.step (fun p e s m args below meth c R Q H locs ls cells slots hx hb k => lv_goto hx hb hd ht k) h
theorem gJ.br {ρ : Type} {em : ρ → Option Value × gS} {E : gE} {M : gM} {n0 s0 pc : Nat} {lv : List (Nat × Value)} {st : List Value} {S : gS} {pc2 pc3 : Nat} {st2 : List Value} {cnd : Prop} {d : Decidable cnd} {o2 o3 : Option ρ}
    (hW : ∀ (p : Program) (e : Env) (s : State) (m : MethodId) (args : Array Value) (below : List Frame) (meth : Method) (c : Code) (R : Room) (Q : State → Prop) (H : Heap) (locs : List Loc) (ls : Array Slot) (cells slots : Nat), p.tables.exec = Jvm.exec → c.code = mc M →
      (cnd → W p (eL E) e R s m args below meth c H locs cells slots Q (F0 m pc2 ls (st2.map (g_rv E)))) → (¬ cnd → W p (eL E) e R s m args below meth c H locs cells slots Q (F0 m pc3 ls (st2.map (g_rv E)))) → W p (eL E) e R s m args below meth c H locs cells slots Q (F0 m pc ls (st.map (g_rv E))))
    (ha : gJ em E M n0 s0 pc2 lv st2 S o2) (hb : gJ em E M n0 s0 pc3 lv st2 S o3) : gJ em E M n0 s0 pc lv st S (@ite _ cnd d o2 o3) := by
  intro z hz
  by_cases hc : cnd
  · rw [if_pos hc] at hz
    obtain ⟨m1, m2, hG⟩ := ha z hz
    exact ⟨m1, m2, fun p e s m args below meth c R Q hX H locs ls hl hP hS h1 h2 => hW p e s m args below meth c R Q H locs ls _ _ hX.1 hX.2.1 (fun _ => hG p e s m args below meth c R Q hX H locs ls hl hP hS h1 h2) (fun h => absurd hc h)⟩
  · rw [if_neg hc] at hz
    obtain ⟨m1, m2, hG⟩ := hb z hz
    exact ⟨m1, m2, fun p e s m args below meth c R Q hX H locs ls hl hP hS h1 h2 => hW p e s m args below meth c R Q H locs ls _ _ hX.1 hX.2.1 (fun h => absurd h hc) (fun _ => hG p e s m args below meth c R Q hX H locs ls hl hP hS h1 h2)⟩
theorem X_if_eq {ρ : Type} {em : ρ → Option Value × gS} {E : gE} {M : gM} {n0 s0 pc : Nat} {lv : List (Nat × Value)} {st : List Value} {S : gS} {o2 o3 : Option ρ} {x : Int32} {off : Int} {tgt : Nat} (hd : decode (mc M) pc = .ok (.ifCond .eq off, 3)) (ht : (pc : Int) + off = (tgt : Int)) (ha : gJ em E M n0 s0 tgt lv st S o2) (hb : gJ em E M n0 s0 (pc + 3) lv st S o3) : gJ em E M n0 s0 pc lv (.int x :: st) S (if x = 0 then o2 else o3) := gJ.br (fun p e s m args below meth c R Q H locs ls cells slots hx hb k1 k2 => lv_if_eq hx hb hd ht k1 k2) ha hb
theorem X_icmp_eq {ρ : Type} {em : ρ → Option Value × gS} {E : gE} {M : gM} {n0 s0 pc : Nat} {lv : List (Nat × Value)} {st : List Value} {S : gS} {o2 o3 : Option ρ} {x y : Int32} {off : Int} {tgt : Nat} (hd : decode (mc M) pc = .ok (.if_icmp .eq off, 3)) (ht : (pc : Int) + off = (tgt : Int)) (ha : gJ em E M n0 s0 tgt lv st S o2) (hb : gJ em E M n0 s0 (pc + 3) lv st S o3) : gJ em E M n0 s0 pc lv (.int y :: .int x :: st) S (if x = y then o2 else o3) := gJ.br (fun p e s m args below meth c R Q H locs ls cells slots hx hb k1 k2 => lv_icmp_eq hx hb hd ht k1 k2) ha hb
theorem X_if_ne {ρ : Type} {em : ρ → Option Value × gS} {E : gE} {M : gM} {n0 s0 pc : Nat} {lv : List (Nat × Value)} {st : List Value} {S : gS} {o2 o3 : Option ρ} {x : Int32} {off : Int} {tgt : Nat} (hd : decode (mc M) pc = .ok (.ifCond .ne off, 3)) (ht : (pc : Int) + off = (tgt : Int)) (ha : gJ em E M n0 s0 (pc + 3) lv st S o2) (hb : gJ em E M n0 s0 tgt lv st S o3) : gJ em E M n0 s0 pc lv (.int x :: st) S (if x = 0 then o2 else o3) := gJ.br (fun p e s m args below meth c R Q H locs ls cells slots hx hb k1 k2 => lv_if_ne hx hb hd ht k2 k1) ha hb
theorem X_icmp_ne {ρ : Type} {em : ρ → Option Value × gS} {E : gE} {M : gM} {n0 s0 pc : Nat} {lv : List (Nat × Value)} {st : List Value} {S : gS} {o2 o3 : Option ρ} {x y : Int32} {off : Int} {tgt : Nat} (hd : decode (mc M) pc = .ok (.if_icmp .ne off, 3)) (ht : (pc : Int) + off = (tgt : Int)) (ha : gJ em E M n0 s0 (pc + 3) lv st S o2) (hb : gJ em E M n0 s0 tgt lv st S o3) : gJ em E M n0 s0 pc lv (.int y :: .int x :: st) S (if x = y then o2 else o3) := gJ.br (fun p e s m args below meth c R Q H locs ls cells slots hx hb k1 k2 => lv_icmp_ne hx hb hd ht k2 k1) ha hb
theorem X_if_lt {ρ : Type} {em : ρ → Option Value × gS} {E : gE} {M : gM} {n0 s0 pc : Nat} {lv : List (Nat × Value)} {st : List Value} {S : gS} {o2 o3 : Option ρ} {x : Int32} {off : Int} {tgt : Nat} (hd : decode (mc M) pc = .ok (.ifCond .lt off, 3)) (ht : (pc : Int) + off = (tgt : Int)) (ha : gJ em E M n0 s0 tgt lv st S o2) (hb : gJ em E M n0 s0 (pc + 3) lv st S o3) : gJ em E M n0 s0 pc lv (.int x :: st) S (if x < 0 then o2 else o3) := gJ.br (fun p e s m args below meth c R Q H locs ls cells slots hx hb k1 k2 => lv_if_lt hx hb hd ht k1 k2) ha hb
theorem X_icmp_lt {ρ : Type} {em : ρ → Option Value × gS} {E : gE} {M : gM} {n0 s0 pc : Nat} {lv : List (Nat × Value)} {st : List Value} {S : gS} {o2 o3 : Option ρ} {x y : Int32} {off : Int} {tgt : Nat} (hd : decode (mc M) pc = .ok (.if_icmp .lt off, 3)) (ht : (pc : Int) + off = (tgt : Int)) (ha : gJ em E M n0 s0 tgt lv st S o2) (hb : gJ em E M n0 s0 (pc + 3) lv st S o3) : gJ em E M n0 s0 pc lv (.int y :: .int x :: st) S (if x < y then o2 else o3) := gJ.br (fun p e s m args below meth c R Q H locs ls cells slots hx hb k1 k2 => lv_icmp_lt hx hb hd ht k1 k2) ha hb
theorem X_if_ge {ρ : Type} {em : ρ → Option Value × gS} {E : gE} {M : gM} {n0 s0 pc : Nat} {lv : List (Nat × Value)} {st : List Value} {S : gS} {o2 o3 : Option ρ} {x : Int32} {off : Int} {tgt : Nat} (hd : decode (mc M) pc = .ok (.ifCond .ge off, 3)) (ht : (pc : Int) + off = (tgt : Int)) (ha : gJ em E M n0 s0 tgt lv st S o2) (hb : gJ em E M n0 s0 (pc + 3) lv st S o3) : gJ em E M n0 s0 pc lv (.int x :: st) S (if 0 ≤ x then o2 else o3) := gJ.br (fun p e s m args below meth c R Q H locs ls cells slots hx hb k1 k2 => lv_if_ge hx hb hd ht k1 k2) ha hb
theorem X_icmp_ge {ρ : Type} {em : ρ → Option Value × gS} {E : gE} {M : gM} {n0 s0 pc : Nat} {lv : List (Nat × Value)} {st : List Value} {S : gS} {o2 o3 : Option ρ} {x y : Int32} {off : Int} {tgt : Nat} (hd : decode (mc M) pc = .ok (.if_icmp .ge off, 3)) (ht : (pc : Int) + off = (tgt : Int)) (ha : gJ em E M n0 s0 tgt lv st S o2) (hb : gJ em E M n0 s0 (pc + 3) lv st S o3) : gJ em E M n0 s0 pc lv (.int y :: .int x :: st) S (if y ≤ x then o2 else o3) := gJ.br (fun p e s m args below meth c R Q H locs ls cells slots hx hb k1 k2 => lv_icmp_ge hx hb hd ht k1 k2) ha hb
theorem X_if_gt {ρ : Type} {em : ρ → Option Value × gS} {E : gE} {M : gM} {n0 s0 pc : Nat} {lv : List (Nat × Value)} {st : List Value} {S : gS} {o2 o3 : Option ρ} {x : Int32} {off : Int} {tgt : Nat} (hd : decode (mc M) pc = .ok (.ifCond .gt off, 3)) (ht : (pc : Int) + off = (tgt : Int)) (ha : gJ em E M n0 s0 tgt lv st S o2) (hb : gJ em E M n0 s0 (pc + 3) lv st S o3) : gJ em E M n0 s0 pc lv (.int x :: st) S (if 0 < x then o2 else o3) := gJ.br (fun p e s m args below meth c R Q H locs ls cells slots hx hb k1 k2 => lv_if_gt hx hb hd ht k1 k2) ha hb
theorem X_icmp_gt {ρ : Type} {em : ρ → Option Value × gS} {E : gE} {M : gM} {n0 s0 pc : Nat} {lv : List (Nat × Value)} {st : List Value} {S : gS} {o2 o3 : Option ρ} {x y : Int32} {off : Int} {tgt : Nat} (hd : decode (mc M) pc = .ok (.if_icmp .gt off, 3)) (ht : (pc : Int) + off = (tgt : Int)) (ha : gJ em E M n0 s0 tgt lv st S o2) (hb : gJ em E M n0 s0 (pc + 3) lv st S o3) : gJ em E M n0 s0 pc lv (.int y :: .int x :: st) S (if y < x then o2 else o3) := gJ.br (fun p e s m args below meth c R Q H locs ls cells slots hx hb k1 k2 => lv_icmp_gt hx hb hd ht k1 k2) ha hb
theorem X_if_le {ρ : Type} {em : ρ → Option Value × gS} {E : gE} {M : gM} {n0 s0 pc : Nat} {lv : List (Nat × Value)} {st : List Value} {S : gS} {o2 o3 : Option ρ} {x : Int32} {off : Int} {tgt : Nat} (hd : decode (mc M) pc = .ok (.ifCond .le off, 3)) (ht : (pc : Int) + off = (tgt : Int)) (ha : gJ em E M n0 s0 tgt lv st S o2) (hb : gJ em E M n0 s0 (pc + 3) lv st S o3) : gJ em E M n0 s0 pc lv (.int x :: st) S (if x ≤ 0 then o2 else o3) := gJ.br (fun p e s m args below meth c R Q H locs ls cells slots hx hb k1 k2 => lv_if_le hx hb hd ht k1 k2) ha hb
theorem X_icmp_le {ρ : Type} {em : ρ → Option Value × gS} {E : gE} {M : gM} {n0 s0 pc : Nat} {lv : List (Nat × Value)} {st : List Value} {S : gS} {o2 o3 : Option ρ} {x y : Int32} {off : Int} {tgt : Nat} (hd : decode (mc M) pc = .ok (.if_icmp .le off, 3)) (ht : (pc : Int) + off = (tgt : Int)) (ha : gJ em E M n0 s0 tgt lv st S o2) (hb : gJ em E M n0 s0 (pc + 3) lv st S o3) : gJ em E M n0 s0 pc lv (.int y :: .int x :: st) S (if x ≤ y then o2 else o3) := gJ.br (fun p e s m args below meth c R Q H locs ls cells slots hx hb k1 k2 => lv_icmp_le hx hb hd ht k1 k2) ha hb
theorem X_tin {ρ : Type} {em : ρ → Option Value × gS} {E : gE} {M : gM} {n0 s0 pc : Nat} {lv : List (Nat × Value)} {st : List Value} {S : gS} {o : Option ρ} {dflt lo hi : Int} {offs : Array Int} {len : Nat} {x : Int32} {off : Int} {tgt : Nat} (hd : decode (mc M) pc = .ok (.tableswitch dflt lo hi offs, len)) (h1 : ¬ x.toInt < lo) (h2 : ¬ hi < x.toInt) (ho : offs[(x.toInt - lo).toNat]? = some off) (ht : (pc : Int) + off = (tgt : Int)) (h : gJ em E M n0 s0 tgt lv st S o) : gJ em E M n0 s0 pc lv (.int x :: st) S o := gJ.step (fun p e s m args below meth c R Q H locs ls cells slots hx hb k => lv_tableIn hx hb hd h1 h2 ho ht k) h
theorem X_tout {ρ : Type} {em : ρ → Option Value × gS} {E : gE} {M : gM} {n0 s0 pc : Nat} {lv : List (Nat × Value)} {st : List Value} {S : gS} {o : Option ρ} {dflt lo hi : Int} {offs : Array Int} {len : Nat} {x : Int32} {tgt : Nat} (hd : decode (mc M) pc = .ok (.tableswitch dflt lo hi offs, len)) (h1 : x.toInt < lo ∨ hi < x.toInt) (ht : (pc : Int) + dflt = (tgt : Int)) (h : gJ em E M n0 s0 tgt lv st S o) : gJ em E M n0 s0 pc lv (.int x :: st) S o := gJ.step (fun p e s m args below meth c R Q H locs ls cells slots hx hb k => lv_tableOut hx hb hd h1 ht k) h
theorem X_look {ρ : Type} {em : ρ → Option Value × gS} {E : gE} {M : gM} {n0 s0 pc : Nat} {lv : List (Nat × Value)} {st : List Value} {S : gS} {o : Option ρ} {dflt : Int} {ps : Array (Int × Int)} {len : Nat} {x : Int32} {off : Int} {tgt : Nat} (hd : decode (mc M) pc = .ok (.lookupswitch dflt ps, len)) (hp : (ps.toList.zip (ps.toList.drop 1)).all (fun (a, next) => a.1 < next.1) = true) (ho : Op.lookupswitch.offset ps.toList dflt x.toInt = off) (ht : (pc : Int) + off = (tgt : Int)) (h : gJ em E M n0 s0 tgt lv st S o) : gJ em E M n0 s0 pc lv (.int x :: st) S o := gJ.step (fun p e s m args below meth c R Q H locs ls cells slots hx hb k => lv_lookup hx hb hd hp ho ht k) h
end
section
section XH
variable {ρ : Type} {em : ρ → Option Value × gS} {E : gE} {M : gM} {n0 s0 pc : Nat} {lv : List (Nat × Value)} {st : List Value} {S : gS} {o : Option ρ}
/-! ===== fields ===== -/
/-- a field's link among the tables' words -/
def g_okF (own : String) (idx ci j : Nat) : Prop := ci < 10 ∧ j < gNf ci ∧ Cond.fieldLink own idx ((g_cl ci).2.1 j).1 ((g_cl ci).2.1 j).2.1 ((g_cl ci).2.1 j).2.2.1 ∈ lw_good
def g_is (S : gS) (ci a : Nat) : Prop := gK S a = ci ∧ a < gn S
def g_dec (S : gS) (ci a : Nat) : Decidable (g_is S ci a) := inferInstanceAs (Decidable (_ ∧ _))
def g_ck {α : Type} (S : gS) (ci a : Nat) (o : Option α) : Option α := @ite _ (g_is S ci a) (g_dec S ci a) o none
theorem g_ck_t {α : Type} {S : gS} {ci a : Nat} {o : Option α} (h : g_is S ci a) : g_ck S ci a o = o := if_pos h
theorem g_ck_s {α : Type} {S : gS} {ci a : Nat} {o : Option α} {z : α} (h : g_ck S ci a o = some z) : g_is S ci a ∧ o = some z := by
  unfold g_ck at h
  by_cases hc : g_is S ci a
  · rw [if_pos hc] at h; exact ⟨hc, h⟩
  · rw [if_neg hc] at h; cases h
def g_getI {α : Type} (S : gS) (ci j a : Nat) (F : Int32 → Option α) : Option α := g_ck S ci a (F (gfI S (64 * ci + j) a))
def g_getL {α : Type} (S : gS) (ci j a : Nat) (F : Int64 → Option α) : Option α := g_ck S ci a (F (gfL S (64 * ci + j) a))
def g_getR {α : Type} (S : gS) (ci j a : Nat) (F : Nat → Option α) : Option α := g_ck S ci a ((gfR S (64 * ci + j) a).bind F)
def g_putI {α : Type} (S : gS) (ci j a : Nat) (v : Int32) (F : gS → Option α) : Option α := g_ck S ci a (F (g_pI S (64 * ci + j) a v))
def g_putZ {α : Type} (S : gS) (ci j a : Nat) (v : Int32) (F : gS → Option α) : Option α := g_ck S ci a (if v = 0 ∨ v = 1 then F (g_pI S (64 * ci + j) a v) else none)
def g_putL {α : Type} (S : gS) (ci j a : Nat) (v : Int64) (F : gS → Option α) : Option α := g_ck S ci a (F (g_pL S (64 * ci + j) a v))
def g_putR {α : Type} (S : gS) (ci j a : Nat) (v : Nat) (F : gS → Option α) : Option α := g_ck S ci a (F (g_pR S (64 * ci + j) a (some v)))
theorem g_cell_o {ci a : Nat} (h : g_is S ci a) (hc : ci < 10) : (g_w E S)[a]? = some (e0 E + a, .inr (ci, (List.range (gNf ci)).map (g_fv E S a ci))) := by
  rw [g_w_get h.2]
  unfold g_cell
  rw [h.1, if_pos hc]
theorem g_fv_at {ci j a : Nat} (hj : j < gNf ci) : ((List.range (gNf ci)).map (g_fv E S a ci))[j]? = some (g_fv E S a ci j) := by
  simp [hj]
/-- a field is read -/
theorem g_getW {p : Program} {e : Env} {s : State} {m : MethodId} {args : Array Value} {below : List Frame} {meth : Method} {c : Code} {R : Room} {Q : State → Prop} {H : Heap} {locs : List Loc} {ls : Array Slot} {r : Option Value} {S' : gS} {cells slots : Nat} {rest : List Value} {idx ci j a : Nat}
    (hX : gX E M n0 s0 r S' p e s m args below meth c R Q) (hP : g_P E S H) (ho : g_okF (my M).cls idx ci j) (hi : g_is S ci a) (hd : decode (mc M) pc = .ok (.getfield idx, 3))
    (k : W p (eL E) e R s m args below meth c H locs cells slots Q (F0 m (pc + 3) ls (g_fv E S a ci j :: rest))) : W p (eL E) e R s m args below meth c H locs cells slots Q (F0 m pc ls (.ref (e0 E + a) :: rest)) := by
  obtain ⟨hc, hj, hw⟩ := ho
  obtain ⟨hx, hb, hml, hown, hts, hnm, hEv, -⟩ := hX
  exact va_get (D := eD E) (ci := ci) (C := (g_cl ci).1) (T := (g_cl ci).2.1) (N := (g_cl ci).2.2) hx hb hts (g_in hc) hown hEv.1 hP a (g_cell_o hi hc) (g_cl_at ci hc) j hj (hts _ hw) (fun _ h => h) (g_fv_at hj) hd k
theorem X_getI {idx ci j a : Nat} {F : Int32 → Option ρ} (ho : g_okF (my M).cls idx ci j) (ht : g_ft (gTy ci j) = 0) (hd : decode (mc M) pc = .ok (.getfield idx, 3)) (h : ∀ x, gJ em E M n0 s0 (pc + 3) lv (.int x :: st) S (F x)) : gJ em E M n0 s0 pc lv (.ref a :: st) S (g_getI S ci j a F) := by
  intro z hz
  obtain ⟨hi, hz⟩ := g_ck_s hz
  obtain ⟨m1, m2, hG⟩ := h _ z hz
  refine ⟨m1, m2, fun p e s m args below meth c R Q hX H locs ls hl hP hS h1 h2 => g_getW hX hP ho hi hd ?_⟩
  have e1 : g_fv E S a ci j = .int (gfI S (64 * ci + j) a) := by unfold g_fv; rw [ht]; rfl
  rw [e1]
  exact hG p e s m args below meth c R Q hX H locs ls hl hP hS h1 h2
theorem X_getL {idx ci j a : Nat} {F : Int64 → Option ρ} (ho : g_okF (my M).cls idx ci j) (ht : g_ft (gTy ci j) = 1) (hd : decode (mc M) pc = .ok (.getfield idx, 3)) (h : ∀ x, gJ em E M n0 s0 (pc + 3) lv (.long x :: st) S (F x)) : gJ em E M n0 s0 pc lv (.ref a :: st) S (g_getL S ci j a F) := by
  intro z hz
  obtain ⟨hi, hz⟩ := g_ck_s hz
  obtain ⟨m1, m2, hG⟩ := h _ z hz
  refine ⟨m1, m2, fun p e s m args below meth c R Q hX H locs ls hl hP hS h1 h2 => g_getW hX hP ho hi hd ?_⟩
  have e1 : g_fv E S a ci j = .long (gfL S (64 * ci + j) a) := by unfold g_fv; rw [ht]; rfl
  rw [e1]
  exact hG p e s m args below meth c R Q hX H locs ls hl hP hS h1 h2
theorem X_getR {idx ci j a : Nat} {F : Nat → Option ρ} (ho : g_okF (my M).cls idx ci j) (ht : g_ft (gTy ci j) = 2) (hd : decode (mc M) pc = .ok (.getfield idx, 3)) (h : ∀ x, gJ em E M n0 s0 (pc + 3) lv (.ref x :: st) S (F x)) : gJ em E M n0 s0 pc lv (.ref a :: st) S (g_getR S ci j a F) := by
  intro z hz
  obtain ⟨hi, hz⟩ := g_ck_s hz
  cases hr : gfR S (64 * ci + j) a with
  | none => rw [hr] at hz; cases hz
  | some x =>
    rw [hr] at hz
    obtain ⟨m1, m2, hG⟩ := h x z hz
    refine ⟨m1, m2, fun p e s m args below meth c R Q hX H locs ls hl hP hS h1 h2 => g_getW hX hP ho hi hd ?_⟩
    have e1 : g_fv E S a ci j = .ref (e0 E + x) := by unfold g_fv; rw [ht, hr]; rfl
    rw [e1]
    exact hG p e s m args below meth c R Q hX H locs ls hl hP hS h1 h2
/-- what a put changes -/
def g_Up (E : gE) (S S1 : gS) (ci j a : Nat) : Prop := gn S1 = gn S ∧ gsl S1 = gsl S ∧ gK S1 = gK S ∧ (∀ k, k ≠ a → g_cell E S1 k = g_cell E S k) ∧ ∀ i, i ≠ j → g_fv E S1 a ci i = g_fv E S a ci i
theorem g_Up.cell {S1 : gS} {ci j a : Nat} (h : g_Up E S S1 ci j a) (hi : g_is S ci a) (hc : ci < 10) (hj : j < gNf ci) : (g_w E S).set a (e0 E + a, .inr (ci, ((List.range (gNf ci)).map (g_fv E S a ci)).set j (g_fv E S1 a ci j))) = g_w E S1 := by
  obtain ⟨h1, h2, h3, h4, h5⟩ := h
  rw [← g_w_set h1 hi.2 h4, ← g_set_map hj h5]
  congr 2
  unfold g_cell
  rw [h3, hi.1, if_pos hc]
theorem g_Up.I {ci j a : Nat} {v : Int32} : g_Up E S (g_pI S (64 * ci + j) a v) ci j a := by
  refine ⟨rfl, rfl, rfl, fun k hk => ?_, fun i hi => ?_⟩
  · have : g_fv E (g_pI S (64 * ci + j) a v) k = g_fv E S k := by
      funext c i
      simp [g_fv, g_pI, gfI, gfL, gfR, g_up, hk]
    unfold g_cell
    rw [this]
    rfl
  · have : 64 * ci + i ≠ 64 * ci + j := by omega
    simp [g_fv, g_pI, gfI, gfL, gfR, g_up, this, hi]
theorem g_Up.L {ci j a : Nat} {v : Int64} : g_Up E S (g_pL S (64 * ci + j) a v) ci j a := by
  refine ⟨rfl, rfl, rfl, fun k hk => ?_, fun i hi => ?_⟩
  · have : g_fv E (g_pL S (64 * ci + j) a v) k = g_fv E S k := by
      funext c i
      simp [g_fv, g_pL, gfI, gfL, gfR, g_up, hk]
    unfold g_cell
    rw [this]
    rfl
  · have : 64 * ci + i ≠ 64 * ci + j := by omega
    simp [g_fv, g_pL, gfI, gfL, gfR, g_up, this, hi]
theorem g_Up.R {ci j a : Nat} {v : Option Nat} : g_Up E S (g_pR S (64 * ci + j) a v) ci j a := by
  refine ⟨rfl, rfl, rfl, fun k hk => ?_, fun i hi => ?_⟩
  · have : g_fv E (g_pR S (64 * ci + j) a v) k = g_fv E S k := by
      funext c i
      simp [g_fv, g_pR, gfI, gfL, gfR, g_up, hk]
    unfold g_cell
    rw [this]
    rfl
  · have : 64 * ci + i ≠ 64 * ci + j := by omega
    simp [g_fv, g_pR, gfI, gfL, gfR, g_up, this, hi]
/-- a field is written: not a final one, or in its own constructor -/
theorem gJ.put {idx ci j a : Nat} {v : Value} {S1 : gS} (ho : g_okF (my M).cls idx ci j) (hfin : ((g_cl ci).2.1 j).2.2.2 = false ∨ (((g_cl ci).2.1 j).2.2.2 = true ∧ (my M).name = "<init>" ∧ ((g_cl ci).2.1 j).1 = (my M).cls)) (hd : decode (mc M) pc = .ok (.putfield idx, 3)) (hi : g_is S ci a) (hU : g_Up E S S1 ci j a) (hv : g_fv E S1 a ci j = g_rv E v)
    (hn : narrow (gTy ci j) (g_rv E v) = g_rv E v) (hf : fits (gTy ci j) (g_rv E v) = true) (h : gJ em E M n0 s0 (pc + 3) lv st S1 o) : gJ em E M n0 s0 pc lv (v :: .ref a :: st) S o := by
  intro z hz
  obtain ⟨m1, m2, hG⟩ := h z hz
  rw [hU.1] at m1
  rw [hU.2.1] at m2
  refine ⟨m1, m2, fun p e s m args below meth c R Q hX H locs ls hl hP hS h1 h2 => ?_⟩
  obtain ⟨hc, hj, hw⟩ := ho
  obtain ⟨hx, hb, hml, hown, hts, hnm, hEv, -⟩ := id hX
  have kk : ∀ (H1 : Heap) (locs1 : List Loc), va_P (eD E) vwCl ((g_w E S).set a (e0 E + a, .inr (ci, ((List.range (gNf ci)).map (g_fv E S a ci)).set j (g_rv E v)))) H1 → va_D (g_A E) ((g_w E S).set a (e0 E + a, .inr (ci, ((List.range (gNf ci)).map (g_fv E S a ci)).set j (g_rv E v)))) → va_S (g_A E) s.heap H1 locs1 → W p (eL E) e R s m args below meth c H1 locs1 (gn S - n0) (gsl S - s0) Q (F0 m (pc + 3) ls (st.map (g_rv E))) := by
    intro H1 locs1 hP1 _ hS1
    rw [← hv, hU.cell hi hc hj] at hP1
    have := hG p e s m args below meth c R Q hX H1 locs1 ls hl hP1 hS1 (by rw [hU.1]; exact h1) (by rw [hU.2.1]; exact h2)
    rw [hU.1, hU.2.1] at this
    exact this
  show W _ _ _ _ _ _ _ _ _ _ _ _ _ _ _ (F0 m pc ls (g_rv E v :: .ref (e0 E + a) :: st.map (g_rv E)))
  rcases hfin with hfin | ⟨hfin, hin, hdc⟩
  · exact va_put (D := eD E) (ci := ci) (C := (g_cl ci).1) (T := (g_cl ci).2.1) (N := (g_cl ci).2.2) hx hb hts (g_in hc) (gTy ci) (g_tyok ci hc) (g_nm ci hc) hown hEv.1 hP (g_w_D E S) hS a (g_cell_o hi hc) (g_cl_at ci hc) j hj (hts _ hw) (fun _ h => h) hfin (g_tyok ci hc j hj) hn hf (by simpa using hj) hd kk
  · exact va_putF (D := eD E) (ci := ci) (C := (g_cl ci).1) (T := (g_cl ci).2.1) (N := (g_cl ci).2.2) hx hb hts (g_in hc) (gTy ci) (g_tyok ci hc) (g_nm ci hc) hown hEv.1 hP (g_w_D E S) hS a (g_cell_o hi hc) (g_cl_at ci hc) j hj (hts _ hw) (fun _ h => h) hfin (hnm.trans hin) hdc (g_tyok ci hc j hj) hn hf (by simpa using hj) hd kk
theorem X_putI {idx ci j a : Nat} {v : Int32} {F : gS → Option ρ} (ho : g_okF (my M).cls idx ci j) (ht : gTy ci j = .int) (hfin : ((g_cl ci).2.1 j).2.2.2 = false) (hd : decode (mc M) pc = .ok (.putfield idx, 3)) (h : ∀ S1, gJ em E M n0 s0 (pc + 3) lv st S1 (F S1)) : gJ em E M n0 s0 pc lv (.int v :: .ref a :: st) S (g_putI S ci j a v F) := by
  intro z hz
  obtain ⟨hi, hz⟩ := g_ck_s hz
  exact gJ.put (v := .int v) ho (Or.inl hfin) hd hi g_Up.I (by unfold g_fv; rw [ht]; simp [g_ft, g_pI, gfI, g_up, g_rv]) (by rw [ht]; rfl) (by rw [ht]; rfl) (h _) z hz
theorem X_putZ {idx ci j a : Nat} {v : Int32} {F : gS → Option ρ} (ho : g_okF (my M).cls idx ci j) (ht : gTy ci j = .boolean) (hfin : ((g_cl ci).2.1 j).2.2.2 = false) (hd : decode (mc M) pc = .ok (.putfield idx, 3)) (h : ∀ S1, gJ em E M n0 s0 (pc + 3) lv st S1 (F S1)) : gJ em E M n0 s0 pc lv (.int v :: .ref a :: st) S (g_putZ S ci j a v F) := by
  intro z hz
  obtain ⟨hi, hz⟩ := g_ck_s hz
  by_cases hv : v = 0 ∨ v = 1
  · rw [if_pos hv] at hz
    exact gJ.put (v := .int v) ho (Or.inl hfin) hd hi g_Up.I (by unfold g_fv; rw [ht]; simp [g_ft, g_pI, gfI, g_up, g_rv]) (by rw [ht]; rcases hv with rfl | rfl <;> rfl) (by rw [ht]; rcases hv with rfl | rfl <;> rfl) (h _) z hz
  · rw [if_neg hv] at hz; cases hz
theorem X_putL {idx ci j a : Nat} {v : Int64} {F : gS → Option ρ} (ho : g_okF (my M).cls idx ci j) (ht : gTy ci j = .long) (hfin : ((g_cl ci).2.1 j).2.2.2 = false) (hd : decode (mc M) pc = .ok (.putfield idx, 3)) (h : ∀ S1, gJ em E M n0 s0 (pc + 3) lv st S1 (F S1)) : gJ em E M n0 s0 pc lv (.long v :: .ref a :: st) S (g_putL S ci j a v F) := by
  intro z hz
  obtain ⟨hi, hz⟩ := g_ck_s hz
  exact gJ.put (v := .long v) ho (Or.inl hfin) hd hi g_Up.L (by unfold g_fv; rw [ht]; simp [g_ft, g_pL, gfL, g_up, g_rv]) (by rw [ht]; rfl) (by rw [ht]; rfl) (h _) z hz
theorem X_putR {idx ci j a : Nat} {v : Nat} {F : gS → Option ρ} (ho : g_okF (my M).cls idx ci j) (ht : (∃ C, gTy ci j = .object C) ∨ ∃ t, gTy ci j = .array t) (hfin : ((g_cl ci).2.1 j).2.2.2 = false ∨ (((g_cl ci).2.1 j).2.2.2 = true ∧ (my M).name = "<init>" ∧ ((g_cl ci).2.1 j).1 = (my M).cls)) (hd : decode (mc M) pc = .ok (.putfield idx, 3)) (h : ∀ S1, gJ em E M n0 s0 (pc + 3) lv st S1 (F S1)) : gJ em E M n0 s0 pc lv (.ref v :: .ref a :: st) S (g_putR S ci j a v F) := by
  intro z hz
  obtain ⟨hi, hz⟩ := g_ck_s hz
  rcases ht with ⟨C, ht⟩ | ⟨C, ht⟩
  · exact gJ.put (v := .ref v) ho hfin hd hi g_Up.R (by unfold g_fv; rw [ht]; simp [g_ft, g_pR, gfR, g_up, g_rv, g_ad, va_rf]) (by rw [ht]; rfl) (by rw [ht]; rfl) (h _) z hz
  · exact gJ.put (v := .ref v) ho hfin hd hi g_Up.R (by unfold g_fv; rw [ht]; simp [g_ft, g_pR, gfR, g_up, g_rv, g_ad, va_rf]) (by rw [ht]; rfl) (by rw [ht]; rfl) (h _) z hz
end XH
end
section
section XA
variable {ρ : Type} {em : ρ → Option Value × gS} {E : gE} {M : gM} {n0 s0 pc : Nat} {lv : List (Nat × Value)} {st : List Value} {S : gS} {o : Option ρ}
/-! ===== arrays ===== -/
def g_ix {α : Type} (n : Nat) (i : Int32) (o : Option α) : Option α := if i < 0 ∨ n ≤ i.toNatClampNeg then none else o
theorem g_ix_s {α : Type} {n : Nat} {i : Int32} {o : Option α} {z : α} (h : g_ix n i o = some z) : vp_in i n ∧ o = some z := by
  unfold g_ix at h
  by_cases hc : i < 0 ∨ n ≤ i.toNatClampNeg
  · rw [if_pos hc] at h; cases h
  · rw [if_neg hc] at h; exact ⟨hc, h⟩
theorem g_ix_t {α : Type} {n k : Nat} {o : Option α} (h : k < n) (hn : n < 2 ^ 31) : g_ix n (nI k) o = o := by
  unfold g_ix
  rw [if_neg]
  exact vp_in_nI h hn
def g_ldI {α : Type} (S : gS) (ci a : Nat) (i : Int32) (F : Int32 → Option α) : Option α := g_ck S ci a (g_ix (gln S a) i (F (gaI S a i.toNatClampNeg)))
def g_ldL {α : Type} (S : gS) (a : Nat) (i : Int32) (F : Int64 → Option α) : Option α := g_ck S 11 a (g_ix (gln S a) i (F (gaL S a i.toNatClampNeg)))
def g_ldR {α : Type} (S : gS) (ci a : Nat) (i : Int32) (F : Nat → Option α) : Option α := g_ck S ci a (g_ix (gln S a) i ((gaR S a i.toNatClampNeg).bind F))
def g_stI {α : Type} (S : gS) (a : Nat) (i x : Int32) (F : gS → Option α) : Option α := g_ck S 10 a (g_ix (gln S a) i (F (g_rI S a (upd (gaI S a) i.toNatClampNeg x))))
def g_stZ {α : Type} (S : gS) (a : Nat) (i x : Int32) (F : gS → Option α) : Option α := g_ck S 12 a (g_ix (gln S a) i (if x = 0 ∨ x = 1 then F (g_rI S a (upd (gaI S a) i.toNatClampNeg x)) else none))
def g_stL {α : Type} (S : gS) (a : Nat) (i : Int32) (x : Int64) (F : gS → Option α) : Option α := g_ck S 11 a (g_ix (gln S a) i (F (g_rL S a (vp_updL (gaL S a) i.toNatClampNeg x))))
def g_stR {α : Type} (S : gS) (ci ce a : Nat) (i : Int32) (v : Nat) (F : gS → Option α) : Option α := g_ck S ci a (g_ck S ce v (g_ix (gln S a) i (F (g_rR S a (va_up (gaR S a) i.toNatClampNeg (some v))))))
def g_alen {α : Type} (S : gS) (ci a : Nat) (F : Int32 → Option α) : Option α := g_ck S ci a (F (Int32.ofNat (gln S a)))
theorem g_ty_at {t : Nat} {q : ClassId × FieldType} (h : (g_tys E)[t]? = some q) : (g_tys E)[t]? = some q := h
theorem g_cell_I {ci a : Nat} (h : g_is S ci a) (hc : ci = 10 ∨ ci = 12) : (g_w E S)[a]? = some (e0 E + a, .inl (eC E ci, gln S a, .inl (gaI S a))) := by
  rw [g_w_get h.2]
  unfold g_cell
  rw [h.1]
  rcases hc with rfl | rfl <;> rfl
theorem g_cell_L {a : Nat} (h : g_is S 11 a) : (g_w E S)[a]? = some (e0 E + a, .inl (eC E 11, gln S a, .inr (.inl (gaL S a)))) := by
  rw [g_w_get h.2]
  unfold g_cell
  rw [h.1]
  rfl
theorem g_cell_R {ci a : Nat} (h : g_is S ci a) (hc : ci = 13 ∨ ci = 14) : (g_w E S)[a]? = some (e0 E + a, .inl (eC E ci, gln S a, .inr (.inr (.inr (.inr (fun j => g_ad E (gaR S a j))))))) := by
  rw [g_w_get h.2]
  unfold g_cell
  rw [h.1]
  rcases hc with rfl | rfl <;> rfl
theorem X_iald {a : Nat} {i : Int32} {F : Int32 → Option ρ} (hd : decode (mc M) pc = .ok (.iaload, 1)) (h : ∀ x, gJ em E M n0 s0 (pc + 1) lv (.int x :: st) S (F x)) : gJ em E M n0 s0 pc lv (.int i :: .ref a :: st) S (g_ldI S 10 a i F) := by
  intro z hz
  obtain ⟨hi, hz⟩ := g_ck_s hz
  obtain ⟨hin, hz⟩ := g_ix_s hz
  obtain ⟨m1, m2, hG⟩ := h _ z hz
  exact ⟨m1, m2, fun p e s m args below meth c R Q hX H locs ls hl hP hS h1 h2 => va_iald (D := eD E) hX.1 hX.2.1 hX.2.2.2.2.2.2.1.1 hP a 0 (g_cell_I hi (Or.inl rfl)) rfl hin hd (hG p e s m args below meth c R Q hX H locs ls hl hP hS h1 h2)⟩
theorem X_zald {a : Nat} {i : Int32} {F : Int32 → Option ρ} (hd : decode (mc M) pc = .ok (.baload, 1)) (h : ∀ x, gJ em E M n0 s0 (pc + 1) lv (.int x :: st) S (F x)) : gJ em E M n0 s0 pc lv (.int i :: .ref a :: st) S (g_ldI S 12 a i F) := by
  intro z hz
  obtain ⟨hi, hz⟩ := g_ck_s hz
  obtain ⟨hin, hz⟩ := g_ix_s hz
  obtain ⟨m1, m2, hG⟩ := h _ z hz
  exact ⟨m1, m2, fun p e s m args below meth c R Q hX H locs ls hl hP hS h1 h2 => va_zald (D := eD E) hX.1 hX.2.1 hX.2.2.2.2.2.2.1.1 hP a 2 (g_cell_I hi (Or.inr rfl)) rfl hin hd (hG p e s m args below meth c R Q hX H locs ls hl hP hS h1 h2)⟩
theorem X_lald {a : Nat} {i : Int32} {F : Int64 → Option ρ} (hd : decode (mc M) pc = .ok (.laload, 1)) (h : ∀ x, gJ em E M n0 s0 (pc + 1) lv (.long x :: st) S (F x)) : gJ em E M n0 s0 pc lv (.int i :: .ref a :: st) S (g_ldL S a i F) := by
  intro z hz
  obtain ⟨hi, hz⟩ := g_ck_s hz
  obtain ⟨hin, hz⟩ := g_ix_s hz
  obtain ⟨m1, m2, hG⟩ := h _ z hz
  exact ⟨m1, m2, fun p e s m args below meth c R Q hX H locs ls hl hP hS h1 h2 => va_lald (D := eD E) hX.1 hX.2.1 hX.2.2.2.2.2.2.1.1 hP a 1 (g_cell_L hi) rfl hin hd (hG p e s m args below meth c R Q hX H locs ls hl hP hS h1 h2)⟩
theorem X_aald {ci a : Nat} {i : Int32} {F : Nat → Option ρ} (hc : ci = 13 ∨ ci = 14) (hd : decode (mc M) pc = .ok (.aaload, 1)) (h : ∀ x, gJ em E M n0 s0 (pc + 1) lv (.ref x :: st) S (F x)) : gJ em E M n0 s0 pc lv (.int i :: .ref a :: st) S (g_ldR S ci a i F) := by
  intro z hz
  obtain ⟨hi, hz⟩ := g_ck_s hz
  obtain ⟨hin, hz⟩ := g_ix_s hz
  cases hr : gaR S a i.toNatClampNeg with
  | none => rw [hr] at hz; cases hz
  | some x =>
    rw [hr] at hz
    obtain ⟨m1, m2, hG⟩ := h x z hz
    refine ⟨m1, m2, fun p e s m args below meth c R Q hX H locs ls hl hP hS h1 h2 => ?_⟩
    have K := hG p e s m args below meth c R Q hX H locs ls hl hP hS h1 h2
    have e1 : va_rf (g_ad E (gaR S a i.toNatClampNeg)) = .ref (e0 E + x) := by rw [hr]; rfl
    rcases hc with rfl | rfl
    · refine va_aldq (D := eD E) hX.1 hX.2.1 hX.2.2.2.2.2.2.1.1 hP a 3 (g_cell_R hi (Or.inl rfl)) rfl hin hd ?_
      rw [e1]; exact K
    · refine va_aldq (D := eD E) hX.1 hX.2.1 hX.2.2.2.2.2.2.1.1 hP a 4 (g_cell_R hi (Or.inr rfl)) rfl hin hd ?_
      rw [e1]; exact K
theorem X_alen {ci a : Nat} {F : Int32 → Option ρ} (hc : ci = 10 ∨ ci = 11 ∨ ci = 12) (hd : decode (mc M) pc = .ok (.arraylength, 1)) (h : ∀ x, gJ em E M n0 s0 (pc + 1) lv (.int x :: st) S (F x)) : gJ em E M n0 s0 pc lv (.ref a :: st) S (g_alen S ci a F) := by
  intro z hz
  obtain ⟨hi, hz⟩ := g_ck_s hz
  obtain ⟨m1, m2, hG⟩ := h _ z hz
  refine ⟨m1, m2, fun p e s m args below meth c R Q hX H locs ls hl hP hS h1 h2 => ?_⟩
  have K := hG p e s m args below meth c R Q hX H locs ls hl hP hS h1 h2
  rcases hc with rfl | rfl | rfl
  · exact va_alen (D := eD E) hX.1 hX.2.1 hX.2.2.2.2.2.2.1.1 hP a 0 (g_cell_I hi (Or.inl rfl)) rfl rfl hd K
  · exact va_alen (D := eD E) hX.1 hX.2.1 hX.2.2.2.2.2.2.1.1 hP a 1 (g_cell_L hi) rfl rfl hd K
  · exact va_alen (D := eD E) hX.1 hX.2.1 hX.2.2.2.2.2.2.1.1 hP a 2 (g_cell_I hi (Or.inr rfl)) rfl rfl hd K
/-- the script and the table: read alone -/
def g_ldX {α : Type} (n : Nat) (f : Nat → Int32) (i : Int32) (F : Int32 → Option α) : Option α := g_ix n i (F (f i.toNatClampNeg))
theorem X_sld {i : Int32} {F : Int32 → Option ρ} (hd : decode (mc M) pc = .ok (.iaload, 1)) (h : ∀ x, gJ em E M n0 s0 (pc + 1) lv (.int x :: st) S (F x)) : gJ em E M n0 s0 pc lv (.int i :: .retAddr 0 :: st) S (g_ldX (eN E) (eX E) i F) := by
  intro z hz
  obtain ⟨hin, hz⟩ := g_ix_s hz
  obtain ⟨m1, m2, hG⟩ := h _ z hz
  exact ⟨m1, m2, fun p e s m args below meth c R Q hX H locs ls hl hP hS h1 h2 => va_ti (t := eB E) hX.1 hX.2.1 hX.2.2.2.2.2.2.1.2.1 hS hin rfl hd (hG p e s m args below meth c R Q hX H locs ls hl hP hS h1 h2)⟩
theorem X_tld {i : Int32} {F : Int32 → Option ρ} (hd : decode (mc M) pc = .ok (.iaload, 1)) (h : ∀ x, gJ em E M n0 s0 (pc + 1) lv (.int x :: st) S (F x)) : gJ em E M n0 s0 pc lv (.int i :: .retAddr 1 :: st) S (g_ldX 5 g_cb i F) := by
  intro z hz
  obtain ⟨hin, hz⟩ := g_ix_s hz
  obtain ⟨m1, m2, hG⟩ := h _ z hz
  exact ⟨m1, m2, fun p e s m args below meth c R Q hX H locs ls hl hP hS h1 h2 => va_ti (t := eT E) hX.1 hX.2.1 hX.2.2.2.2.2.2.1.2.2.2.1 hS hin rfl hd (hG p e s m args below meth c R Q hX H locs ls hl hP hS h1 h2)⟩
theorem X_slen (hd : decode (mc M) pc = .ok (.arraylength, 1)) (h : gJ em E M n0 s0 (pc + 1) lv (.int (nI (eN E)) :: st) S o) : gJ em E M n0 s0 pc lv (.retAddr 0 :: st) S o := by
  intro z hz
  obtain ⟨m1, m2, hG⟩ := h z hz
  exact ⟨m1, m2, fun p e s m args below meth c R Q hX H locs ls hl hP hS h1 h2 => va_tlen (t := eB E) hX.1 hX.2.1 hX.2.2.2.2.2.2.1.2.1 hS rfl hd (hG p e s m args below meth c R Q hX H locs ls hl hP hS h1 h2)⟩
theorem X_gets {idx : Nat} (hw : Cond.fieldLink (my M).cls idx "ShiftHouse$Schema" "CAN_BECOME" "[I" ∈ lw_good) (hd : decode (mc M) pc = .ok (.getstatic idx, 3)) (h : gJ em E M n0 s0 (pc + 3) lv (.retAddr 1 :: st) S o) : gJ em E M n0 s0 pc lv st S o := by
  intro z hz
  obtain ⟨m1, m2, hG⟩ := h z hz
  exact ⟨m1, m2, fun p e s m args below meth c R Q hX H locs ls hl hP hS h1 h2 => va_gets hX.1 hX.2.1 hX.2.2.2.2.2.2.1.2.2.1 hS hX.2.2.2.1 (hX.2.2.2.2.1 _ hw) (fun _ h => h) hd (hG p e s m args below meth c R Q hX H locs ls hl hP hS h1 h2)⟩
/-- stores into arrays -/
theorem g_rI_cell {a : Nat} {r : Nat → Int32} : ∀ k, k ≠ a → g_cell E (g_rI S a r) k = g_cell E S k := by
  intro k hk
  have h4 : gaI (g_rI S a r) k = gaI S k := by simp [g_rI, gaI, g_row, hk]
  unfold g_cell
  rw [h4]
  rfl
theorem g_rL_cell {a : Nat} {r : Nat → Int64} : ∀ k, k ≠ a → g_cell E (g_rL S a r) k = g_cell E S k := by
  intro k hk
  have h4 : gaL (g_rL S a r) k = gaL S k := by simp [g_rL, gaL, g_row, hk]
  unfold g_cell
  rw [h4]
  rfl
theorem g_rR_cell {a : Nat} {r : Nat → Option Nat} : ∀ k, k ≠ a → g_cell E (g_rR S a r) k = g_cell E S k := by
  intro k hk
  have h4 : gaR (g_rR S a r) k = gaR S k := by simp [g_rR, gaR, g_row, hk]
  unfold g_cell
  rw [h4]
  rfl
theorem g_rI_w {ci a : Nat} {r : Nat → Int32} (h : g_is S ci a) (hc : ci = 10 ∨ ci = 12) : (g_w E S).set a (e0 E + a, .inl (eC E ci, gln S a, .inl r)) = g_w E (g_rI S a r) := by
  rw [← g_w_set (E := E) (S := S) (S' := g_rI S a r) rfl h.2 g_rI_cell]
  congr 2
  have h1 : gK (g_rI S a r) a = ci := h.1
  have h2 : gaI (g_rI S a r) a = r := by simp [g_rI, gaI, g_row]
  unfold g_cell
  rw [h1, h2]
  rcases hc with rfl | rfl <;> rfl
theorem g_rL_w {a : Nat} {r : Nat → Int64} (h : g_is S 11 a) : (g_w E S).set a (e0 E + a, .inl (eC E 11, gln S a, .inr (.inl r))) = g_w E (g_rL S a r) := by
  rw [← g_w_set (E := E) (S := S) (S' := g_rL S a r) rfl h.2 g_rL_cell]
  congr 2
  have h1 : gK (g_rL S a r) a = 11 := h.1
  have h2 : gaL (g_rL S a r) a = r := by simp [g_rL, gaL, g_row]
  unfold g_cell
  rw [h1, h2]
  rfl
theorem g_rR_w {ci a : Nat} {r : Nat → Option Nat} (h : g_is S ci a) (hc : ci = 13 ∨ ci = 14) : (g_w E S).set a (e0 E + a, .inl (eC E ci, gln S a, .inr (.inr (.inr (.inr (fun j => g_ad E (r j))))))) = g_w E (g_rR S a r) := by
  rw [← g_w_set (E := E) (S := S) (S' := g_rR S a r) rfl h.2 g_rR_cell]
  congr 2
  have h1 : gK (g_rR S a r) a = ci := h.1
  have h2 : gaR (g_rR S a r) a = r := by simp [g_rR, gaR, g_row]
  unfold g_cell
  rw [h1, h2]
  rcases hc with rfl | rfl <;> rfl
theorem X_iast {a : Nat} {i x : Int32} {F : gS → Option ρ} (hd : decode (mc M) pc = .ok (.iastore, 1)) (h : ∀ S1, gJ em E M n0 s0 (pc + 1) lv st S1 (F S1)) : gJ em E M n0 s0 pc lv (.int x :: .int i :: .ref a :: st) S (g_stI S a i x F) := by
  intro z hz
  obtain ⟨hi, hz⟩ := g_ck_s hz
  obtain ⟨hin, hz⟩ := g_ix_s hz
  obtain ⟨m1, m2, hG⟩ := h _ z hz
  refine ⟨m1, m2, fun p e s m args below meth c R Q hX H locs ls hl hP hS h1 h2 => va_iast (D := eD E) hX.1 hX.2.1 hX.2.2.2.2.2.2.1.1 hP (g_w_D E S) hS a 0 (g_cell_I hi (Or.inl rfl)) rfl hin hd fun H1 locs1 hP1 _ hS1 => ?_⟩
  rw [g_rI_w hi (Or.inl rfl)] at hP1
  exact hG p e s m args below meth c R Q hX H1 locs1 ls hl hP1 hS1 h1 h2
theorem X_zast {a : Nat} {i x : Int32} {F : gS → Option ρ} (hd : decode (mc M) pc = .ok (.bastore, 1)) (h : ∀ S1, gJ em E M n0 s0 (pc + 1) lv st S1 (F S1)) : gJ em E M n0 s0 pc lv (.int x :: .int i :: .ref a :: st) S (g_stZ S a i x F) := by
  intro z hz
  obtain ⟨hi, hz⟩ := g_ck_s hz
  obtain ⟨hin, hz⟩ := g_ix_s hz
  by_cases hx : x = 0 ∨ x = 1
  · rw [if_pos hx] at hz
    obtain ⟨m1, m2, hG⟩ := h _ z hz
    refine ⟨m1, m2, fun p e s m args below meth c R Q hX H locs ls hl hP hS h1 h2 => va_zast (D := eD E) hX.1 hX.2.1 hX.2.2.2.2.2.2.1.1 hP (g_w_D E S) hS a 2 (g_cell_I hi (Or.inr rfl)) rfl hin hd fun H1 locs1 hP1 _ hS1 => ?_⟩
    have hx2 : vp_nar .boolean x = x := by rcases hx with rfl | rfl <;> rfl
    rw [hx2, g_rI_w hi (Or.inr rfl)] at hP1
    exact hG p e s m args below meth c R Q hX H1 locs1 ls hl hP1 hS1 h1 h2
  · rw [if_neg hx] at hz; cases hz
theorem X_last {a : Nat} {i : Int32} {x : Int64} {F : gS → Option ρ} (hd : decode (mc M) pc = .ok (.lastore, 1)) (h : ∀ S1, gJ em E M n0 s0 (pc + 1) lv st S1 (F S1)) : gJ em E M n0 s0 pc lv (.long x :: .int i :: .ref a :: st) S (g_stL S a i x F) := by
  intro z hz
  obtain ⟨hi, hz⟩ := g_ck_s hz
  obtain ⟨hin, hz⟩ := g_ix_s hz
  obtain ⟨m1, m2, hG⟩ := h _ z hz
  refine ⟨m1, m2, fun p e s m args below meth c R Q hX H locs ls hl hP hS h1 h2 => va_last (D := eD E) hX.1 hX.2.1 hX.2.2.2.2.2.2.1.1 hP (g_w_D E S) hS a 1 (g_cell_L hi) rfl hin hd fun H1 locs1 hP1 _ hS1 => ?_⟩
  rw [g_rL_w hi] at hP1
  exact hG p e s m args below meth c R Q hX H1 locs1 ls hl hP1 hS1 h1 h2
theorem g_up_ad {f : Nat → Option Nat} {k v : Nat} : va_up (fun j => g_ad E (f j)) k (some (e0 E + v)) = fun j => g_ad E (va_up f k (some v) j) := by
  funext j
  unfold va_up
  by_cases h : j = k <;> simp [h, g_ad]
theorem X_aast {ci ce a v : Nat} {i : Int32} {F : gS → Option ρ} (hc : (ci = 13 ∧ ce = 4) ∨ (ci = 14 ∧ ce = 6)) (hd : decode (mc M) pc = .ok (.aastore, 1)) (h : ∀ S1, gJ em E M n0 s0 (pc + 1) lv st S1 (F S1)) : gJ em E M n0 s0 pc lv (.ref v :: .int i :: .ref a :: st) S (g_stR S ci ce a i v F) := by
  intro z hz
  obtain ⟨hi, hz⟩ := g_ck_s hz
  obtain ⟨hv, hz⟩ := g_ck_s hz
  obtain ⟨hin, hz⟩ := g_ix_s hz
  obtain ⟨m1, m2, hG⟩ := h _ z hz
  rcases hc with ⟨rfl, rfl⟩ | ⟨rfl, rfl⟩
  · refine ⟨m1, m2, fun p e s m args below meth c R Q hX H locs ls hl hP hS h1 h2 => va_astq (D := eD E) hX.1 hX.2.1 hX.2.2.2.2.2.2.1.1 hP (g_w_D E S) hS a 3 v 4 (g_cell_R hi (Or.inl rfl)) (r := g_cl 4) rfl (g_cell_o hv (by decide)) rfl hin hd fun H1 locs1 hP1 _ hS1 => ?_⟩
    rw [g_up_ad, g_rR_w hi (Or.inl rfl)] at hP1
    exact hG p e s m args below meth c R Q hX H1 locs1 ls hl hP1 hS1 h1 h2
  · refine ⟨m1, m2, fun p e s m args below meth c R Q hX H locs ls hl hP hS h1 h2 => va_astq (D := eD E) hX.1 hX.2.1 hX.2.2.2.2.2.2.1.1 hP (g_w_D E S) hS a 4 v 6 (g_cell_R hi (Or.inr rfl)) (r := g_cl 6) rfl (g_cell_o hv (by decide)) rfl hin hd fun H1 locs1 hP1 _ hS1 => ?_⟩
    rw [g_up_ad, g_rR_w hi (Or.inr rfl)] at hP1
    exact hG p e s m args below meth c R Q hX H1 locs1 ls hl hP1 hS1 h1 h2
end XA
end
section
section XC
variable {ρ : Type} {em : ρ → Option Value × gS} {E : gE} {M : gM} {n0 s0 pc : Nat} {lv : List (Nat × Value)} {st : List Value} {S : gS} {o : Option ρ}
/-! ===== the heap's size is what the store says ===== -/
theorem g_sz {p : Program} {e : Env} {s : State} {m : MethodId} {args : Array Value} {below : List Frame} {meth : Method} {c : Code} {R : Room} {Q : State → Prop} {H : Heap} {locs : List Loc} {r : Option Value} {S' : gS} {slots : Nat} {T : State}
    (hX : gX E M n0 s0 r S' p e s m args below meth c R Q) (hP : g_P E S H) (hS : va_S (g_A E) s.heap H locs) (h1 : n0 ≤ gn S) (hT : T.heap = H) (X : Stand p (eL E) e R s m args below meth c T locs (gn S - n0) slots) : H.size = e0 E + gn S := by
  have a := X.heapSize
  have b := hX.2.2.2.2.2.2.2.1
  have d := hS.1
  rw [hT] at a
  by_cases h : gn S = n0
  · omega
  · have q : e0 E + (gn S - 1) < H.size := (hP (gn S - 1) _ (g_w_get (by omega))).lt
    omega
theorem g_noF : ((List.range 10).all fun ci => (List.range (gNf ci)).all fun j => match gTy ci j with | .float => false | .double => false | _ => true) = true := by decide +kernel
/-! ===== new cells ===== -/
def g_new {α : Type} (S : gS) (ci : Nat) (F : Nat → gS → Option α) : Option α := F (gn S) (g_al S ci 0 (gNf ci))
def g_nwa {α : Type} (S : gS) (ci : Nat) (n : Int32) (F : Nat → gS → Option α) : Option α := if n < 0 ∨ 1048576 < n.toNatClampNeg then none else F (gn S) (g_al S ci n.toNatClampNeg n.toNatClampNeg)
theorem g_newW {ci ln sl : Nat} {H H1 : Heap} (hP : g_P E S H) (hz : H.size = e0 E + gn S) (o1 : ∀ q, q < H.size → H1[q]? = H[q]?) (hat : va_at (eD E) vwCl (e0 E + gn S, g_cell E (g_al S ci ln sl) (gn S)) H1) : g_P E (g_al S ci ln sl) H1 := by
  unfold g_P
  rw [g_w_push]
  refine va_P.app (va_P.kept hP fun k q hk => o1 q.1 (hP k q hk).lt) fun k q hk => ?_
  have hz : k < 1 := (List.getElem?_eq_some_iff.mp hk).1
  rw [show k = 0 by omega] at hk
  cases hk
  exact hat
/-- what 'new' needs among the tables' words -/
def g_okN (own : String) (idx ci : Nat) : Prop := ci < 10 ∧ Cond.classLink own idx (g_cl ci).1 ∈ lw_good ∧ Cond.instantiable (g_cl ci).1 (g_cl ci).2.2 ∈ lw_good ∧ Cond.initialized (g_cl ci).1 ∈ lw_good
theorem X_new {idx ci : Nat} {F : Nat → gS → Option ρ} (ho : g_okN (my M).cls idx ci) (hd : decode (mc M) pc = .ok (.new idx, 3)) (h : ∀ k S1, gJ em E M n0 s0 (pc + 3) lv (.ref k :: st) S1 (F k S1)) : gJ em E M n0 s0 pc lv st S (g_new S ci F) := by
  intro z hz
  obtain ⟨m1, m2, hG⟩ := h _ _ z hz
  have q1 : gn (g_al S ci 0 (gNf ci)) = gn S + 1 := rfl
  have q2 : gsl (g_al S ci 0 (gNf ci)) = gsl S + gNf ci := rfl
  rw [q1] at m1
  rw [q2] at m2
  refine ⟨by omega, by omega, fun p e s m args below meth c R Q hX H locs ls hl hP hS h1 h2 => ?_⟩
  intro T hT X
  have hsz := g_sz hX hP hS h1 hT X
  obtain ⟨hx, hb, hml, hown, hts, hnm, hEv, hs0, hfr, hlo, hce, hsl, hret⟩ := id hX
  obtain ⟨hc, w1, w2, w3⟩ := ho
  have hKn := hEv.1.1 ci _ (g_cl_at ci hc)
  have KK : W p (eL E) e R s m args below meth c H locs (gn S - n0) (gsl S - s0) Q (F0 m pc ls (st.map (g_rv E))) := by
    refine W.newcK hx hb hown (hts _ w1) (hts _ w2) (hts _ w3) rfl hd (by omega) (by show gsl S - s0 + gNf ci ≤ _; omega) hKn.2.1 hsz fun H1 kC hkC e1 z1 o1 => ?_
    have hat : va_at (eD E) vwCl (e0 E + gn S, g_cell E (g_al S ci 0 (gNf ci)) (gn S)) H1 := by
      have hk : gK (g_al S ci 0 (gNf ci)) (gn S) = ci := by simp [g_al, gK]
      unfold g_cell
      rw [hk, if_pos hc]
      refine ⟨_, g_cl_at ci hc, (u_born (gTy ci) hts (g_in hc) hKn hkC e1 (g_tyok ci hc)).to ?_⟩
      intro j hj
      have hj2 : j < gNf ci := hj
      unfold vp_V
      rw [List.getD_eq_getElem?_getD, g_fv_at hj2]
      show defaultValue (gTy ci j) = g_fv E _ _ ci j
      have : ∀ ft : FieldType, gTy ci j = ft → ft ≠ .float → ft ≠ .double → defaultValue ft = g_fv E (g_al S ci 0 (gNf ci)) (gn S) ci j := by
        intro ft hft n1 n2
        unfold g_fv
        rw [hft]
        cases ft <;> first | exact absurd rfl n1 | exact absurd rfl n2 | (simp [g_ft, defaultValue, g_al, gfI, gfL, gfR, g_col, g_ad, va_rf]; done)
      refine this _ rfl ?_ ?_
      · intro hh
        have := List.all_eq_true.mp g_noF ci (List.mem_range.mpr hc)
        have := List.all_eq_true.mp this j (List.mem_range.mpr hj2)
        rw [hh] at this
        cases this
      · intro hh
        have := List.all_eq_true.mp g_noF ci (List.mem_range.mpr hc)
        have := List.all_eq_true.mp this j (List.mem_range.mpr hj2)
        rw [hh] at this
        cases this
    have K := hG p e s m args below meth c R Q hX H1 locs ls hl (g_newW hP hsz (by rw [hsz]; exact o1) hat) ⟨Nat.le_trans hS.1 (by omega), fun x h1 h2 => (o1 x (by have := hS.1; omega)).trans (hS.2.1 x h1 h2), hS.2.2⟩ (by rw [q1]; omega) (by rw [q2]; omega)
    rw [q1, q2, show gn S + 1 - n0 = gn S - n0 + 1 by omega, show gsl S + gNf ci - s0 = gsl S - s0 + gNf ci by omega] at K
    exact K
  exact KK T hT X
theorem X_newarr {atype : ArrayType} {ty : FieldType} {ci : Nat} {n : Int32} {F : Nat → gS → Option ρ} (hty : newarray.typeOf atype = ty) (hc : (ci = 10 ∧ ty = .int) ∨ (ci = 11 ∧ ty = .long) ∨ (ci = 12 ∧ ty = .boolean)) (hw : Cond.arrayClass ty ∈ lw_good) (hd : decode (mc M) pc = .ok (.newarray atype, 2)) (h : ∀ k S1, gJ em E M n0 s0 (pc + 2) lv (.ref k :: st) S1 (F k S1)) : gJ em E M n0 s0 pc lv (.int n :: st) S (g_nwa S ci n F) := by
  subst hty
  intro z hz
  unfold g_nwa at hz
  by_cases hn : n < 0 ∨ 1048576 < n.toNatClampNeg
  · rw [if_pos hn] at hz; cases hz
  rw [if_neg hn] at hz
  obtain ⟨m1, m2, hG⟩ := h _ _ z hz
  generalize hN : n.toNatClampNeg = N at *
  have q1 : gn (g_al S ci N N) = gn S + 1 := rfl
  have q2 : gsl (g_al S ci N N) = gsl S + N := rfl
  rw [q1] at m1
  rw [q2] at m2
  refine ⟨by omega, by omega, fun p e s m args below meth c R Q hX H locs ls hl hP hS h1 h2 => ?_⟩
  intro T hT X
  have hsz := g_sz hX hP hS h1 hT X
  obtain ⟨hx, hb, hml, hown, hts, hnm, hEv, hs0, hfr, hlo, hce, hsl, hret⟩ := id hX
  have hb2 : N * componentBytes (newarray.typeOf atype) ≤ 536870912 := by
    have : componentBytes (newarray.typeOf atype) ≤ 8 := by cases atype <;> decide
    calc N * componentBytes (newarray.typeOf atype) ≤ N * 8 := Nat.mul_le_mul_left _ this
      _ ≤ _ := by omega
  have KK : W p (eL E) e R s m args below meth c H locs (gn S - n0) (gsl S - s0) Q (F0 m pc ls (.int n :: st.map (g_rv E))) := by
    refine va_newaK hx hb (hts _ hw) rfl hd rfl (fun q => hn (Or.inl q)) hN hb2 (by omega) (by omega) hsz fun H1 cA e1 z1 o1 hAr hNm => ?_
    have hat : va_at (eD E) vwCl (e0 E + gn S, g_cell E (g_al S ci N N) (gn S)) H1 := by
      have hk : gK (g_al S ci N N) (gn S) = ci := by simp [g_al, gK]
      have hl2 : gln (g_al S ci N N) (gn S) = N := by simp [g_al, gln]
      have hI : gaI (g_al S ci N N) (gn S) = fun _ => 0 := by simp [g_al, gaI, g_row]
      have hL : gaL (g_al S ci N N) (gn S) = fun _ => 0 := by simp [g_al, gaL, g_row]
      unfold g_cell
      rw [hk, hl2, hI, hL]
      rcases hc with ⟨rfl, ht⟩ | ⟨rfl, ht⟩ | ⟨rfl, ht⟩
      · have hA := (hEv.1.2 0 (eC E 10, .int) rfl).2
        rw [ht] at e1 hNm
        have : cA = eC E 10 := Option.some.inj (hNm.symm.trans hA)
        subst this
        exact e1
      · have hA := (hEv.1.2 1 (eC E 11, .long) rfl).2
        rw [ht] at e1 hNm
        have : cA = eC E 11 := Option.some.inj (hNm.symm.trans hA)
        subst this
        exact e1
      · have hA := (hEv.1.2 2 (eC E 12, .boolean) rfl).2
        rw [ht] at e1 hNm
        have : cA = eC E 12 := Option.some.inj (hNm.symm.trans hA)
        subst this
        exact e1
    have K := hG p e s m args below meth c R Q hX H1 locs ls hl (g_newW hP hsz (by rw [hsz]; exact o1) hat) ⟨Nat.le_trans hS.1 (by omega), fun x h1 h2 => (o1 x (by have := hS.1; omega)).trans (hS.2.1 x h1 h2), hS.2.2⟩ (by rw [q1]; omega) (by rw [q2]; omega)
    rw [q1, q2, show gn S + 1 - n0 = gn S - n0 + 1 by omega, show gsl S + N - s0 = gsl S - s0 + N by omega] at K
    exact K
  exact KK T hT X
theorem X_anew {idx ci : Nat} {C : String} {n : Int32} {F : Nat → gS → Option ρ} (hc : (ci = 13 ∧ C = RX4) ∨ (ci = 14 ∧ C = RX6)) (hw : Cond.classLink (my M).cls idx C ∈ lw_good) (hd : decode (mc M) pc = .ok (.anewarray idx, 3)) (h : ∀ k S1, gJ em E M n0 s0 (pc + 3) lv (.ref k :: st) S1 (F k S1)) : gJ em E M n0 s0 pc lv (.int n :: st) S (g_nwa S ci n F) := by
  intro z hz
  unfold g_nwa at hz
  by_cases hn : n < 0 ∨ 1048576 < n.toNatClampNeg
  · rw [if_pos hn] at hz; cases hz
  rw [if_neg hn] at hz
  obtain ⟨m1, m2, hG⟩ := h _ _ z hz
  have q1 : gn (g_al S ci n.toNatClampNeg n.toNatClampNeg) = gn S + 1 := rfl
  have q2 : gsl (g_al S ci n.toNatClampNeg n.toNatClampNeg) = gsl S + n.toNatClampNeg := rfl
  rw [q1] at m1
  rw [q2] at m2
  refine ⟨by omega, by omega, fun p e s m args below meth c R Q hX H locs ls hl hP hS h1 h2 => ?_⟩
  intro T hT X
  have hsz := g_sz hX hP hS h1 hT X
  obtain ⟨hx, hb, hml, hown, hts, hnm, hEv, hs0, hfr, hlo, hce, hsl, hret⟩ := id hX
  have hAO : va_AO C s := by
    rcases hc with ⟨-, rfl⟩ | ⟨-, rfl⟩
    · exact hEv.2.2.2.2.2.1
    · exact hEv.2.2.2.2.2.2
  have KK : W p (eL E) e R s m args below meth c H locs (gn S - n0) (gsl S - s0) Q (F0 m pc ls (.int n :: st.map (g_rv E))) := by
    refine W.anew hx hb hown (hts _ hw) (va_AO.use hAO) rfl hd rfl (fun q => hn (Or.inl q)) (by omega) (by omega) (by omega) fun cA kA comp f1 f2 f3 f4 => ?_
    generalize hH1 : H.push ({ cls := cA, slots := Array.replicate n.toNatClampNeg .null, vm := .none } : Cell) = H1
    have z1 : H1.size = H.size + 1 := by rw [← hH1, Array.size_push]
    have e1 : H1[H.size]? = some (arrV cA n.toNatClampNeg (fun _ => .null)) := by rw [← hH1, Array.getElem?_push_size, ← arrV_new]
    have o1 : ∀ q : Nat, q < H.size → H1[q]? = H[q]? := fun q hq => by rw [← hH1, Array.getElem?_push, if_neg (Nat.ne_of_lt hq)]
    rw [hsz] at e1
    have hat : va_at (eD E) vwCl (e0 E + gn S, g_cell E (g_al S ci n.toNatClampNeg n.toNatClampNeg) (gn S)) H1 := by
      have hk : gK (g_al S ci n.toNatClampNeg n.toNatClampNeg) (gn S) = ci := by simp [g_al, gK]
      have hl2 : gln (g_al S ci n.toNatClampNeg n.toNatClampNeg) (gn S) = n.toNatClampNeg := by simp [g_al, gln]
      have hR : gaR (g_al S ci n.toNatClampNeg n.toNatClampNeg) (gn S) = fun _ => none := by simp [g_al, gaR, g_row]
      unfold g_cell
      rw [hk, hl2, hR]
      rcases hc with ⟨rfl, rfl⟩ | ⟨rfl, rfl⟩
      · obtain ⟨kA', comp', g1, g2, g3, g4⟩ := (hEv.1.2 3 (eC E 13, .object RX4) rfl).2
        have : cA = eC E 13 := Option.some.inj (f1.symm.trans g4)
        subst this
        exact e1
      · obtain ⟨kA', comp', g1, g2, g3, g4⟩ := (hEv.1.2 4 (eC E 14, .object RX6) rfl).2
        have : cA = eC E 14 := Option.some.inj (f1.symm.trans g4)
        subst this
        exact e1
    have K := hG p e s m args below meth c R Q hX H1 locs ls hl (g_newW hP hsz o1 hat) ⟨Nat.le_trans hS.1 (by omega), fun x h1 h2 => (o1 x (by have := hS.1; omega)).trans (hS.2.1 x h1 h2), hS.2.2⟩ (by rw [q1]; omega) (by rw [q2]; omega)
    rw [q1, q2, show gn S + 1 - n0 = gn S - n0 + 1 by omega, show gsl S + n.toNatClampNeg - s0 = gsl S - s0 + n.toNatClampNeg by omega] at K
    rw [hsz]
    exact K
  exact KK T hT X
end XC
end
section
section XM
variable {ρ ρ2 : Type} {em : ρ → Option Value × gS} {em2 : ρ2 → Option Value × gS} {E : gE} {M M2 : gM} {n0 s0 pc : Nat} {lv : List (Nat × Value)} {st : List Value} {S : gS} {o : Option ρ} {o2 : Option ρ2} {F : ρ2 → Option ρ}
/-! ===== calls ===== -/
theorem g_blind {args : List Value} : FrameBlind (g_Pc E args S) := by
  intro a U g mk h
  obtain ⟨h1, h2, h3, h4⟩ := h
  exact ⟨h1, h2, h3, h4.calling⟩
theorem g_pre {p : Program} {e : Env} {s : State} {m : MethodId} {args : Array Value} {below : List Frame} {meth : Method} {c : Code} {R : Room} {Q : State → Prop} {H : Heap} {locs : List Loc} {r : Option Value} {S' : gS}
    (hX : gX E M n0 s0 r S' p e s m args below meth c R Q) (hP : g_P E S H) (hS : va_S (g_A E) s.heap H locs) (hz : H.size = e0 E + gn S) (As : List Value) : ∀ U : State, U.heap = H → s.WarmedH U.vm → g_Pc E As S (As.map (g_rv E)).toArray U := by
  intro U hU hW
  refine ⟨rfl, by rw [hU]; exact hz, by rw [hU]; exact hP, hX.2.2.2.2.2.2.1.to hW fun a h1 h2 => by rw [hU]; exact hS.2.1 a h1 h2⟩
theorem g_after {p : Program} {e : Env} {s : State} {m : MethodId} {args : Array Value} {below : List Frame} {meth : Method} {c : Code} {R : Room} {Q : State → Prop} {H : Heap} {locs : List Loc} {ls : Array Slot} {r : Option Value} {S' : gS} {st0 : List Value} {z2 : ρ2} {av : Array Value} {T : State}
    (hX : gX E M n0 s0 r S' p e s m args below meth c R Q) (hl : lv_has ls (ml M) (g_lv E lv)) (hS : va_S (g_A E) s.heap H locs) (h1 : n0 ≤ gn S) (h2 : s0 ≤ gsl S) (c1 : gn S ≤ gn (em2 z2).2) (c2 : gsl S ≤ gsl (em2 z2).2)
    (hr : va_Run p (eL E) e R s m args below meth c H locs (gn S - n0) (gsl S - s0) (gn (em2 z2).2 - gn S) (gsl (em2 z2).2 - gsl S) (F0 m pc ls st0) (st.map (g_rv E)) (g_Qc E (em2 z2).1 (em2 z2).2 av) (g_A E))
    (hG : gG E M n0 s0 (pc + 3) lv ((em2 z2).1.toList ++ st) (em2 z2).2 r S') (hT : T.heap = H) (X : Stand p (eL E) e R s m args below meth c T locs (gn S - n0) (gsl S - s0)) : ∃ t, Steps p.tables e below (T.setTop (F0 m pc ls st0)) t ∧ Q t := by
  obtain ⟨v, st₀, t, T', L, h0, X', hL, e1, e2, ⟨hv, hP1, hz, hk⟩, stp⟩ := hr T hT X
  have hv2 : v = (em2 z2).1.map (g_rv E) := by cases hv; rfl
  rw [h0] at hz hk
  have hS1 : va_S (g_A E) s.heap T'.heap (locs ++ L) := by
    refine ⟨Nat.le_trans hS.1 (by rw [e1]; exact hz), fun q a b => ?_, fun q hq => ?_⟩
    · rw [e1, hk q (Nat.lt_of_lt_of_le a hS.1) b]
      exact hS.2.1 q a b
    · rcases List.mem_append.mp hq with h | h
      · exact hS.2.2 q h
      · exact hL q h
  have K := hG p e s m args below meth c R Q hX T'.heap (locs ++ L) ls hl (by rw [e1]; exact hP1) hS1 (by omega) (by omega)
  rw [show gn S - n0 + (gn (em2 z2).2 - gn S) = gn (em2 z2).2 - n0 by omega, show gsl S - s0 + (gsl (em2 z2).2 - gsl S) = gsl (em2 z2).2 - s0 by omega] at X'
  obtain ⟨t2, a1, b1⟩ := K T' rfl X'
  refine ⟨t2, stp t2 ?_, b1⟩
  have hst : v.toList ++ st.map (g_rv E) = ((em2 z2).1.toList ++ st).map (g_rv E) := by
    rw [hv2, List.map_append]
    cases (em2 z2).1 <;> rfl
  show Steps p.tables e below (T'.setTop (F0 m (pc + 3) ls (v.toList ++ st.map (g_rv E)))) t2
  rw [hst]
  exact a1
def g_okC (M2 : gM) (n : Nat) : Prop := Cond.code (my M2) (mc M2) (ml M2) (mt M2) ∈ lw_good ∧ Cond.initialized (my M2).cls ∈ lw_good ∧ (my M2).cls ≠ "java/lang/invoke/MethodHandle" ∧ (my M2).cls ≠ "java/lang/invoke/VarHandle" ∧ (parseMethodDescriptor (my M2).desc).map (fun d => d.parameters.length) = some n
def g_okR (M M2 : gM) : Prop := mf M2 + 1 ≤ mf M ∧ 8 + (ml M2 + 11) + mo M2 ≤ mo M
theorem g_cat (E : gE) (st : List Value) : ((st.map (g_rv E)).map fun v => v.category).sum = (st.map fun v => v.category).sum := by
  rw [List.map_map]
  congr 1
  apply List.map_congr_left
  intro v _
  exact g_rv_cat E v
theorem g_args (E : gE) (As st : List Value) : (As.reverse ++ st).map (g_rv E) = (As.map (g_rv E)).reverse ++ st.map (g_rv E) := by
  rw [List.map_append, List.map_reverse]
/-- a method of an object of class ci -/
def g_cV {α β : Type} (S : gS) (ci a : Nat) (o : Option β) (F : β → Option α) : Option α := g_ck S ci a (o.bind F)
theorem X_callV {ci idx a : Nat} {As : List Value} {stk : List Value} (hC : gC em2 E M2 (.ref a :: As) S o2) (hci : ci < 10) (hcl : (g_cl ci).1 = (my M2).cls) (hk : g_okC M2 As.length) (w1 : Cond.methodLink (my M).cls idx (my M2) ∈ lw_good) (w2 : Cond.instanceMethod (my M2) ∈ lw_good) (w3 : Cond.selects (my M2).cls (my M2) (my M2) ∈ lw_good) (hR : g_okR M M2) (hst : stk = As.reverse ++ .ref a :: st) (hcat : (st.map fun v => v.category).sum ≤ 8) (hd : decode (mc M) pc = .ok (.invokevirtual idx, 3))
    (h : ∀ z, gJ em E M n0 s0 (pc + 3) lv ((em2 z).1.toList ++ st) (em2 z).2 (F z)) : gJ em E M n0 s0 pc lv stk S (g_cV S ci a o2 F) := by
  intro z hz
  obtain ⟨hi, hz⟩ := g_ck_s hz
  cases hr : o2 with
  | none => rw [hr] at hz; cases hz
  | some z2 =>
    rw [hr] at hz
    obtain ⟨c1, c2, hM⟩ := hC z2 hr
    obtain ⟨m1, m2, hG⟩ := h z2 z hz
    refine ⟨by omega, by omega, fun p e s m args below meth c R Q hX H locs ls hl hP hS h1 h2 => ?_⟩
    intro T hT X
    have hsz := g_sz hX hP hS h1 hT X
    obtain ⟨hx, hb, hml, hown, hts, hnm, hEv, hs0, hfr, hlo, hce, hsl, hret⟩ := id hX
    obtain ⟨k1, k2, k3, k4, k5⟩ := hk
    have cb := callB_of (R := R) (own := (my M).cls) (index := idx) (y := my M2) (bytes := mc M2) (maxL := ml M2) (ret := mt M2) (ws := m_ws M2) (rm := { frames := mf M2, cells := gn (em2 z2).2 - gn S, slots := gsl (em2 z2).2 - gsl S, locals := mo M2 }) As.length hts (g_good_in k1) rfl rfl rfl (hts _ k2) (hts _ w1) ⟨k3, k4, k5⟩ ⟨Nat.le_trans hR.1 hfr, Nat.le_trans hR.2 hlo⟩
    have hrc : ∃ cellB : Cell, H[e0 E + a]? = some cellB ∧ cellB.vm.isStatics = false ∧ s.vm.findClass (my M2).cls = some cellB.cls := by
      rw [← hcl]
      exact va_recv hEv.1 hP (g_cl_at ci hci) (g_cell_o hi hci)
    have hrun := va_runV (g := F0 m pc ls (stk.map (g_rv E))) (C := (my M2).cls) (b := e0 E + a) (As := As.map (g_rv E)) (rest := st.map (g_rv E)) (locs := locs) (cells := gn S - n0) (slots := gsl S - s0) (below := below) (meth := meth) (e := e) (p := p) (m := m) (c := c) (cc := mc M) (nL := ml M) ⟨hx, hb, hml, hown, hts⟩ hM ⟨cb, hts _ w2, hts _ w3⟩ ⟨g_blind, hrc, g_pre hX hP hS hsz (.ref a :: As)⟩ rfl (by rw [List.length_map]) hl.1 (by rw [hst, g_args]; rfl) (by show 2 * 0 + _ ≤ 8; rw [g_cat]; omega) hd ⟨by omega, by omega⟩
    exact g_after (em2 := em2) hX hl hS h1 h2 c1 c2 hrun hG hT X
theorem X_callS {idx : Nat} {As : List Value} {stk : List Value} (hC : gC em2 E M2 As S o2) (hk : g_okC M2 As.length) (w1 : Cond.methodLink (my M).cls idx (my M2) ∈ lw_good) (w2 : Cond.static (my M2) ∈ lw_good) (hR : g_okR M M2) (hst : stk = As.reverse ++ st) (hcat : (st.map fun v => v.category).sum ≤ 8) (hd : decode (mc M) pc = .ok (.invokestatic idx, 3))
    (h : ∀ z, gJ em E M n0 s0 (pc + 3) lv ((em2 z).1.toList ++ st) (em2 z).2 (F z)) : gJ em E M n0 s0 pc lv stk S (o2.bind F) := by
  intro z hz
  cases hr : o2 with
  | none => rw [hr] at hz; cases hz
  | some z2 =>
    rw [hr] at hz
    obtain ⟨c1, c2, hM⟩ := hC z2 hr
    obtain ⟨m1, m2, hG⟩ := h z2 z hz
    refine ⟨by omega, by omega, fun p e s m args below meth c R Q hX H locs ls hl hP hS h1 h2 => ?_⟩
    intro T hT X
    have hsz := g_sz hX hP hS h1 hT X
    obtain ⟨hx, hb, hml, hown, hts, hnm, hEv, hs0, hfr, hlo, hce, hsl, hret⟩ := id hX
    obtain ⟨k1, k2, k3, k4, k5⟩ := hk
    have cb := callB_of (R := R) (own := (my M).cls) (index := idx) (y := my M2) (bytes := mc M2) (maxL := ml M2) (ret := mt M2) (ws := m_ws M2) (rm := { frames := mf M2, cells := gn (em2 z2).2 - gn S, slots := gsl (em2 z2).2 - gsl S, locals := mo M2 }) As.length hts (g_good_in k1) rfl rfl rfl (hts _ k2) (hts _ w1) ⟨k3, k4, k5⟩ ⟨Nat.le_trans hR.1 hfr, Nat.le_trans hR.2 hlo⟩
    have hrun := va_runS (g := F0 m pc ls (stk.map (g_rv E))) (As := As.map (g_rv E)) (rest := st.map (g_rv E)) (H := H) (locs := locs) (cells := gn S - n0) (slots := gsl S - s0) (below := below) (meth := meth) (e := e) (p := p) (m := m) (c := c) (cc := mc M) (nL := ml M) ⟨hx, hb, hml, hown, hts⟩ hM ⟨cb, hts _ w2⟩ ⟨g_blind, g_pre hX hP hS hsz As⟩ rfl (by rw [List.length_map]) hl.1 (by rw [hst, g_args]) (by show 2 * 0 + _ ≤ 8; rw [g_cat]; omega) hd ⟨by omega, by omega⟩
    exact g_after (em2 := em2) hX hl hS h1 h2 c1 c2 hrun hG hT X
theorem X_callI {idx a : Nat} {As : List Value} {stk : List Value} (hC : gC em2 E M2 (.ref a :: As) S o2) (hk : g_okC M2 As.length) (hmt : mt M2 = none) (hnm2 : (my M2).name = "<init>") (w1 : Cond.methodLink (my M).cls idx (my M2) ∈ lw_good) (w2 : Cond.instanceMethod (my M2) ∈ lw_good) (hR : g_okR M M2) (hst : stk = As.reverse ++ .ref a :: st) (hcat : (st.map fun v => v.category).sum ≤ 8) (hd : decode (mc M) pc = .ok (.invokespecial idx, 3))
    (h : ∀ z, gJ em E M n0 s0 (pc + 3) lv ((em2 z).1.toList ++ st) (em2 z).2 (F z)) : gJ em E M n0 s0 pc lv stk S (o2.bind F) := by
  intro z hz
  cases hr : o2 with
  | none => rw [hr] at hz; cases hz
  | some z2 =>
    rw [hr] at hz
    obtain ⟨c1, c2, hM⟩ := hC z2 hr
    obtain ⟨m1, m2, hG⟩ := h z2 z hz
    refine ⟨by omega, by omega, fun p e s m args below meth c R Q hX H locs ls hl hP hS h1 h2 => ?_⟩
    intro T hT X
    have hsz := g_sz hX hP hS h1 hT X
    obtain ⟨hx, hb, hml, hown, hts, hnm, hEv, hs0, hfr, hlo, hce, hsl, hret⟩ := id hX
    obtain ⟨k1, k2, k3, k4, k5⟩ := hk
    have cb := callB_of (R := R) (own := (my M).cls) (index := idx) (y := my M2) (bytes := mc M2) (maxL := ml M2) (ret := mt M2) (ws := m_ws M2) (rm := { frames := mf M2, cells := gn (em2 z2).2 - gn S, slots := gsl (em2 z2).2 - gsl S, locals := mo M2 }) As.length hts (g_good_in k1) rfl rfl rfl (hts _ k2) (hts _ w1) ⟨k3, k4, k5⟩ ⟨Nat.le_trans hR.1 hfr, Nat.le_trans hR.2 hlo⟩
    rw [hmt] at cb
    have hrun := va_runI (g := F0 m pc ls (stk.map (g_rv E))) (b := e0 E + a) (As := As.map (g_rv E)) (rest := st.map (g_rv E)) (H := H) (locs := locs) (cells := gn S - n0) (slots := gsl S - s0) (below := below) (meth := meth) (e := e) (p := p) (m := m) (c := c) (cc := mc M) (nL := ml M) ⟨hx, hb, hml, hown, hts⟩ hM ⟨cb, hnm2, hts _ w2⟩ ⟨g_blind, g_pre hX hP hS hsz (.ref a :: As)⟩ rfl (by rw [List.length_map]) hl.1 (by rw [hst, g_args]; rfl) (by show 2 * 0 + _ ≤ 8; rw [g_cat]; omega) hd ⟨by omega, by omega⟩
    exact g_after (em2 := em2) hX hl hS h1 h2 c1 c2 hrun hG hT X
theorem X_callN {idx a : Nat} {As : List Value} {stk : List Value} (hC : gC em2 E M2 (.ref a :: As) S o2) (hk : g_okC M2 As.length) (hmt : mt M2 = none) (hnm2 : (my M2).name = "<init>") (w1 : Cond.methodLinkNest (my M).cls idx (my M2) "ShiftHouse" ∈ g_nests) (w2 : Cond.instanceMethod (my M2) ∈ lw_good) (hR : g_okR M M2) (hst : stk = As.reverse ++ .ref a :: st) (hcat : (st.map fun v => v.category).sum ≤ 8) (hd : decode (mc M) pc = .ok (.invokespecial idx, 3))
    (h : ∀ z, gJ em E M n0 s0 (pc + 3) lv ((em2 z).1.toList ++ st) (em2 z).2 (F z)) : gJ em E M n0 s0 pc lv stk S (o2.bind F) := by
  intro z hz
  cases hr : o2 with
  | none => rw [hr] at hz; cases hz
  | some z2 =>
    rw [hr] at hz
    obtain ⟨c1, c2, hM⟩ := hC z2 hr
    obtain ⟨m1, m2, hG⟩ := h z2 z hz
    refine ⟨by omega, by omega, fun p e s m args below meth c R Q hX H locs ls hl hP hS h1 h2 => ?_⟩
    intro T hT X
    have hsz := g_sz hX hP hS h1 hT X
    obtain ⟨hx, hb, hml, hown, hts, hnm, hEv, hs0, hfr, hlo, hce, hsl, hret⟩ := id hX
    obtain ⟨k1, k2, k3, k4, k5⟩ := hk
    have cb := va_cnB (R := R) (own := (my M).cls) (host := "ShiftHouse") (index := idx) (y := my M2) (bytes := mc M2) (maxL := ml M2) (ret := mt M2) (ws := m_ws M2) (rm := { frames := mf M2, cells := gn (em2 z2).2 - gn S, slots := gsl (em2 z2).2 - gsl S, locals := mo M2 }) As.length hts (g_good_in k1) rfl rfl rfl (hEv.2.2.2.2.1 _ w1) (hts _ k2) ⟨k3, k4, k5⟩ ⟨Nat.le_trans hR.1 hfr, Nat.le_trans hR.2 hlo⟩
    rw [hmt] at cb
    have hrun := va_runIN (g := F0 m pc ls (stk.map (g_rv E))) (b := e0 E + a) (As := As.map (g_rv E)) (rest := st.map (g_rv E)) (H := H) (locs := locs) (cells := gn S - n0) (slots := gsl S - s0) (below := below) (meth := meth) (e := e) (p := p) (m := m) (c := c) (cc := mc M) (nL := ml M) ⟨hx, hb, hml, hown, hts⟩ hM ⟨cb, hnm2, hts _ w2⟩ ⟨g_blind, g_pre hX hP hS hsz (.ref a :: As)⟩ rfl (by rw [List.length_map]) hl.1 (by rw [hst, g_args]; rfl) (by show 2 * 0 + _ ≤ 8; rw [g_cat]; omega) hd ⟨by omega, by omega⟩
    exact g_after (em2 := em2) hX hl hS h1 h2 c1 c2 hrun hG hT X
/-! ===== the JDK's own, and the end ===== -/
theorem X_objInit {idx a : Nat} (w1 : Cond.methodLink (my M).cls idx objectInit ∈ lw_good) (w2 : Cond.instanceMethod objectInit ∈ lw_good) (w3 : Cond.code objectInit ⟨#[0xb1]⟩ 1 none ∈ lw_good) (hf : 1 ≤ mf M) (hlo : (st.map fun v => v.category).sum + 12 ≤ mo M) (hd : decode (mc M) pc = .ok (.invokespecial idx, 3)) (h : gJ em E M n0 s0 (pc + 3) lv st S o) : gJ em E M n0 s0 pc lv (.ref a :: st) S o :=
  gJ.stepX (fun p e s m args below meth c R Q H locs ls r S' hX hl hP hS _ _ k => W.objInit hX.1 hX.2.1 hX.2.2.2.1 (hX.2.2.2.2.1 _ w1) (hX.2.2.2.2.1 _ w2) (hX.2.2.2.2.1 _ w3) rfl (by rw [hX.2.2.1]; exact hl.1) rfl hd (Nat.le_trans hf hX.2.2.2.2.2.2.2.2.1) (by have := hX.2.2.2.2.2.2.2.2.2.1; show 2 * 0 + _ + 12 ≤ _; rw [g_cat]; omega) k) h
theorem X_max {idx : Nat} {x y : Int64} (w1 : Cond.methodLink (my M).cls idx Lib.MathLoose.max_long.x ∈ lw_good) (w2 : Cond.static Lib.MathLoose.max_long.x ∈ lw_good) (w3 : Cond.initialized "java/lang/Math" ∈ lw_good) (w4 : Cond.code Lib.MathLoose.max_long.x Lib.MathLoose.max_long.code 4 (some .long) ∈ lw_good) (hf : 1 ≤ mf M) (hlo : (st.map fun v => v.category).sum + 15 ≤ mo M) (hd : decode (mc M) pc = .ok (.invokestatic idx, 3)) (h : gJ em E M n0 s0 (pc + 3) lv (.long (if y < x then x else y) :: st) S o) : gJ em E M n0 s0 pc lv (.long y :: .long x :: st) S o :=
  gJ.stepX (fun p e s m args below meth c R Q H locs ls r S' hX hl hP hS hc hs k => va_mmax_long hX.1 hX.2.1 (by rw [hX.2.2.1]; exact hl.1.symm) hX.2.2.2.1 (hX.2.2.2.2.1 _ w1) (hX.2.2.2.2.1 _ w2) (hX.2.2.2.2.1 _ w3) (hX.2.2.2.2.1 _ w4) (Nat.le_trans hf hX.2.2.2.2.2.2.2.2.1) (by have := hX.2.2.2.2.2.2.2.2.2.1; rw [g_cat]; omega) hc hs hd k) h
theorem X_min {idx : Nat} {x y : Int64} (w1 : Cond.methodLink (my M).cls idx Lib.MathLoose.min_long.x ∈ lw_good) (w2 : Cond.static Lib.MathLoose.min_long.x ∈ lw_good) (w3 : Cond.initialized "java/lang/Math" ∈ lw_good) (w4 : Cond.code Lib.MathLoose.min_long.x Lib.MathLoose.min_long.code 4 (some .long) ∈ lw_good) (hf : 1 ≤ mf M) (hlo : (st.map fun v => v.category).sum + 15 ≤ mo M) (hd : decode (mc M) pc = .ok (.invokestatic idx, 3)) (h : gJ em E M n0 s0 (pc + 3) lv (.long (if y < x then y else x) :: st) S o) : gJ em E M n0 s0 pc lv (.long y :: .long x :: st) S o :=
  gJ.stepX (fun p e s m args below meth c R Q H locs ls r S' hX hl hP hS hc hs k => va_mmin_long hX.1 hX.2.1 (by rw [hX.2.2.1]; exact hl.1.symm) hX.2.2.2.1 (hX.2.2.2.2.1 _ w1) (hX.2.2.2.2.1 _ w2) (hX.2.2.2.2.1 _ w3) (hX.2.2.2.2.1 _ w4) (Nat.le_trans hf hX.2.2.2.2.2.2.2.2.1) (by have := hX.2.2.2.2.2.2.2.2.2.1; rw [g_cat]; omega) hc hs hd k) h
theorem X_abs {idx : Nat} {x : Int64} (w1 : Cond.methodLink (my M).cls idx Lib.MathLoose.abs_long.x ∈ lw_good) (w2 : Cond.static Lib.MathLoose.abs_long.x ∈ lw_good) (w3 : Cond.initialized "java/lang/Math" ∈ lw_good) (w4 : Cond.code Lib.MathLoose.abs_long.x Lib.MathLoose.abs_long.code 2 (some .long) ∈ lw_good) (hf : 1 ≤ mf M) (hlo : (st.map fun v => v.category).sum + 13 ≤ mo M) (hd : decode (mc M) pc = .ok (.invokestatic idx, 3)) (h : gJ em E M n0 s0 (pc + 3) lv (.long (if 0 < x then x else -x) :: st) S o) : gJ em E M n0 s0 pc lv (.long x :: st) S o :=
  gJ.stepX (fun p e s m args below meth c R Q H locs ls r S' hX hl hP hS hc hs k => va_mabs_long hX.1 hX.2.1 (by rw [hX.2.2.1]; exact hl.1.symm) hX.2.2.2.1 (hX.2.2.2.2.1 _ w1) (hX.2.2.2.2.1 _ w2) (hX.2.2.2.2.1 _ w3) (hX.2.2.2.2.1 _ w4) (Nat.le_trans hf hX.2.2.2.2.2.2.2.2.1) (by have := hX.2.2.2.2.2.2.2.2.2.1; rw [g_cat]; omega) hc hs hd k) h
/-- System.arraycopy -/
def g_rg {α : Type} (sp dp n : Int32) (n0 n1 : Nat) (o : Option α) : Option α := if sp < 0 ∨ dp < 0 ∨ n < 0 ∨ n0 < sp.toNatClampNeg + n.toNatClampNeg ∨ n1 < dp.toNatClampNeg + n.toNatClampNeg then none else o
theorem g_rg_s {α : Type} {sp dp n : Int32} {n0 n1 : Nat} {o : Option α} {z : α} (h : g_rg sp dp n n0 n1 o = some z) : (¬ sp < 0 ∧ ¬ dp < 0 ∧ ¬ n < 0 ∧ sp.toNatClampNeg + n.toNatClampNeg ≤ n0 ∧ dp.toNatClampNeg + n.toNatClampNeg ≤ n1) ∧ o = some z := by
  unfold g_rg at h
  by_cases hc : sp < 0 ∨ dp < 0 ∨ n < 0 ∨ n0 < sp.toNatClampNeg + n.toNatClampNeg ∨ n1 < dp.toNatClampNeg + n.toNatClampNeg
  · rw [if_pos hc] at h; cases h
  · rw [if_neg hc] at h
    simp only [not_or, Nat.not_lt] at hc
    exact ⟨hc, h⟩
def g_cpI {α : Type} (S : gS) (a0 : Nat) (sp : Int32) (a1 : Nat) (dp n : Int32) (F : gS → Option α) : Option α := g_ck S 10 a0 (g_ck S 10 a1 (g_rg sp dp n (gln S a0) (gln S a1) (F (g_rI S a1 (va_cpy (gaI S a0) (gaI S a1) sp.toNatClampNeg dp.toNatClampNeg n.toNatClampNeg)))))
def g_cpL {α : Type} (S : gS) (a0 : Nat) (sp : Int32) (a1 : Nat) (dp n : Int32) (F : gS → Option α) : Option α := g_ck S 11 a0 (g_ck S 11 a1 (g_rg sp dp n (gln S a0) (gln S a1) (F (g_rL S a1 (va_cpy (gaL S a0) (gaL S a1) sp.toNatClampNeg dp.toNatClampNeg n.toNatClampNeg)))))
theorem X_cpI {idx a0 a1 : Nat} {sp dp n : Int32} {G : gS → Option ρ} (w1 : Cond.methodLink (my M).cls idx arraycopyName ∈ lw_good) (w2 : Cond.native arraycopyName ∈ lw_good) (w3 : Cond.static arraycopyName ∈ lw_good) (w4 : Cond.initialized "java/lang/System" ∈ lw_good) (hf : 1 ≤ mf M) (hlo : (st.map fun v => v.category).sum + (nativeFrameWords "java/lang/System" "arraycopy" 5 + 11) ≤ mo M) (hd : decode (mc M) pc = .ok (.invokestatic idx, 3)) (h : ∀ S1, gJ em E M n0 s0 (pc + 3) lv st S1 (G S1)) : gJ em E M n0 s0 pc lv (.int n :: .int dp :: .ref a1 :: .int sp :: .ref a0 :: st) S (g_cpI S a0 sp a1 dp n G) := by
  intro z hz
  obtain ⟨hi, hz⟩ := g_ck_s hz
  obtain ⟨hj, hz⟩ := g_ck_s hz
  obtain ⟨⟨q1, q2, q3, q4, q5⟩, hz⟩ := g_rg_s hz
  obtain ⟨m1, m2, hG⟩ := h _ z hz
  refine ⟨m1, m2, fun p e s m args below meth c R Q hX H locs ls hl hP hS h1 h2 => va_copyi (D := eD E) hX.1 hX.2.1 (by rw [hX.2.2.1]; exact hl.1.symm) hX.2.2.2.1 (hX.2.2.2.2.1 _ w1) (hX.2.2.2.2.1 _ w2) (hX.2.2.2.2.1 _ w3) (hX.2.2.2.2.1 _ w4) hX.2.2.2.2.2.2.1.1 hP (g_w_D E S) hS a0 a1 0 0 (g_cell_I hi (Or.inl rfl)) (g_cell_I hj (Or.inl rfl)) (ty := .int) rfl rfl rfl q1 q2 q3 q4 q5 (fun _ _ => rfl) (Nat.le_trans hf hX.2.2.2.2.2.2.2.2.1) (by have := hX.2.2.2.2.2.2.2.2.2.1; rw [g_cat]; omega) hd fun H1 locs1 hP1 _ hS1 => ?_⟩
  rw [g_rI_w hj (Or.inl rfl)] at hP1
  exact hG p e s m args below meth c R Q hX H1 locs1 ls hl hP1 hS1 h1 h2
theorem X_cpL {idx a0 a1 : Nat} {sp dp n : Int32} {G : gS → Option ρ} (w1 : Cond.methodLink (my M).cls idx arraycopyName ∈ lw_good) (w2 : Cond.native arraycopyName ∈ lw_good) (w3 : Cond.static arraycopyName ∈ lw_good) (w4 : Cond.initialized "java/lang/System" ∈ lw_good) (hf : 1 ≤ mf M) (hlo : (st.map fun v => v.category).sum + (nativeFrameWords "java/lang/System" "arraycopy" 5 + 11) ≤ mo M) (hd : decode (mc M) pc = .ok (.invokestatic idx, 3)) (h : ∀ S1, gJ em E M n0 s0 (pc + 3) lv st S1 (G S1)) : gJ em E M n0 s0 pc lv (.int n :: .int dp :: .ref a1 :: .int sp :: .ref a0 :: st) S (g_cpL S a0 sp a1 dp n G) := by
  intro z hz
  obtain ⟨hi, hz⟩ := g_ck_s hz
  obtain ⟨hj, hz⟩ := g_ck_s hz
  obtain ⟨⟨q1, q2, q3, q4, q5⟩, hz⟩ := g_rg_s hz
  obtain ⟨m1, m2, hG⟩ := h _ z hz
  refine ⟨m1, m2, fun p e s m args below meth c R Q hX H locs ls hl hP hS h1 h2 => va_copyl (D := eD E) hX.1 hX.2.1 (by rw [hX.2.2.1]; exact hl.1.symm) hX.2.2.2.1 (hX.2.2.2.2.1 _ w1) (hX.2.2.2.2.1 _ w2) (hX.2.2.2.2.1 _ w3) (hX.2.2.2.2.1 _ w4) hX.2.2.2.2.2.2.1.1 hP (g_w_D E S) hS a0 a1 1 1 (g_cell_L hi) (g_cell_L hj) (ty := .long) rfl rfl rfl q1 q2 q3 q4 q5 (fun _ _ => rfl) (Nat.le_trans hf hX.2.2.2.2.2.2.2.2.1) (by have := hX.2.2.2.2.2.2.2.2.2.1; rw [g_cat]; omega) hd fun H1 locs1 hP1 _ hS1 => ?_⟩
  rw [g_rL_w hj] at hP1
  exact hG p e s m args below meth c R Q hX H1 locs1 ls hl hP1 hS1 h1 h2
/-- the end -/
theorem gJ.ret {z0 : ρ} {stk : List Value} (hd : decode (mc M) pc = .ok (g_ri (mt M), 1)) (hk : g_rok (mt M) (em z0).1) (hst : stk = (em z0).1.toList) : gJ em E M n0 s0 pc lv stk (em z0).2 (some z0) := by
  intro z hz
  cases hz
  refine ⟨Nat.le_refl _, Nat.le_refl _, fun p e s m args below meth c R Q hX H locs ls hl hP hS h1 h2 => ?_⟩
  rw [hst]
  exact hX.2.2.2.2.2.2.2.2.2.2.2.2 H locs ls pc hd hk hP hS
theorem X_iret {x : Int32} (hm : mt M = some .int) (hd : decode (mc M) pc = .ok (.ireturn, 1)) : gJ gI E M n0 s0 pc lv [.int x] S (some (x, S)) := gJ.ret (em := gI) (z0 := (x, S)) (by rw [hm]; exact hd) (by rw [hm]; trivial) rfl
def g_z {α : Type} (x : Int32) (o : Option α) : Option α := if x = 0 ∨ x = 1 then o else none
theorem X_zret {x : Int32} (hm : mt M = some .boolean) (hd : decode (mc M) pc = .ok (.ireturn, 1)) : gJ gI E M n0 s0 pc lv [.int x] S (g_z x (some (x, S))) := by
  intro z hz
  unfold g_z at hz
  by_cases hx : x = 0 ∨ x = 1
  · rw [if_pos hx] at hz
    exact gJ.ret (em := gI) (z0 := (x, S)) (by rw [hm]; exact hd) (by rw [hm]; exact hx) rfl z hz
  · rw [if_neg hx] at hz; cases hz
theorem X_z0 (hm : mt M = some .boolean) (hd : decode (mc M) pc = .ok (.ireturn, 1)) : gJ gI E M n0 s0 pc lv [.int 0] S (some (0, S)) := gJ.ret (em := gI) (z0 := (0, S)) (by rw [hm]; exact hd) (by rw [hm]; exact Or.inl rfl) rfl
theorem X_z1 (hm : mt M = some .boolean) (hd : decode (mc M) pc = .ok (.ireturn, 1)) : gJ gI E M n0 s0 pc lv [.int 1] S (some (1, S)) := gJ.ret (em := gI) (z0 := (1, S)) (by rw [hm]; exact hd) (by rw [hm]; exact Or.inr rfl) rfl
theorem X_lret {x : Int64} (hm : mt M = some .long) (hd : decode (mc M) pc = .ok (.lreturn, 1)) : gJ gL E M n0 s0 pc lv [.long x] S (some (x, S)) := gJ.ret (em := gL) (z0 := (x, S)) (by rw [hm]; exact hd) (by rw [hm]; trivial) rfl
theorem X_aret {x : Nat} {C : String} (hm : mt M = some (.object C)) (hd : decode (mc M) pc = .ok (.areturn, 1)) : gJ gR E M n0 s0 pc lv [.ref x] S (some (x, S)) := gJ.ret (em := gR) (z0 := (x, S)) (by rw [hm]; exact hd) (by rw [hm]; trivial) rfl
theorem X_vret (hm : mt M = none) (hd : decode (mc M) pc = .ok (.return_, 1)) : gJ gV E M n0 s0 pc lv [] S (some S) := gJ.ret (em := gV) (z0 := S) (by rw [hm]; exact hd) (by rw [hm]; trivial) rfl
end XM
end
