-- ===== PART A: goes FIRST, ahead of the names: the tables' words, and 'selects' of the private methods out of them =====
/-- a private method of a class that the tables say can be made, by its rows of tables_1 -/
def lw_okq (q : MethodName × Nat) : Prop := (q.1.cls ≠ "java/lang/invoke/MethodHandle" ∧ q.1.cls ≠ "java/lang/invoke/VarHandle") ∧ Cond.instantiable q.1.cls q.2 ∈ tables_1 ∧ Cond.privateMethod q.1 ∈ tables_1 ∧ Cond.instanceMethod q.1 ∈ tables_1
theorem lw_p0 : lw_okq (⟨"ShiftHouse", "putDraft", "(IZ)V"⟩, 12) := ⟨⟨by decide +kernel, by decide +kernel⟩, List.mem_of_getElem? (i := 14) (by decide +kernel), List.mem_of_getElem? (i := 316) (by decide +kernel), List.mem_of_getElem? (i := 317) (by decide +kernel)⟩
theorem lw_p1 : lw_okq (⟨"ShiftHouse$Migration", "lastPlace", "(I)I"⟩, 3) := ⟨⟨by decide +kernel, by decide +kernel⟩, List.mem_of_getElem? (i := 143) (by decide +kernel), List.mem_of_getElem? (i := 353) (by decide +kernel), List.mem_of_getElem? (i := 354) (by decide +kernel)⟩
theorem lw_p2 : lw_okq (⟨"ShiftHouse$Migration", "makeBack", "(LShiftHouse$Form;I)V"⟩, 3) := ⟨⟨by decide +kernel, by decide +kernel⟩, List.mem_of_getElem? (i := 143) (by decide +kernel), List.mem_of_getElem? (i := 362) (by decide +kernel), List.mem_of_getElem? (i := 363) (by decide +kernel)⟩
theorem lw_p3 : lw_okq (⟨"ShiftHouse$Form", "numberTold", "(I)J"⟩, 1) := ⟨⟨by decide +kernel, by decide +kernel⟩, List.mem_of_getElem? (i := 62) (by decide +kernel), List.mem_of_getElem? (i := 370) (by decide +kernel), List.mem_of_getElem? (i := 371) (by decide +kernel)⟩
theorem lw_p4 : lw_okq (⟨"ShiftHouse$Form", "setDigits", "(IJ)V"⟩, 1) := ⟨⟨by decide +kernel, by decide +kernel⟩, List.mem_of_getElem? (i := 62) (by decide +kernel), List.mem_of_getElem? (i := 390) (by decide +kernel), List.mem_of_getElem? (i := 391) (by decide +kernel)⟩
theorem lw_p5 : lw_okq (⟨"ShiftHouse", "isSeenColumn", "(I)Z"⟩, 12) := ⟨⟨by decide +kernel, by decide +kernel⟩, List.mem_of_getElem? (i := 14) (by decide +kernel), List.mem_of_getElem? (i := 460) (by decide +kernel), List.mem_of_getElem? (i := 461) (by decide +kernel)⟩
theorem lw_p6 : lw_okq (⟨"ShiftHouse$Schema", "placeOf", "(I)I"⟩, 3) := ⟨⟨by decide +kernel, by decide +kernel⟩, List.mem_of_getElem? (i := 121) (by decide +kernel), List.mem_of_getElem? (i := 496) (by decide +kernel), List.mem_of_getElem? (i := 497) (by decide +kernel)⟩
theorem lw_p7 : lw_okq (⟨"ShiftHouse$Schema", "addColumn", "(LShiftHouse$Step;)Z"⟩, 3) := ⟨⟨by decide +kernel, by decide +kernel⟩, List.mem_of_getElem? (i := 121) (by decide +kernel), List.mem_of_getElem? (i := 500) (by decide +kernel), List.mem_of_getElem? (i := 501) (by decide +kernel)⟩
theorem lw_p8 : lw_okq (⟨"ShiftHouse$Schema", "dropColumn", "(I)V"⟩, 3) := ⟨⟨by decide +kernel, by decide +kernel⟩, List.mem_of_getElem? (i := 121) (by decide +kernel), List.mem_of_getElem? (i := 504) (by decide +kernel), List.mem_of_getElem? (i := 505) (by decide +kernel)⟩
theorem lw_p9 : lw_okq (⟨"ShiftHouse$Schema", "renameColumn", "(II)Z"⟩, 3) := ⟨⟨by decide +kernel, by decide +kernel⟩, List.mem_of_getElem? (i := 121) (by decide +kernel), List.mem_of_getElem? (i := 508) (by decide +kernel), List.mem_of_getElem? (i := 509) (by decide +kernel)⟩
theorem lw_p10 : lw_okq (⟨"ShiftHouse$Schema", "retypeColumn", "(II)Z"⟩, 3) := ⟨⟨by decide +kernel, by decide +kernel⟩, List.mem_of_getElem? (i := 121) (by decide +kernel), List.mem_of_getElem? (i := 512) (by decide +kernel), List.mem_of_getElem? (i := 513) (by decide +kernel)⟩
theorem lw_p11 : lw_okq (⟨"ShiftHouse", "runPlan", "()V"⟩, 12) := ⟨⟨by decide +kernel, by decide +kernel⟩, List.mem_of_getElem? (i := 14) (by decide +kernel), List.mem_of_getElem? (i := 518) (by decide +kernel), List.mem_of_getElem? (i := 519) (by decide +kernel)⟩
theorem lw_p12 : lw_okq (⟨"ShiftHouse", "endRunning", "()I"⟩, 12) := ⟨⟨by decide +kernel, by decide +kernel⟩, List.mem_of_getElem? (i := 14) (by decide +kernel), List.mem_of_getElem? (i := 530) (by decide +kernel), List.mem_of_getElem? (i := 531) (by decide +kernel)⟩
theorem lw_p13 : lw_okq (⟨"ShiftHouse", "countWhenUp", "(I)I"⟩, 12) := ⟨⟨by decide +kernel, by decide +kernel⟩, List.mem_of_getElem? (i := 14) (by decide +kernel), List.mem_of_getElem? (i := 566) (by decide +kernel), List.mem_of_getElem? (i := 567) (by decide +kernel)⟩
theorem lw_p14 : lw_okq (⟨"ShiftHouseModel", "tell", "(IIII)V"⟩, 38) := ⟨⟨by decide +kernel, by decide +kernel⟩, List.mem_of_getElem? (i := 578) (by decide +kernel), List.mem_of_getElem? (i := 719) (by decide +kernel), List.mem_of_getElem? (i := 720) (by decide +kernel)⟩
theorem lw_p15 : lw_okq (⟨"ShiftHouseModel", "clear", "(I)V"⟩, 38) := ⟨⟨by decide +kernel, by decide +kernel⟩, List.mem_of_getElem? (i := 578) (by decide +kernel), List.mem_of_getElem? (i := 723) (by decide +kernel), List.mem_of_getElem? (i := 724) (by decide +kernel)⟩
def lw_privs_1 : List (MethodName × Nat) := [(⟨"ShiftHouse", "putDraft", "(IZ)V"⟩, 12), (⟨"ShiftHouse$Migration", "lastPlace", "(I)I"⟩, 3), (⟨"ShiftHouse$Migration", "makeBack", "(LShiftHouse$Form;I)V"⟩, 3), (⟨"ShiftHouse$Form", "numberTold", "(I)J"⟩, 1), (⟨"ShiftHouse$Form", "setDigits", "(IJ)V"⟩, 1), (⟨"ShiftHouse", "isSeenColumn", "(I)Z"⟩, 12), (⟨"ShiftHouse$Schema", "placeOf", "(I)I"⟩, 3), (⟨"ShiftHouse$Schema", "addColumn", "(LShiftHouse$Step;)Z"⟩, 3), (⟨"ShiftHouse$Schema", "dropColumn", "(I)V"⟩, 3), (⟨"ShiftHouse$Schema", "renameColumn", "(II)Z"⟩, 3), (⟨"ShiftHouse$Schema", "retypeColumn", "(II)Z"⟩, 3), (⟨"ShiftHouse", "runPlan", "()V"⟩, 12), (⟨"ShiftHouse", "endRunning", "()I"⟩, 12), (⟨"ShiftHouse", "countWhenUp", "(I)I"⟩, 12), (⟨"ShiftHouseModel", "tell", "(IIII)V"⟩, 38), (⟨"ShiftHouseModel", "clear", "(I)V"⟩, 38)]
theorem lw_r1 : ∀ q ∈ lw_privs_1, lw_okq q := List.forall_mem_cons.mpr ⟨lw_p0, List.forall_mem_cons.mpr ⟨lw_p1, List.forall_mem_cons.mpr ⟨lw_p2, List.forall_mem_cons.mpr ⟨lw_p3, List.forall_mem_cons.mpr ⟨lw_p4, List.forall_mem_cons.mpr ⟨lw_p5, List.forall_mem_cons.mpr ⟨lw_p6, List.forall_mem_cons.mpr ⟨lw_p7, List.forall_mem_cons.mpr ⟨lw_p8, List.forall_mem_cons.mpr ⟨lw_p9, List.forall_mem_cons.mpr ⟨lw_p10, List.forall_mem_cons.mpr ⟨lw_p11, List.forall_mem_cons.mpr ⟨lw_p12, List.forall_mem_cons.mpr ⟨lw_p13, List.forall_mem_cons.mpr ⟨lw_p14, List.forall_mem_cons.mpr ⟨lw_p15, fun _ h => absurd h List.not_mem_nil⟩⟩⟩⟩⟩⟩⟩⟩⟩⟩⟩⟩⟩⟩⟩⟩
theorem lw_p16 : lw_okq (⟨"ShiftHouseModel", "addChar", "(II)V"⟩, 38) := ⟨⟨by decide +kernel, by decide +kernel⟩, List.mem_of_getElem? (i := 578) (by decide +kernel), List.mem_of_getElem? (i := 728) (by decide +kernel), List.mem_of_getElem? (i := 729) (by decide +kernel)⟩
theorem lw_p17 : lw_okq (⟨"ShiftHouseModel", "find", "(I)I"⟩, 38) := ⟨⟨by decide +kernel, by decide +kernel⟩, List.mem_of_getElem? (i := 578) (by decide +kernel), List.mem_of_getElem? (i := 736) (by decide +kernel), List.mem_of_getElem? (i := 737) (by decide +kernel)⟩
theorem lw_p18 : lw_okq (⟨"ShiftHouseModel", "acts", "(I)I"⟩, 38) := ⟨⟨by decide +kernel, by decide +kernel⟩, List.mem_of_getElem? (i := 578) (by decide +kernel), List.mem_of_getElem? (i := 740) (by decide +kernel), List.mem_of_getElem? (i := 741) (by decide +kernel)⟩
theorem lw_p19 : lw_okq (⟨"ShiftHouseModel", "act", "()Z"⟩, 38) := ⟨⟨by decide +kernel, by decide +kernel⟩, List.mem_of_getElem? (i := 578) (by decide +kernel), List.mem_of_getElem? (i := 744) (by decide +kernel), List.mem_of_getElem? (i := 745) (by decide +kernel)⟩
theorem lw_p20 : lw_okq (⟨"ShiftHouseModel", "insert", "(I)I"⟩, 38) := ⟨⟨by decide +kernel, by decide +kernel⟩, List.mem_of_getElem? (i := 578) (by decide +kernel), List.mem_of_getElem? (i := 748) (by decide +kernel), List.mem_of_getElem? (i := 749) (by decide +kernel)⟩
theorem lw_p21 : lw_okq (⟨"ShiftHouseModel", "moveRow", "(II)V"⟩, 38) := ⟨⟨by decide +kernel, by decide +kernel⟩, List.mem_of_getElem? (i := 578) (by decide +kernel), List.mem_of_getElem? (i := 752) (by decide +kernel), List.mem_of_getElem? (i := 753) (by decide +kernel)⟩
theorem lw_p22 : lw_okq (⟨"ShiftHouseModel", "form", "(II)I"⟩, 38) := ⟨⟨by decide +kernel, by decide +kernel⟩, List.mem_of_getElem? (i := 578) (by decide +kernel), List.mem_of_getElem? (i := 756) (by decide +kernel), List.mem_of_getElem? (i := 757) (by decide +kernel)⟩
theorem lw_p23 : lw_okq (⟨"ShiftHouseModel", "drafted", "(II)V"⟩, 38) := ⟨⟨by decide +kernel, by decide +kernel⟩, List.mem_of_getElem? (i := 578) (by decide +kernel), List.mem_of_getElem? (i := 760) (by decide +kernel), List.mem_of_getElem? (i := 761) (by decide +kernel)⟩
theorem lw_p24 : lw_okq (⟨"ShiftHouseModel", "down", "(III)V"⟩, 38) := ⟨⟨by decide +kernel, by decide +kernel⟩, List.mem_of_getElem? (i := 578) (by decide +kernel), List.mem_of_getElem? (i := 764) (by decide +kernel), List.mem_of_getElem? (i := 765) (by decide +kernel)⟩
theorem lw_p25 : lw_okq (⟨"ShiftHouseModel", "follow", "()V"⟩, 38) := ⟨⟨by decide +kernel, by decide +kernel⟩, List.mem_of_getElem? (i := 578) (by decide +kernel), List.mem_of_getElem? (i := 768) (by decide +kernel), List.mem_of_getElem? (i := 769) (by decide +kernel)⟩
theorem lw_p26 : lw_okq (⟨"ShiftHouseModel", "copySchema", "(II)V"⟩, 38) := ⟨⟨by decide +kernel, by decide +kernel⟩, List.mem_of_getElem? (i := 578) (by decide +kernel), List.mem_of_getElem? (i := 772) (by decide +kernel), List.mem_of_getElem? (i := 773) (by decide +kernel)⟩
theorem lw_p27 : lw_okq (⟨"ShiftHouseModel", "place", "(I)I"⟩, 38) := ⟨⟨by decide +kernel, by decide +kernel⟩, List.mem_of_getElem? (i := 578) (by decide +kernel), List.mem_of_getElem? (i := 776) (by decide +kernel), List.mem_of_getElem? (i := 777) (by decide +kernel)⟩
theorem lw_p28 : lw_okq (⟨"ShiftHouseModel", "step", "(I)V"⟩, 38) := ⟨⟨by decide +kernel, by decide +kernel⟩, List.mem_of_getElem? (i := 578) (by decide +kernel), List.mem_of_getElem? (i := 780) (by decide +kernel), List.mem_of_getElem? (i := 781) (by decide +kernel)⟩
theorem lw_p29 : lw_okq (⟨"ShiftHouseModel", "copy", "(II)V"⟩, 38) := ⟨⟨by decide +kernel, by decide +kernel⟩, List.mem_of_getElem? (i := 578) (by decide +kernel), List.mem_of_getElem? (i := 784) (by decide +kernel), List.mem_of_getElem? (i := 785) (by decide +kernel)⟩
theorem lw_p30 : lw_okq (⟨"ShiftHouseModel", "become", "(III)V"⟩, 38) := ⟨⟨by decide +kernel, by decide +kernel⟩, List.mem_of_getElem? (i := 578) (by decide +kernel), List.mem_of_getElem? (i := 788) (by decide +kernel), List.mem_of_getElem? (i := 789) (by decide +kernel)⟩
theorem lw_p31 : lw_okq (⟨"ShiftHouseModel", "told", "(I)J"⟩, 38) := ⟨⟨by decide +kernel, by decide +kernel⟩, List.mem_of_getElem? (i := 578) (by decide +kernel), List.mem_of_getElem? (i := 792) (by decide +kernel), List.mem_of_getElem? (i := 793) (by decide +kernel)⟩
def lw_privs_2 : List (MethodName × Nat) := [(⟨"ShiftHouseModel", "addChar", "(II)V"⟩, 38), (⟨"ShiftHouseModel", "find", "(I)I"⟩, 38), (⟨"ShiftHouseModel", "acts", "(I)I"⟩, 38), (⟨"ShiftHouseModel", "act", "()Z"⟩, 38), (⟨"ShiftHouseModel", "insert", "(I)I"⟩, 38), (⟨"ShiftHouseModel", "moveRow", "(II)V"⟩, 38), (⟨"ShiftHouseModel", "form", "(II)I"⟩, 38), (⟨"ShiftHouseModel", "drafted", "(II)V"⟩, 38), (⟨"ShiftHouseModel", "down", "(III)V"⟩, 38), (⟨"ShiftHouseModel", "follow", "()V"⟩, 38), (⟨"ShiftHouseModel", "copySchema", "(II)V"⟩, 38), (⟨"ShiftHouseModel", "place", "(I)I"⟩, 38), (⟨"ShiftHouseModel", "step", "(I)V"⟩, 38), (⟨"ShiftHouseModel", "copy", "(II)V"⟩, 38), (⟨"ShiftHouseModel", "become", "(III)V"⟩, 38), (⟨"ShiftHouseModel", "told", "(I)J"⟩, 38)]
theorem lw_r2 : ∀ q ∈ lw_privs_2, lw_okq q := List.forall_mem_cons.mpr ⟨lw_p16, List.forall_mem_cons.mpr ⟨lw_p17, List.forall_mem_cons.mpr ⟨lw_p18, List.forall_mem_cons.mpr ⟨lw_p19, List.forall_mem_cons.mpr ⟨lw_p20, List.forall_mem_cons.mpr ⟨lw_p21, List.forall_mem_cons.mpr ⟨lw_p22, List.forall_mem_cons.mpr ⟨lw_p23, List.forall_mem_cons.mpr ⟨lw_p24, List.forall_mem_cons.mpr ⟨lw_p25, List.forall_mem_cons.mpr ⟨lw_p26, List.forall_mem_cons.mpr ⟨lw_p27, List.forall_mem_cons.mpr ⟨lw_p28, List.forall_mem_cons.mpr ⟨lw_p29, List.forall_mem_cons.mpr ⟨lw_p30, List.forall_mem_cons.mpr ⟨lw_p31, fun _ h => absurd h List.not_mem_nil⟩⟩⟩⟩⟩⟩⟩⟩⟩⟩⟩⟩⟩⟩⟩⟩
theorem lw_p32 : lw_okq (⟨"ShiftHouseModel", "putDigits", "(IJ)V"⟩, 38) := ⟨⟨by decide +kernel, by decide +kernel⟩, List.mem_of_getElem? (i := 578) (by decide +kernel), List.mem_of_getElem? (i := 804) (by decide +kernel), List.mem_of_getElem? (i := 805) (by decide +kernel)⟩
theorem lw_p33 : lw_okq (⟨"ShiftHouseModel", "up", "(II)V"⟩, 38) := ⟨⟨by decide +kernel, by decide +kernel⟩, List.mem_of_getElem? (i := 578) (by decide +kernel), List.mem_of_getElem? (i := 808) (by decide +kernel), List.mem_of_getElem? (i := 809) (by decide +kernel)⟩
theorem lw_p34 : lw_okq (⟨"ShiftHouseModel", "copyForm", "(II)V"⟩, 38) := ⟨⟨by decide +kernel, by decide +kernel⟩, List.mem_of_getElem? (i := 578) (by decide +kernel), List.mem_of_getElem? (i := 812) (by decide +kernel), List.mem_of_getElem? (i := 813) (by decide +kernel)⟩
theorem lw_p35 : lw_okq (⟨"ShiftHouseModel", "drop", "(I)V"⟩, 38) := ⟨⟨by decide +kernel, by decide +kernel⟩, List.mem_of_getElem? (i := 578) (by decide +kernel), List.mem_of_getElem? (i := 820) (by decide +kernel), List.mem_of_getElem? (i := 821) (by decide +kernel)⟩
theorem lw_p36 : lw_okq (⟨"ShiftHouseModel", "shadowed", "()I"⟩, 38) := ⟨⟨by decide +kernel, by decide +kernel⟩, List.mem_of_getElem? (i := 578) (by decide +kernel), List.mem_of_getElem? (i := 852) (by decide +kernel), List.mem_of_getElem? (i := 853) (by decide +kernel)⟩
theorem lw_p37 : lw_okq (⟨"ShiftHouseModel", "isWrong", "(I)Z"⟩, 38) := ⟨⟨by decide +kernel, by decide +kernel⟩, List.mem_of_getElem? (i := 578) (by decide +kernel), List.mem_of_getElem? (i := 856) (by decide +kernel), List.mem_of_getElem? (i := 857) (by decide +kernel)⟩
theorem lw_p38 : lw_okq (⟨"ShiftHouseModel", "isLagging", "(I)Z"⟩, 38) := ⟨⟨by decide +kernel, by decide +kernel⟩, List.mem_of_getElem? (i := 578) (by decide +kernel), List.mem_of_getElem? (i := 875) (by decide +kernel), List.mem_of_getElem? (i := 876) (by decide +kernel)⟩
theorem lw_p39 : lw_okq (⟨"ShiftHouseModel", "lagging", "()I"⟩, 38) := ⟨⟨by decide +kernel, by decide +kernel⟩, List.mem_of_getElem? (i := 578) (by decide +kernel), List.mem_of_getElem? (i := 895) (by decide +kernel), List.mem_of_getElem? (i := 896) (by decide +kernel)⟩
def lw_privs_3 : List (MethodName × Nat) := [(⟨"ShiftHouseModel", "putDigits", "(IJ)V"⟩, 38), (⟨"ShiftHouseModel", "up", "(II)V"⟩, 38), (⟨"ShiftHouseModel", "copyForm", "(II)V"⟩, 38), (⟨"ShiftHouseModel", "drop", "(I)V"⟩, 38), (⟨"ShiftHouseModel", "shadowed", "()I"⟩, 38), (⟨"ShiftHouseModel", "isWrong", "(I)Z"⟩, 38), (⟨"ShiftHouseModel", "isLagging", "(I)Z"⟩, 38), (⟨"ShiftHouseModel", "lagging", "()I"⟩, 38)]
theorem lw_r3 : ∀ q ∈ lw_privs_3, lw_okq q := List.forall_mem_cons.mpr ⟨lw_p32, List.forall_mem_cons.mpr ⟨lw_p33, List.forall_mem_cons.mpr ⟨lw_p34, List.forall_mem_cons.mpr ⟨lw_p35, List.forall_mem_cons.mpr ⟨lw_p36, List.forall_mem_cons.mpr ⟨lw_p37, List.forall_mem_cons.mpr ⟨lw_p38, List.forall_mem_cons.mpr ⟨lw_p39, fun _ h => absurd h List.not_mem_nil⟩⟩⟩⟩⟩⟩⟩⟩
def lw_privs : List (MethodName × Nat) := lw_privs_1 ++ (lw_privs_2 ++ (lw_privs_3))
def lw_tbl : List Cond := k2_sels lw_privs ++ tables_1
theorem lw_privs_ok : ∀ q ∈ lw_privs, lw_okq q := by
  show ∀ q ∈ lw_privs_1 ++ (lw_privs_2 ++ (lw_privs_3)), lw_okq q
  exact List.forall_mem_append.mpr ⟨lw_r1, List.forall_mem_append.mpr ⟨lw_r2, lw_r3⟩⟩

def RX0 : String := "ShiftHouse$Disk"
def TX0 : u_T := fun k => match k with
  | 0 => ("ShiftHouse$Disk", "isDown", "Z", false)
  | 1 => ("ShiftHouse$Disk", "hasNote", "Z", false)
  | 2 => ("ShiftHouse$Disk", "crashAt", "I", false)
  | 3 => ("ShiftHouse$Disk", "done", "I", false)
  | _ => ("ShiftHouse$Disk", "doneInCall", "I", false)
def tyX0 : Nat → FieldType := fun k => match k with
  | 0 => .boolean
  | 1 => .boolean
  | 2 => .int
  | 3 => .int
  | _ => .int
abbrev wsX00 : List Cond := u_ws RX0 TX0 5
theorem nmX0 : ∀ a, a < 5 → ∀ b, b < 5 → a ≠ b → (TX0 a).2.1 ≠ (TX0 b).2.1 := by decide +kernel
theorem tyX0_ok : ∀ k, k < 5 → parseFieldDescriptor (TX0 k).2.2.1 = some (tyX0 k) := by decide +kernel
abbrev cX0_init : ByteArray := prog_2_method_1_code
def yX0_init : MethodName := ⟨RX0, "<init>", "()V"⟩
abbrev cX0_startCall : ByteArray := prog_2_method_2_code
def yX0_startCall : MethodName := ⟨RX0, "startCall", "()V"⟩
abbrev cX0_act : ByteArray := prog_2_method_3_code
def yX0_act : MethodName := ⟨RX0, "act", "()Z"⟩
abbrev cX0_actTimes : ByteArray := prog_2_method_4_code
def yX0_actTimes : MethodName := ⟨RX0, "actTimes", "(I)Z"⟩
abbrev cX0_carryOutNote : ByteArray := prog_2_method_5_code
def yX0_carryOutNote : MethodName := ⟨RX0, "carryOutNote", "()Z"⟩
def RX1 : String := "ShiftHouse$Draft"
def TX1 : u_T := fun k => match k with
  | 0 => ("ShiftHouse$Draft", "told", "[J", true)
  | _ => ("ShiftHouse$Draft", "letters", "LShiftHouse$Form;", true)
def tyX1 : Nat → FieldType := fun k => match k with
  | 0 => .array .long
  | _ => .object "ShiftHouse$Form"
abbrev wsX10 : List Cond := u_ws RX1 TX1 2
theorem nmX1 : ∀ a, a < 2 → ∀ b, b < 2 → a ≠ b → (TX1 a).2.1 ≠ (TX1 b).2.1 := by decide +kernel
theorem tyX1_ok : ∀ k, k < 2 → parseFieldDescriptor (TX1 k).2.2.1 = some (tyX1 k) := by decide +kernel
abbrev cX1_init : ByteArray := prog_3_method_1_code
def yX1_init : MethodName := ⟨RX1, "<init>", "()V"⟩
abbrev cX1_setCell : ByteArray := prog_3_method_2_code
def yX1_setCell : MethodName := ⟨RX1, "setCell", "(IJ)V"⟩
abbrev cX1_addLetters : ByteArray := prog_3_method_3_code
def yX1_addLetters : MethodName := ⟨RX1, "addLetters", "(IJ)Z"⟩
abbrev cX1_letterCount : ByteArray := prog_3_method_4_code
def yX1_letterCount : MethodName := ⟨RX1, "letterCount", "(I)I"⟩
abbrev cX1_putInto : ByteArray := prog_3_method_5_code
def yX1_putInto : MethodName := ⟨RX1, "putInto", "(LShiftHouse$Form;LShiftHouse$Schema;)V"⟩
def RX2 : String := "ShiftHouse$Form"
def TX2 : u_T := fun k => match k with
  | _ => ("ShiftHouse$Form", "words", "[J", true)
def tyX2 : Nat → FieldType := fun k => match k with
  | _ => .array .long
abbrev wsX20 : List Cond := u_ws RX2 TX2 1
theorem nmX2 : ∀ a, a < 1 → ∀ b, b < 1 → a ≠ b → (TX2 a).2.1 ≠ (TX2 b).2.1 := by decide +kernel
theorem tyX2_ok : ∀ k, k < 1 → parseFieldDescriptor (TX2 k).2.2.1 = some (tyX2 k) := by decide +kernel
abbrev cX2_init : ByteArray := prog_4_method_1_code
def yX2_init : MethodName := ⟨RX2, "<init>", "()V"⟩
abbrev cX2_copyFrom : ByteArray := prog_4_method_2_code
def yX2_copyFrom : MethodName := ⟨RX2, "copyFrom", "(LShiftHouse$Form;)V"⟩
abbrev cX2_copyValue : ByteArray := prog_4_method_3_code
def yX2_copyValue : MethodName := ⟨RX2, "copyValue", "(ILShiftHouse$Form;I)V"⟩
abbrev cX2_clearAll : ByteArray := prog_4_method_4_code
def yX2_clearAll : MethodName := ⟨RX2, "clearAll", "()V"⟩
abbrev cX2_takeValueOut : ByteArray := prog_4_method_5_code
def yX2_takeValueOut : MethodName := ⟨RX2, "takeValueOut", "(I)V"⟩
abbrev cX2_numberAt : ByteArray := prog_4_method_6_code
def yX2_numberAt : MethodName := ⟨RX2, "numberAt", "(I)J"⟩
abbrev cX2_setNumber : ByteArray := prog_4_method_7_code
def yX2_setNumber : MethodName := ⟨RX2, "setNumber", "(IJ)V"⟩
abbrev cX2_letterAt : ByteArray := prog_4_method_8_code
def yX2_letterAt : MethodName := ⟨RX2, "letterAt", "(II)I"⟩
abbrev cX2_appendLetter : ByteArray := prog_4_method_9_code
def yX2_appendLetter : MethodName := ⟨RX2, "appendLetter", "(II)V"⟩
abbrev cX2_appendLetters : ByteArray := prog_4_method_10_code
def yX2_appendLetters : MethodName := ⟨RX2, "appendLetters", "(IJ)V"⟩
abbrev cX2_setTold : ByteArray := prog_4_method_11_code
def yX2_setTold : MethodName := ⟨RX2, "setTold", "(IIJ)V"⟩
abbrev cX2_become : ByteArray := prog_4_method_12_code
def yX2_become : MethodName := ⟨RX2, "become", "(III)V"⟩
abbrev cX2_numberTold : ByteArray := prog_4_method_13_code
def yX2_numberTold : MethodName := ⟨RX2, "numberTold", "(I)J"⟩
abbrev cX2_setDigits : ByteArray := prog_4_method_14_code
def yX2_setDigits : MethodName := ⟨RX2, "setDigits", "(IJ)V"⟩
def RX3 : String := "ShiftHouse$Migration"
def TX3 : u_T := fun k => match k with
  | 0 => ("ShiftHouse$Migration", "steps", "[LShiftHouse$Step;", true)
  | 1 => ("ShiftHouse$Migration", "size", "I", false)
  | _ => ("ShiftHouse$Migration", "places", "[I", true)
def tyX3 : Nat → FieldType := fun k => match k with
  | 0 => .array (.object "ShiftHouse$Step")
  | 1 => .int
  | _ => .array .int
abbrev wsX30 : List Cond := u_ws RX3 TX3 3
theorem nmX3 : ∀ a, a < 3 → ∀ b, b < 3 → a ≠ b → (TX3 a).2.1 ≠ (TX3 b).2.1 := by decide +kernel
theorem tyX3_ok : ∀ k, k < 3 → parseFieldDescriptor (TX3 k).2.2.1 = some (tyX3 k) := by decide +kernel
abbrev cX3_init : ByteArray := prog_5_method_1_code
def yX3_init : MethodName := ⟨RX3, "<init>", "()V"⟩
abbrev cX3_append : ByteArray := prog_5_method_2_code
def yX3_append : MethodName := ⟨RX3, "append", "(IIIJ)V"⟩
abbrev cX3_firstWrongStep : ByteArray := prog_5_method_3_code
def yX3_firstWrongStep : MethodName := ⟨RX3, "firstWrongStep", "(LShiftHouse$Schema;LShiftHouse$Schema;)I"⟩
abbrev cX3_makeUp : ByteArray := prog_5_method_4_code
def yX3_makeUp : MethodName := ⟨RX3, "makeUp", "(LShiftHouse$Form;LShiftHouse$Form;)V"⟩
abbrev cX3_makeDown : ByteArray := prog_5_method_5_code
def yX3_makeDown : MethodName := ⟨RX3, "makeDown", "(LShiftHouse$Form;LShiftHouse$Form;I)V"⟩
abbrev cX3_lastPlace : ByteArray := prog_5_method_6_code
def yX3_lastPlace : MethodName := ⟨RX3, "lastPlace", "(I)I"⟩
abbrev cX3_makeBack : ByteArray := prog_5_method_7_code
def yX3_makeBack : MethodName := ⟨RX3, "makeBack", "(LShiftHouse$Form;I)V"⟩
def RX4 : String := "ShiftHouse$Row"
def TX4 : u_T := fun k => match k with
  | 0 => ("ShiftHouse$Row", "key", "I", false)
  | 1 => ("ShiftHouse$Row", "lag", "I", false)
  | 2 => ("ShiftHouse$Row", "wasBehind", "Z", false)
  | 3 => ("ShiftHouse$Row", "prior", "LShiftHouse$Form;", false)
  | _ => ("ShiftHouse$Row", "fresh", "LShiftHouse$Form;", false)
def tyX4 : Nat → FieldType := fun k => match k with
  | 0 => .int
  | 1 => .int
  | 2 => .boolean
  | 3 => .object "ShiftHouse$Form"
  | _ => .object "ShiftHouse$Form"
abbrev wsX40 : List Cond := u_ws RX4 TX4 5
theorem nmX4 : ∀ a, a < 5 → ∀ b, b < 5 → a ≠ b → (TX4 a).2.1 ≠ (TX4 b).2.1 := by decide +kernel
theorem tyX4_ok : ∀ k, k < 5 → parseFieldDescriptor (TX4 k).2.2.1 = some (tyX4 k) := by decide +kernel
abbrev cX4_init : ByteArray := prog_6_method_1_code
def yX4_init : MethodName := ⟨RX4, "<init>", "()V"⟩
abbrev cX4_startUnder : ByteArray := prog_6_method_2_code
def yX4_startUnder : MethodName := ⟨RX4, "startUnder", "(I)V"⟩
abbrev cX4_diskPlaces : ByteArray := prog_6_method_3_code
def yX4_diskPlaces : MethodName := ⟨RX4, "diskPlaces", "()I"⟩
abbrev cX4_markWritten : ByteArray := prog_6_method_4_code
def yX4_markWritten : MethodName := ⟨RX4, "markWritten", "()V"⟩
abbrev cX4_markBegun : ByteArray := prog_6_method_5_code
def yX4_markBegun : MethodName := ⟨RX4, "markBegun", "()V"⟩
abbrev cX4_keepFresh : ByteArray := prog_6_method_6_code
def yX4_keepFresh : MethodName := ⟨RX4, "keepFresh", "()V"⟩
abbrev cX4_keepPrior : ByteArray := prog_6_method_7_code
def yX4_keepPrior : MethodName := ⟨RX4, "keepPrior", "()V"⟩
def RX5 : String := "ShiftHouse$Schema"
def TX5 : u_T := fun k => match k with
  | 0 => ("ShiftHouse$Schema", "names", "[I", true)
  | 1 => ("ShiftHouse$Schema", "types", "[I", true)
  | _ => ("ShiftHouse$Schema", "size", "I", false)
def tyX5 : Nat → FieldType := fun k => match k with
  | 0 => .array .int
  | 1 => .array .int
  | _ => .int
abbrev wsX50 : List Cond := u_ws RX5 TX5 3
theorem nmX5 : ∀ a, a < 3 → ∀ b, b < 3 → a ≠ b → (TX5 a).2.1 ≠ (TX5 b).2.1 := by decide +kernel
theorem tyX5_ok : ∀ k, k < 3 → parseFieldDescriptor (TX5 k).2.2.1 = some (tyX5 k) := by decide +kernel
abbrev cX5_init : ByteArray := prog_7_method_1_code
def yX5_init : MethodName := ⟨RX5, "<init>", "()V"⟩
abbrev cX5_copyFrom : ByteArray := prog_7_method_2_code
def yX5_copyFrom : MethodName := ⟨RX5, "copyFrom", "(LShiftHouse$Schema;)V"⟩
abbrev cX5_change : ByteArray := prog_7_method_3_code
def yX5_change : MethodName := ⟨RX5, "change", "(LShiftHouse$Step;)Z"⟩
abbrev cX5_placeOf : ByteArray := prog_7_method_4_code
def yX5_placeOf : MethodName := ⟨RX5, "placeOf", "(I)I"⟩
abbrev cX5_addColumn : ByteArray := prog_7_method_5_code
def yX5_addColumn : MethodName := ⟨RX5, "addColumn", "(LShiftHouse$Step;)Z"⟩
abbrev cX5_dropColumn : ByteArray := prog_7_method_6_code
def yX5_dropColumn : MethodName := ⟨RX5, "dropColumn", "(I)V"⟩
abbrev cX5_renameColumn : ByteArray := prog_7_method_7_code
def yX5_renameColumn : MethodName := ⟨RX5, "renameColumn", "(II)Z"⟩
abbrev cX5_retypeColumn : ByteArray := prog_7_method_8_code
def yX5_retypeColumn : MethodName := ⟨RX5, "retypeColumn", "(II)Z"⟩
def RX6 : String := "ShiftHouse$Step"
def TX6 : u_T := fun k => match k with
  | 0 => ("ShiftHouse$Step", "what", "I", false)
  | 1 => ("ShiftHouse$Step", "name", "I", false)
  | 2 => ("ShiftHouse$Step", "other", "I", false)
  | 3 => ("ShiftHouse$Step", "told", "J", false)
  | 4 => ("ShiftHouse$Step", "place", "I", false)
  | _ => ("ShiftHouse$Step", "from", "I", false)
def tyX6 : Nat → FieldType := fun k => match k with
  | 0 => .int
  | 1 => .int
  | 2 => .int
  | 3 => .long
  | 4 => .int
  | _ => .int
abbrev wsX60 : List Cond := u_ws RX6 TX6 6
theorem nmX6 : ∀ a, a < 6 → ∀ b, b < 6 → a ≠ b → (TX6 a).2.1 ≠ (TX6 b).2.1 := by decide +kernel
theorem tyX6_ok : ∀ k, k < 6 → parseFieldDescriptor (TX6 k).2.2.1 = some (tyX6 k) := by decide +kernel
abbrev cX6_init : ByteArray := prog_8_method_1_code
def yX6_init : MethodName := ⟨RX6, "<init>", "()V"⟩
abbrev cX6_changeForm : ByteArray := prog_8_method_2_code
def yX6_changeForm : MethodName := ⟨RX6, "changeForm", "(LShiftHouse$Form;)V"⟩
abbrev cX6_placeBehind : ByteArray := prog_8_method_3_code
def yX6_placeBehind : MethodName := ⟨RX6, "placeBehind", "(I)I"⟩
def RX7 : String := "ShiftHouse$Table"
def TX7 : u_T := fun k => match k with
  | 0 => ("ShiftHouse$Table", "rows", "[LShiftHouse$Row;", true)
  | _ => ("ShiftHouse$Table", "size", "I", false)
def tyX7 : Nat → FieldType := fun k => match k with
  | 0 => .array (.object "ShiftHouse$Row")
  | _ => .int
abbrev wsX70 : List Cond := u_ws RX7 TX7 2
theorem nmX7 : ∀ a, a < 2 → ∀ b, b < 2 → a ≠ b → (TX7 a).2.1 ≠ (TX7 b).2.1 := by decide +kernel
theorem tyX7_ok : ∀ k, k < 2 → parseFieldDescriptor (TX7 k).2.2.1 = some (tyX7 k) := by decide +kernel
abbrev cX7_init : ByteArray := prog_9_method_1_code
def yX7_init : MethodName := ⟨RX7, "<init>", "()V"⟩
abbrev cX7_placeAbove : ByteArray := prog_9_method_2_code
def yX7_placeAbove : MethodName := ⟨RX7, "placeAbove", "(IZ)I"⟩
abbrev cX7_placeUnder : ByteArray := prog_9_method_3_code
def yX7_placeUnder : MethodName := ⟨RX7, "placeUnder", "(I)I"⟩
abbrev cX7_insert : ByteArray := prog_9_method_4_code
def yX7_insert : MethodName := ⟨RX7, "insert", "(I)LShiftHouse$Row;"⟩
abbrev cX7_takeOut : ByteArray := prog_9_method_5_code
def yX7_takeOut : MethodName := ⟨RX7, "takeOut", "(I)V"⟩
abbrev cX7_countLagging : ByteArray := prog_9_method_6_code
def yX7_countLagging : MethodName := ⟨RX7, "countLagging", "()I"⟩
abbrev cX7_countShadowed : ByteArray := prog_9_method_7_code
def yX7_countShadowed : MethodName := ⟨RX7, "countShadowed", "()I"⟩
def RX8 : String := "ShiftHouse"
def TX8 : u_T := fun k => match k with
  | 0 => ("ShiftHouse", "disk", "LShiftHouse$Disk;", true)
  | 1 => ("ShiftHouse", "table", "LShiftHouse$Table;", true)
  | 2 => ("ShiftHouse", "drafted", "LShiftHouse$Draft;", true)
  | 3 => ("ShiftHouse", "seenForm", "LShiftHouse$Form;", true)
  | 4 => ("ShiftHouse", "seenSchema", "LShiftHouse$Schema;", true)
  | 5 => ("ShiftHouse", "isSeen", "Z", false)
  | 6 => ("ShiftHouse", "schema", "LShiftHouse$Schema;", false)
  | 7 => ("ShiftHouse", "nextSchema", "LShiftHouse$Schema;", false)
  | 8 => ("ShiftHouse", "planned", "LShiftHouse$Migration;", false)
  | 9 => ("ShiftHouse", "migration", "LShiftHouse$Migration;", false)
  | 10 => ("ShiftHouse", "isRunning", "Z", false)
  | _ => ("ShiftHouse", "version", "I", false)
def tyX8 : Nat → FieldType := fun k => match k with
  | 0 => .object "ShiftHouse$Disk"
  | 1 => .object "ShiftHouse$Table"
  | 2 => .object "ShiftHouse$Draft"
  | 3 => .object "ShiftHouse$Form"
  | 4 => .object "ShiftHouse$Schema"
  | 5 => .boolean
  | 6 => .object "ShiftHouse$Schema"
  | 7 => .object "ShiftHouse$Schema"
  | 8 => .object "ShiftHouse$Migration"
  | 9 => .object "ShiftHouse$Migration"
  | 10 => .boolean
  | _ => .int
abbrev wsX80 : List Cond := u_ws RX8 TX8 12
theorem nmX8 : ∀ a, a < 12 → ∀ b, b < 12 → a ≠ b → (TX8 a).2.1 ≠ (TX8 b).2.1 := by decide +kernel
theorem tyX8_ok : ∀ k, k < 12 → parseFieldDescriptor (TX8 k).2.2.1 = some (tyX8 k) := by decide +kernel
abbrev cX8_init : ByteArray := prog_1_method_1_code
def yX8_init : MethodName := ⟨RX8, "<init>", "()V"⟩
abbrev cX8_plan : ByteArray := prog_1_method_2_code
def yX8_plan : MethodName := ⟨RX8, "plan", "(IIIII)I"⟩
abbrev cX8_scrap : ByteArray := prog_1_method_3_code
def yX8_scrap : MethodName := ⟨RX8, "scrap", "()I"⟩
abbrev cX8_draft : ByteArray := prog_1_method_4_code
def yX8_draft : MethodName := ⟨RX8, "draft", "(III)I"⟩
abbrev cX8_letters : ByteArray := prog_1_method_5_code
def yX8_letters : MethodName := ⟨RX8, "letters", "(III)I"⟩
abbrev cX8_write : ByteArray := prog_1_method_6_code
def yX8_write : MethodName := ⟨RX8, "write", "(IZ)I"⟩
abbrev cX8_remove : ByteArray := prog_1_method_7_code
def yX8_remove : MethodName := ⟨RX8, "remove", "(I)I"⟩
abbrev cX8_read : ByteArray := prog_1_method_8_code
def yX8_read : MethodName := ⟨RX8, "read", "(IZ)I"⟩
abbrev cX8_seen : ByteArray := prog_1_method_9_code
def yX8_seen : MethodName := ⟨RX8, "seen", "()I"⟩
abbrev cX8_value : ByteArray := prog_1_method_10_code
def yX8_value : MethodName := ⟨RX8, "value", "(I)J"⟩
abbrev cX8_letter : ByteArray := prog_1_method_11_code
def yX8_letter : MethodName := ⟨RX8, "letter", "(II)I"⟩
abbrev cX8_next : ByteArray := prog_1_method_12_code
def yX8_next : MethodName := ⟨RX8, "next", "(IZ)I"⟩
abbrev cX8_more : ByteArray := prog_1_method_13_code
def yX8_more : MethodName := ⟨RX8, "more", "(IZ)I"⟩
abbrev cX8_begin : ByteArray := prog_1_method_14_code
def yX8_begin : MethodName := ⟨RX8, "begin", "()I"⟩
abbrev cX8_finish : ByteArray := prog_1_method_15_code
def yX8_finish : MethodName := ⟨RX8, "finish", "()I"⟩
abbrev cX8_rollback : ByteArray := prog_1_method_16_code
def yX8_rollback : MethodName := ⟨RX8, "rollback", "()I"⟩
abbrev cX8_backfill : ByteArray := prog_1_method_17_code
def yX8_backfill : MethodName := ⟨RX8, "backfill", "()I"⟩
abbrev cX8_crash : ByteArray := prog_1_method_18_code
def yX8_crash : MethodName := ⟨RX8, "crash", "(I)I"⟩
abbrev cX8_restart : ByteArray := prog_1_method_19_code
def yX8_restart : MethodName := ⟨RX8, "restart", "()I"⟩
abbrev cX8_isDown : ByteArray := prog_1_method_20_code
def yX8_isDown : MethodName := ⟨RX8, "isDown", "()Z"⟩
abbrev cX8_count : ByteArray := prog_1_method_21_code
def yX8_count : MethodName := ⟨RX8, "count", "(I)I"⟩
abbrev cX8_column : ByteArray := prog_1_method_22_code
def yX8_column : MethodName := ⟨RX8, "column", "(IZ)I"⟩
abbrev cX8_isName : ByteArray := prog_1_method_23_code
def yX8_isName : MethodName := ⟨RX8, "isName", "(I)Z"⟩
abbrev cX8_isType : ByteArray := prog_1_method_24_code
def yX8_isType : MethodName := ⟨RX8, "isType", "(I)Z"⟩
abbrev cX8_isCell : ByteArray := prog_1_method_25_code
def yX8_isCell : MethodName := ⟨RX8, "isCell", "(I)Z"⟩
abbrev cX8_joined : ByteArray := prog_1_method_26_code
def yX8_joined : MethodName := ⟨RX8, "joined", "(II)J"⟩
abbrev cX8_isSeenColumn : ByteArray := prog_1_method_27_code
def yX8_isSeenColumn : MethodName := ⟨RX8, "isSeenColumn", "(I)Z"⟩
abbrev cX8_putDraft : ByteArray := prog_1_method_28_code
def yX8_putDraft : MethodName := ⟨RX8, "putDraft", "(IZ)V"⟩
abbrev cX8_runPlan : ByteArray := prog_1_method_29_code
def yX8_runPlan : MethodName := ⟨RX8, "runPlan", "()V"⟩
abbrev cX8_endRunning : ByteArray := prog_1_method_30_code
def yX8_endRunning : MethodName := ⟨RX8, "endRunning", "()I"⟩
abbrev cX8_countWhenUp : ByteArray := prog_1_method_31_code
def yX8_countWhenUp : MethodName := ⟨RX8, "countWhenUp", "(I)I"⟩
def RX9 : String := "ShiftHouseModel"
def TX9 : u_T := fun k => match k with
  | 0 => ("ShiftHouseModel", "numbers", "[J", true)
  | 1 => ("ShiftHouseModel", "lengths", "[I", true)
  | 2 => ("ShiftHouseModel", "chars", "[I", true)
  | 3 => ("ShiftHouseModel", "digits", "[I", true)
  | 4 => ("ShiftHouseModel", "keys", "[I", true)
  | 5 => ("ShiftHouseModel", "slots", "[I", true)
  | 6 => ("ShiftHouseModel", "rows", "I", false)
  | 7 => ("ShiftHouseModel", "sorts", "[I", true)
  | 8 => ("ShiftHouseModel", "lags", "[Z", true)
  | 9 => ("ShiftHouseModel", "wasBehind", "[Z", true)
  | 10 => ("ShiftHouseModel", "isUsed", "[Z", true)
  | 11 => ("ShiftHouseModel", "names", "[I", true)
  | 12 => ("ShiftHouseModel", "types", "[I", true)
  | 13 => ("ShiftHouseModel", "columns", "[I", true)
  | 14 => ("ShiftHouseModel", "version", "I", false)
  | 15 => ("ShiftHouseModel", "running", "Z", false)
  | 16 => ("ShiftHouseModel", "whats", "[I", true)
  | 17 => ("ShiftHouseModel", "stepNames", "[I", true)
  | 18 => ("ShiftHouseModel", "others", "[I", true)
  | 19 => ("ShiftHouseModel", "as", "[I", true)
  | 20 => ("ShiftHouseModel", "bs", "[I", true)
  | 21 => ("ShiftHouseModel", "planned", "I", false)
  | 22 => ("ShiftHouseModel", "steps", "I", false)
  | 23 => ("ShiftHouseModel", "draftA", "[I", true)
  | 24 => ("ShiftHouseModel", "draftB", "[I", true)
  | 25 => ("ShiftHouseModel", "letterCount", "[I", true)
  | 26 => ("ShiftHouseModel", "letterRow", "[I", true)
  | 27 => ("ShiftHouseModel", "seenMany", "I", false)
  | 28 => ("ShiftHouseModel", "seenTypes", "[I", true)
  | 29 => ("ShiftHouseModel", "actions", "I", false)
  | 30 => ("ShiftHouseModel", "latest", "I", false)
  | 31 => ("ShiftHouseModel", "crashIn", "I", false)
  | 32 => ("ShiftHouseModel", "down", "Z", false)
  | 33 => ("ShiftHouseModel", "noted", "Z", false)
  | 34 => ("ShiftHouseModel", "origins", "[I", true)
  | 35 => ("ShiftHouseModel", "dropped", "[Z", true)
  | 36 => ("ShiftHouseModel", "pastTypes", "[I", true)
  | _ => ("ShiftHouseModel", "pasts", "[I", true)
def tyX9 : Nat → FieldType := fun k => match k with
  | 0 => .array .long
  | 1 => .array .int
  | 2 => .array .int
  | 3 => .array .int
  | 4 => .array .int
  | 5 => .array .int
  | 6 => .int
  | 7 => .array .int
  | 8 => .array .boolean
  | 9 => .array .boolean
  | 10 => .array .boolean
  | 11 => .array .int
  | 12 => .array .int
  | 13 => .array .int
  | 14 => .int
  | 15 => .boolean
  | 16 => .array .int
  | 17 => .array .int
  | 18 => .array .int
  | 19 => .array .int
  | 20 => .array .int
  | 21 => .int
  | 22 => .int
  | 23 => .array .int
  | 24 => .array .int
  | 25 => .array .int
  | 26 => .array .int
  | 27 => .int
  | 28 => .array .int
  | 29 => .int
  | 30 => .int
  | 31 => .int
  | 32 => .boolean
  | 33 => .boolean
  | 34 => .array .int
  | 35 => .array .boolean
  | 36 => .array .int
  | _ => .array .int
abbrev wsX90 : List Cond := u_ws RX9 TX9 38
theorem nmX9 : ∀ a, a < 38 → ∀ b, b < 38 → a ≠ b → (TX9 a).2.1 ≠ (TX9 b).2.1 := by decide +kernel
theorem tyX9_ok : ∀ k, k < 38 → parseFieldDescriptor (TX9 k).2.2.1 = some (tyX9 k) := by decide +kernel
abbrev cX9_init : ByteArray := prog_11_method_1_code
def yX9_init : MethodName := ⟨RX9, "<init>", "()V"⟩
abbrev cX9_isIn : ByteArray := prog_11_method_2_code
def yX9_isIn : MethodName := ⟨RX9, "isIn", "(III)Z"⟩
abbrev cX9_clear : ByteArray := prog_11_method_3_code
def yX9_clear : MethodName := ⟨RX9, "clear", "(I)V"⟩
abbrev cX9_copy : ByteArray := prog_11_method_4_code
def yX9_copy : MethodName := ⟨RX9, "copy", "(II)V"⟩
abbrev cX9_copyForm : ByteArray := prog_11_method_5_code
def yX9_copyForm : MethodName := ⟨RX9, "copyForm", "(II)V"⟩
abbrev cX9_tell : ByteArray := prog_11_method_6_code
def yX9_tell : MethodName := ⟨RX9, "tell", "(IIII)V"⟩
abbrev cX9_addChar : ByteArray := prog_11_method_7_code
def yX9_addChar : MethodName := ⟨RX9, "addChar", "(II)V"⟩
abbrev cX9_told : ByteArray := prog_11_method_8_code
def yX9_told : MethodName := ⟨RX9, "told", "(I)J"⟩
abbrev cX9_putDigits : ByteArray := prog_11_method_9_code
def yX9_putDigits : MethodName := ⟨RX9, "putDigits", "(IJ)V"⟩
abbrev cX9_nearest : ByteArray := prog_11_method_10_code
def yX9_nearest : MethodName := ⟨RX9, "nearest", "(JJJ)J"⟩
abbrev cX9_become : ByteArray := prog_11_method_11_code
def yX9_become : MethodName := ⟨RX9, "become", "(III)V"⟩
abbrev cX9_canBecome : ByteArray := prog_11_method_12_code
def yX9_canBecome : MethodName := ⟨RX9, "canBecome", "(II)Z"⟩
abbrev cX9_copySchema : ByteArray := prog_11_method_13_code
def yX9_copySchema : MethodName := ⟨RX9, "copySchema", "(II)V"⟩
abbrev cX9_place : ByteArray := prog_11_method_14_code
def yX9_place : MethodName := ⟨RX9, "place", "(I)I"⟩
abbrev cX9_isWrong : ByteArray := prog_11_method_15_code
def yX9_isWrong : MethodName := ⟨RX9, "isWrong", "(I)Z"⟩
abbrev cX9_step : ByteArray := prog_11_method_16_code
def yX9_step : MethodName := ⟨RX9, "step", "(I)V"⟩
abbrev cX9_up : ByteArray := prog_11_method_17_code
def yX9_up : MethodName := ⟨RX9, "up", "(II)V"⟩
abbrev cX9_follow : ByteArray := prog_11_method_18_code
def yX9_follow : MethodName := ⟨RX9, "follow", "()V"⟩
abbrev cX9_down : ByteArray := prog_11_method_19_code
def yX9_down : MethodName := ⟨RX9, "down", "(III)V"⟩
abbrev cX9_act : ByteArray := prog_11_method_20_code
def yX9_act : MethodName := ⟨RX9, "act", "()Z"⟩
abbrev cX9_acts : ByteArray := prog_11_method_21_code
def yX9_acts : MethodName := ⟨RX9, "acts", "(I)I"⟩
abbrev cX9_plan : ByteArray := prog_11_method_22_code
def yX9_plan : MethodName := ⟨RX9, "plan", "(IIIII)I"⟩
abbrev cX9_scrap : ByteArray := prog_11_method_23_code
def yX9_scrap : MethodName := ⟨RX9, "scrap", "()I"⟩
abbrev cX9_draft : ByteArray := prog_11_method_24_code
def yX9_draft : MethodName := ⟨RX9, "draft", "(III)I"⟩
abbrev cX9_letters : ByteArray := prog_11_method_25_code
def yX9_letters : MethodName := ⟨RX9, "letters", "(III)I"⟩
abbrev cX9_drafted : ByteArray := prog_11_method_26_code
def yX9_drafted : MethodName := ⟨RX9, "drafted", "(II)V"⟩
abbrev cX9_find : ByteArray := prog_11_method_27_code
def yX9_find : MethodName := ⟨RX9, "find", "(I)I"⟩
abbrev cX9_form : ByteArray := prog_11_method_28_code
def yX9_form : MethodName := ⟨RX9, "form", "(II)I"⟩
abbrev cX9_moveRow : ByteArray := prog_11_method_29_code
def yX9_moveRow : MethodName := ⟨RX9, "moveRow", "(II)V"⟩
abbrev cX9_insert : ByteArray := prog_11_method_30_code
def yX9_insert : MethodName := ⟨RX9, "insert", "(I)I"⟩
abbrev cX9_drop : ByteArray := prog_11_method_31_code
def yX9_drop : MethodName := ⟨RX9, "drop", "(I)V"⟩
abbrev cX9_write : ByteArray := prog_11_method_32_code
def yX9_write : MethodName := ⟨RX9, "write", "(IZ)I"⟩
abbrev cX9_remove : ByteArray := prog_11_method_33_code
def yX9_remove : MethodName := ⟨RX9, "remove", "(I)I"⟩
abbrev cX9_read : ByteArray := prog_11_method_34_code
def yX9_read : MethodName := ⟨RX9, "read", "(IZ)I"⟩
abbrev cX9_seen : ByteArray := prog_11_method_35_code
def yX9_seen : MethodName := ⟨RX9, "seen", "()I"⟩
abbrev cX9_value : ByteArray := prog_11_method_36_code
def yX9_value : MethodName := ⟨RX9, "value", "(I)J"⟩
abbrev cX9_letter : ByteArray := prog_11_method_37_code
def yX9_letter : MethodName := ⟨RX9, "letter", "(II)I"⟩
abbrev cX9_next : ByteArray := prog_11_method_38_code
def yX9_next : MethodName := ⟨RX9, "next", "(IZ)I"⟩
abbrev cX9_more : ByteArray := prog_11_method_39_code
def yX9_more : MethodName := ⟨RX9, "more", "(IZ)I"⟩
abbrev cX9_shadowed : ByteArray := prog_11_method_40_code
def yX9_shadowed : MethodName := ⟨RX9, "shadowed", "()I"⟩
abbrev cX9_isLagging : ByteArray := prog_11_method_41_code
def yX9_isLagging : MethodName := ⟨RX9, "isLagging", "(I)Z"⟩
abbrev cX9_begin : ByteArray := prog_11_method_42_code
def yX9_begin : MethodName := ⟨RX9, "begin", "()I"⟩
abbrev cX9_finish : ByteArray := prog_11_method_43_code
def yX9_finish : MethodName := ⟨RX9, "finish", "()I"⟩
abbrev cX9_rollback : ByteArray := prog_11_method_44_code
def yX9_rollback : MethodName := ⟨RX9, "rollback", "()I"⟩
abbrev cX9_backfill : ByteArray := prog_11_method_45_code
def yX9_backfill : MethodName := ⟨RX9, "backfill", "()I"⟩
abbrev cX9_crash : ByteArray := prog_11_method_46_code
def yX9_crash : MethodName := ⟨RX9, "crash", "(I)I"⟩
abbrev cX9_restart : ByteArray := prog_11_method_47_code
def yX9_restart : MethodName := ⟨RX9, "restart", "()I"⟩
abbrev cX9_isDown : ByteArray := prog_11_method_48_code
def yX9_isDown : MethodName := ⟨RX9, "isDown", "()Z"⟩
abbrev cX9_lagging : ByteArray := prog_11_method_49_code
def yX9_lagging : MethodName := ⟨RX9, "lagging", "()I"⟩
abbrev cX9_count : ByteArray := prog_11_method_50_code
def yX9_count : MethodName := ⟨RX9, "count", "(I)I"⟩
abbrev cX9_column : ByteArray := prog_11_method_51_code
def yX9_column : MethodName := ⟨RX9, "column", "(IZ)I"⟩
def RL : String := "ShiftHouseLaw"
abbrev cL_law : ByteArray := code
def yL_law : MethodName := ⟨RL, "law", "([I)Z"⟩
abbrev vwCl : List vw_C := [(RX0, TX0, 5), (RX1, TX1, 2), (RX2, TX2, 1), (RX3, TX3, 3), (RX4, TX4, 5), (RX5, TX5, 3), (RX6, TX6, 6), (RX7, TX7, 2), (RX8, TX8, 12), (RX9, TX9, 38)]
