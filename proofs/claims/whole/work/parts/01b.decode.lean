theorem dX0_init_0 : decode cX0_init 0 = .ok (.aload_n 0, 1) := by decide +kernel
theorem dX0_init_1 : decode cX0_init 1 = .ok (.invokespecial 1, 3) := by decide +kernel
theorem dX0_init_4 : decode cX0_init 4 = .ok (.return_, 1) := by decide +kernel
theorem dX0_startCall_0 : decode cX0_startCall 0 = .ok (.aload_n 0, 1) := by decide +kernel
theorem dX0_startCall_1 : decode cX0_startCall 1 = .ok (.iconst 0, 1) := by decide +kernel
theorem dX0_startCall_2 : decode cX0_startCall 2 = .ok (.putfield 7, 3) := by decide +kernel
theorem dX0_startCall_5 : decode cX0_startCall 5 = .ok (.return_, 1) := by decide +kernel
theorem dX0_act_0 : decode cX0_act 0 = .ok (.aload_n 0, 1) := by decide +kernel
theorem dX0_act_1 : decode cX0_act 1 = .ok (.getfield 13, 3) := by decide +kernel
theorem dX0_act_4 : decode cX0_act 4 = .ok (.iconst 1, 1) := by decide +kernel
theorem dX0_act_5 : decode cX0_act 5 = .ok (.if_icmp .ne 15, 3) := by decide +kernel
theorem dX0_act_8 : decode cX0_act 8 = .ok (.aload_n 0, 1) := by decide +kernel
theorem dX0_act_9 : decode cX0_act 9 = .ok (.iconst 0, 1) := by decide +kernel
theorem dX0_act_10 : decode cX0_act 10 = .ok (.putfield 13, 3) := by decide +kernel
theorem dX0_act_13 : decode cX0_act 13 = .ok (.aload_n 0, 1) := by decide +kernel
theorem dX0_act_14 : decode cX0_act 14 = .ok (.iconst 1, 1) := by decide +kernel
theorem dX0_act_15 : decode cX0_act 15 = .ok (.putfield 16, 3) := by decide +kernel
theorem dX0_act_18 : decode cX0_act 18 = .ok (.iconst 0, 1) := by decide +kernel
theorem dX0_act_19 : decode cX0_act 19 = .ok (.ireturn, 1) := by decide +kernel
theorem dX0_act_20 : decode cX0_act 20 = .ok (.aload_n 0, 1) := by decide +kernel
theorem dX0_act_21 : decode cX0_act 21 = .ok (.getfield 13, 3) := by decide +kernel
theorem dX0_act_24 : decode cX0_act 24 = .ok (.ifCond .le 13, 3) := by decide +kernel
theorem dX0_act_27 : decode cX0_act 27 = .ok (.aload_n 0, 1) := by decide +kernel
theorem dX0_act_28 : decode cX0_act 28 = .ok (.dup, 1) := by decide +kernel
theorem dX0_act_29 : decode cX0_act 29 = .ok (.getfield 13, 3) := by decide +kernel
theorem dX0_act_32 : decode cX0_act 32 = .ok (.iconst 1, 1) := by decide +kernel
theorem dX0_act_33 : decode cX0_act 33 = .ok (.isub, 1) := by decide +kernel
theorem dX0_act_34 : decode cX0_act 34 = .ok (.putfield 13, 3) := by decide +kernel
theorem dX0_act_37 : decode cX0_act 37 = .ok (.aload_n 0, 1) := by decide +kernel
theorem dX0_act_38 : decode cX0_act 38 = .ok (.dup, 1) := by decide +kernel
theorem dX0_act_39 : decode cX0_act 39 = .ok (.getfield 20, 3) := by decide +kernel
theorem dX0_act_42 : decode cX0_act 42 = .ok (.iconst 1, 1) := by decide +kernel
theorem dX0_act_43 : decode cX0_act 43 = .ok (.iadd, 1) := by decide +kernel
theorem dX0_act_44 : decode cX0_act 44 = .ok (.putfield 20, 3) := by decide +kernel
theorem dX0_act_47 : decode cX0_act 47 = .ok (.aload_n 0, 1) := by decide +kernel
theorem dX0_act_48 : decode cX0_act 48 = .ok (.dup, 1) := by decide +kernel
theorem dX0_act_49 : decode cX0_act 49 = .ok (.getfield 7, 3) := by decide +kernel
theorem dX0_act_52 : decode cX0_act 52 = .ok (.iconst 1, 1) := by decide +kernel
theorem dX0_act_53 : decode cX0_act 53 = .ok (.iadd, 1) := by decide +kernel
theorem dX0_act_54 : decode cX0_act 54 = .ok (.putfield 7, 3) := by decide +kernel
theorem dX0_act_57 : decode cX0_act 57 = .ok (.iconst 1, 1) := by decide +kernel
theorem dX0_act_58 : decode cX0_act 58 = .ok (.ireturn, 1) := by decide +kernel
theorem dX0_actTimes_0 : decode cX0_actTimes 0 = .ok (.iconst 0, 1) := by decide +kernel
theorem dX0_actTimes_1 : decode cX0_actTimes 1 = .ok (.istore_n 2, 1) := by decide +kernel
theorem dX0_actTimes_2 : decode cX0_actTimes 2 = .ok (.iload_n 2, 1) := by decide +kernel
theorem dX0_actTimes_3 : decode cX0_actTimes 3 = .ok (.iload_n 1, 1) := by decide +kernel
theorem dX0_actTimes_4 : decode cX0_actTimes 4 = .ok (.if_icmp .ge 18, 3) := by decide +kernel
theorem dX0_actTimes_7 : decode cX0_actTimes 7 = .ok (.aload_n 0, 1) := by decide +kernel
theorem dX0_actTimes_8 : decode cX0_actTimes 8 = .ok (.invokevirtual 23, 3) := by decide +kernel
theorem dX0_actTimes_11 : decode cX0_actTimes 11 = .ok (.ifCond .ne 5, 3) := by decide +kernel
theorem dX0_actTimes_14 : decode cX0_actTimes 14 = .ok (.iconst 0, 1) := by decide +kernel
theorem dX0_actTimes_15 : decode cX0_actTimes 15 = .ok (.ireturn, 1) := by decide +kernel
theorem dX0_actTimes_16 : decode cX0_actTimes 16 = .ok (.iinc 2 1, 3) := by decide +kernel
theorem dX0_actTimes_19 : decode cX0_actTimes 19 = .ok (.goto (-17), 3) := by decide +kernel
theorem dX0_actTimes_22 : decode cX0_actTimes 22 = .ok (.iconst 1, 1) := by decide +kernel
theorem dX0_actTimes_23 : decode cX0_actTimes 23 = .ok (.ireturn, 1) := by decide +kernel
theorem dX0_carryOutNote_0 : decode cX0_carryOutNote 0 = .ok (.aload_n 0, 1) := by decide +kernel
theorem dX0_carryOutNote_1 : decode cX0_carryOutNote 1 = .ok (.iconst 1, 1) := by decide +kernel
theorem dX0_carryOutNote_2 : decode cX0_carryOutNote 2 = .ok (.putfield 27, 3) := by decide +kernel
theorem dX0_carryOutNote_5 : decode cX0_carryOutNote 5 = .ok (.aload_n 0, 1) := by decide +kernel
theorem dX0_carryOutNote_6 : decode cX0_carryOutNote 6 = .ok (.iconst 3, 1) := by decide +kernel
theorem dX0_carryOutNote_7 : decode cX0_carryOutNote 7 = .ok (.invokevirtual 30, 3) := by decide +kernel
theorem dX0_carryOutNote_10 : decode cX0_carryOutNote 10 = .ok (.ifCond .ne 5, 3) := by decide +kernel
theorem dX0_carryOutNote_13 : decode cX0_carryOutNote 13 = .ok (.iconst 0, 1) := by decide +kernel
theorem dX0_carryOutNote_14 : decode cX0_carryOutNote 14 = .ok (.ireturn, 1) := by decide +kernel
theorem dX0_carryOutNote_15 : decode cX0_carryOutNote 15 = .ok (.aload_n 0, 1) := by decide +kernel
theorem dX0_carryOutNote_16 : decode cX0_carryOutNote 16 = .ok (.iconst 0, 1) := by decide +kernel
theorem dX0_carryOutNote_17 : decode cX0_carryOutNote 17 = .ok (.putfield 27, 3) := by decide +kernel
theorem dX0_carryOutNote_20 : decode cX0_carryOutNote 20 = .ok (.iconst 1, 1) := by decide +kernel
theorem dX0_carryOutNote_21 : decode cX0_carryOutNote 21 = .ok (.ireturn, 1) := by decide +kernel
theorem dX1_init_0 : decode cX1_init 0 = .ok (.aload_n 0, 1) := by decide +kernel
theorem dX1_init_1 : decode cX1_init 1 = .ok (.invokespecial 3, 3) := by decide +kernel
theorem dX1_init_4 : decode cX1_init 4 = .ok (.aload_n 0, 1) := by decide +kernel
theorem dX1_init_5 : decode cX1_init 5 = .ok (.bipush 8, 2) := by decide +kernel
theorem dX1_init_7 : decode cX1_init 7 = .ok (.newarray .long, 2) := by decide +kernel
theorem dX1_init_9 : decode cX1_init 9 = .ok (.putfield 9, 3) := by decide +kernel
theorem dX1_init_12 : decode cX1_init 12 = .ok (.aload_n 0, 1) := by decide +kernel
theorem dX1_init_13 : decode cX1_init 13 = .ok (.new 15, 3) := by decide +kernel
theorem dX1_init_16 : decode cX1_init 16 = .ok (.dup, 1) := by decide +kernel
theorem dX1_init_17 : decode cX1_init 17 = .ok (.invokespecial 17, 3) := by decide +kernel
theorem dX1_init_20 : decode cX1_init 20 = .ok (.putfield 18, 3) := by decide +kernel
theorem dX1_init_23 : decode cX1_init 23 = .ok (.return_, 1) := by decide +kernel
theorem dX1_setCell_0 : decode cX1_setCell 0 = .ok (.aload_n 0, 1) := by decide +kernel
theorem dX1_setCell_1 : decode cX1_setCell 1 = .ok (.getfield 9, 3) := by decide +kernel
theorem dX1_setCell_4 : decode cX1_setCell 4 = .ok (.iload_n 1, 1) := by decide +kernel
theorem dX1_setCell_5 : decode cX1_setCell 5 = .ok (.lload_n 2, 1) := by decide +kernel
theorem dX1_setCell_6 : decode cX1_setCell 6 = .ok (.lastore, 1) := by decide +kernel
theorem dX1_setCell_7 : decode cX1_setCell 7 = .ok (.aload_n 0, 1) := by decide +kernel
theorem dX1_setCell_8 : decode cX1_setCell 8 = .ok (.getfield 18, 3) := by decide +kernel
theorem dX1_setCell_11 : decode cX1_setCell 11 = .ok (.iload_n 1, 1) := by decide +kernel
theorem dX1_setCell_12 : decode cX1_setCell 12 = .ok (.lconst 0, 1) := by decide +kernel
theorem dX1_setCell_13 : decode cX1_setCell 13 = .ok (.invokevirtual 22, 3) := by decide +kernel
theorem dX1_setCell_16 : decode cX1_setCell 16 = .ok (.return_, 1) := by decide +kernel
theorem dX1_addLetters_0 : decode cX1_addLetters 0 = .ok (.iconst 0, 1) := by decide +kernel
theorem dX1_addLetters_1 : decode cX1_addLetters 1 = .ok (.istore 4, 2) := by decide +kernel
theorem dX1_addLetters_3 : decode cX1_addLetters 3 = .ok (.iconst 0, 1) := by decide +kernel
theorem dX1_addLetters_4 : decode cX1_addLetters 4 = .ok (.istore 5, 2) := by decide +kernel
theorem dX1_addLetters_6 : decode cX1_addLetters 6 = .ok (.iload 5, 2) := by decide +kernel
theorem dX1_addLetters_8 : decode cX1_addLetters 8 = .ok (.bipush 64, 2) := by decide +kernel
theorem dX1_addLetters_10 : decode cX1_addLetters 10 = .ok (.if_icmp .ge 25, 3) := by decide +kernel
theorem dX1_addLetters_13 : decode cX1_addLetters 13 = .ok (.lload_n 2, 1) := by decide +kernel
theorem dX1_addLetters_14 : decode cX1_addLetters 14 = .ok (.iload 5, 2) := by decide +kernel
theorem dX1_addLetters_16 : decode cX1_addLetters 16 = .ok (.lushr, 1) := by decide +kernel
theorem dX1_addLetters_17 : decode cX1_addLetters 17 = .ok (.ldc2_w 26, 3) := by decide +kernel
theorem dX1_addLetters_20 : decode cX1_addLetters 20 = .ok (.land, 1) := by decide +kernel
theorem dX1_addLetters_21 : decode cX1_addLetters 21 = .ok (.lconst 0, 1) := by decide +kernel
theorem dX1_addLetters_22 : decode cX1_addLetters 22 = .ok (.lcmp, 1) := by decide +kernel
theorem dX1_addLetters_23 : decode cX1_addLetters 23 = .ok (.ifCond .eq 6, 3) := by decide +kernel
theorem dX1_addLetters_26 : decode cX1_addLetters 26 = .ok (.iinc 4 1, 3) := by decide +kernel
theorem dX1_addLetters_29 : decode cX1_addLetters 29 = .ok (.iinc 5 8, 3) := by decide +kernel
theorem dX1_addLetters_32 : decode cX1_addLetters 32 = .ok (.goto (-26), 3) := by decide +kernel
theorem dX1_addLetters_35 : decode cX1_addLetters 35 = .ok (.aload_n 0, 1) := by decide +kernel
theorem dX1_addLetters_36 : decode cX1_addLetters 36 = .ok (.iload_n 1, 1) := by decide +kernel
theorem dX1_addLetters_37 : decode cX1_addLetters 37 = .ok (.invokevirtual 28, 3) := by decide +kernel
theorem dX1_addLetters_40 : decode cX1_addLetters 40 = .ok (.iload 4, 2) := by decide +kernel
theorem dX1_addLetters_42 : decode cX1_addLetters 42 = .ok (.iadd, 1) := by decide +kernel
theorem dX1_addLetters_43 : decode cX1_addLetters 43 = .ok (.bipush 24, 2) := by decide +kernel
theorem dX1_addLetters_45 : decode cX1_addLetters 45 = .ok (.if_icmp .le 5, 3) := by decide +kernel
theorem dX1_addLetters_48 : decode cX1_addLetters 48 = .ok (.iconst 0, 1) := by decide +kernel
theorem dX1_addLetters_49 : decode cX1_addLetters 49 = .ok (.ireturn, 1) := by decide +kernel
theorem dX1_addLetters_50 : decode cX1_addLetters 50 = .ok (.aload_n 0, 1) := by decide +kernel
theorem dX1_addLetters_51 : decode cX1_addLetters 51 = .ok (.getfield 18, 3) := by decide +kernel
theorem dX1_addLetters_54 : decode cX1_addLetters 54 = .ok (.iload_n 1, 1) := by decide +kernel
theorem dX1_addLetters_55 : decode cX1_addLetters 55 = .ok (.lload_n 2, 1) := by decide +kernel
theorem dX1_addLetters_56 : decode cX1_addLetters 56 = .ok (.invokevirtual 32, 3) := by decide +kernel
theorem dX1_addLetters_59 : decode cX1_addLetters 59 = .ok (.iconst 1, 1) := by decide +kernel
theorem dX1_addLetters_60 : decode cX1_addLetters 60 = .ok (.ireturn, 1) := by decide +kernel
theorem dX1_letterCount_0 : decode cX1_letterCount 0 = .ok (.aload_n 0, 1) := by decide +kernel
theorem dX1_letterCount_1 : decode cX1_letterCount 1 = .ok (.getfield 18, 3) := by decide +kernel
theorem dX1_letterCount_4 : decode cX1_letterCount 4 = .ok (.iload_n 1, 1) := by decide +kernel
theorem dX1_letterCount_5 : decode cX1_letterCount 5 = .ok (.invokevirtual 35, 3) := by decide +kernel
theorem dX1_letterCount_8 : decode cX1_letterCount 8 = .ok (.l2i, 1) := by decide +kernel
theorem dX1_letterCount_9 : decode cX1_letterCount 9 = .ok (.ireturn, 1) := by decide +kernel
theorem dX1_putInto_0 : decode cX1_putInto 0 = .ok (.iconst 0, 1) := by decide +kernel
theorem dX1_putInto_1 : decode cX1_putInto 1 = .ok (.istore_n 3, 1) := by decide +kernel
theorem dX1_putInto_2 : decode cX1_putInto 2 = .ok (.iload_n 3, 1) := by decide +kernel
theorem dX1_putInto_3 : decode cX1_putInto 3 = .ok (.aload_n 2, 1) := by decide +kernel
theorem dX1_putInto_4 : decode cX1_putInto 4 = .ok (.getfield 39, 3) := by decide +kernel
theorem dX1_putInto_7 : decode cX1_putInto 7 = .ok (.if_icmp .ge 57, 3) := by decide +kernel
theorem dX1_putInto_10 : decode cX1_putInto 10 = .ok (.aload_n 2, 1) := by decide +kernel
theorem dX1_putInto_11 : decode cX1_putInto 11 = .ok (.getfield 45, 3) := by decide +kernel
theorem dX1_putInto_14 : decode cX1_putInto 14 = .ok (.iload_n 3, 1) := by decide +kernel
theorem dX1_putInto_15 : decode cX1_putInto 15 = .ok (.iaload, 1) := by decide +kernel
theorem dX1_putInto_16 : decode cX1_putInto 16 = .ok (.iconst 4, 1) := by decide +kernel
theorem dX1_putInto_17 : decode cX1_putInto 17 = .ok (.if_icmp .ne 24, 3) := by decide +kernel
theorem dX1_putInto_20 : decode cX1_putInto 20 = .ok (.aload_n 0, 1) := by decide +kernel
theorem dX1_putInto_21 : decode cX1_putInto 21 = .ok (.iload_n 3, 1) := by decide +kernel
theorem dX1_putInto_22 : decode cX1_putInto 22 = .ok (.invokevirtual 28, 3) := by decide +kernel
theorem dX1_putInto_25 : decode cX1_putInto 25 = .ok (.ifCond .le 16, 3) := by decide +kernel
theorem dX1_putInto_28 : decode cX1_putInto 28 = .ok (.aload_n 1, 1) := by decide +kernel
theorem dX1_putInto_29 : decode cX1_putInto 29 = .ok (.iload_n 3, 1) := by decide +kernel
theorem dX1_putInto_30 : decode cX1_putInto 30 = .ok (.aload_n 0, 1) := by decide +kernel
theorem dX1_putInto_31 : decode cX1_putInto 31 = .ok (.getfield 18, 3) := by decide +kernel
theorem dX1_putInto_34 : decode cX1_putInto 34 = .ok (.iload_n 3, 1) := by decide +kernel
theorem dX1_putInto_35 : decode cX1_putInto 35 = .ok (.invokevirtual 49, 3) := by decide +kernel
theorem dX1_putInto_38 : decode cX1_putInto 38 = .ok (.goto 20, 3) := by decide +kernel
theorem dX1_putInto_41 : decode cX1_putInto 41 = .ok (.aload_n 1, 1) := by decide +kernel
theorem dX1_putInto_42 : decode cX1_putInto 42 = .ok (.iload_n 3, 1) := by decide +kernel
theorem dX1_putInto_43 : decode cX1_putInto 43 = .ok (.aload_n 2, 1) := by decide +kernel
theorem dX1_putInto_44 : decode cX1_putInto 44 = .ok (.getfield 45, 3) := by decide +kernel
theorem dX1_putInto_47 : decode cX1_putInto 47 = .ok (.iload_n 3, 1) := by decide +kernel
theorem dX1_putInto_48 : decode cX1_putInto 48 = .ok (.iaload, 1) := by decide +kernel
theorem dX1_putInto_49 : decode cX1_putInto 49 = .ok (.aload_n 0, 1) := by decide +kernel
theorem dX1_putInto_50 : decode cX1_putInto 50 = .ok (.getfield 9, 3) := by decide +kernel
theorem dX1_putInto_53 : decode cX1_putInto 53 = .ok (.iload_n 3, 1) := by decide +kernel
theorem dX1_putInto_54 : decode cX1_putInto 54 = .ok (.laload, 1) := by decide +kernel
theorem dX1_putInto_55 : decode cX1_putInto 55 = .ok (.invokevirtual 53, 3) := by decide +kernel
theorem dX1_putInto_58 : decode cX1_putInto 58 = .ok (.iinc 3 1, 3) := by decide +kernel
theorem dX1_putInto_61 : decode cX1_putInto 61 = .ok (.goto (-59), 3) := by decide +kernel
theorem dX1_putInto_64 : decode cX1_putInto 64 = .ok (.return_, 1) := by decide +kernel
theorem dX2_init_0 : decode cX2_init 0 = .ok (.aload_n 0, 1) := by decide +kernel
theorem dX2_init_1 : decode cX2_init 1 = .ok (.invokespecial 3, 3) := by decide +kernel
theorem dX2_init_4 : decode cX2_init 4 = .ok (.aload_n 0, 1) := by decide +kernel
theorem dX2_init_5 : decode cX2_init 5 = .ok (.bipush 32, 2) := by decide +kernel
theorem dX2_init_7 : decode cX2_init 7 = .ok (.newarray .long, 2) := by decide +kernel
theorem dX2_init_9 : decode cX2_init 9 = .ok (.putfield 11, 3) := by decide +kernel
theorem dX2_init_12 : decode cX2_init 12 = .ok (.return_, 1) := by decide +kernel
theorem dX2_copyFrom_0 : decode cX2_copyFrom 0 = .ok (.aload_n 1, 1) := by decide +kernel
theorem dX2_copyFrom_1 : decode cX2_copyFrom 1 = .ok (.getfield 11, 3) := by decide +kernel
theorem dX2_copyFrom_4 : decode cX2_copyFrom 4 = .ok (.iconst 0, 1) := by decide +kernel
theorem dX2_copyFrom_5 : decode cX2_copyFrom 5 = .ok (.aload_n 0, 1) := by decide +kernel
theorem dX2_copyFrom_6 : decode cX2_copyFrom 6 = .ok (.getfield 11, 3) := by decide +kernel
theorem dX2_copyFrom_9 : decode cX2_copyFrom 9 = .ok (.iconst 0, 1) := by decide +kernel
theorem dX2_copyFrom_10 : decode cX2_copyFrom 10 = .ok (.aload_n 0, 1) := by decide +kernel
theorem dX2_copyFrom_11 : decode cX2_copyFrom 11 = .ok (.getfield 11, 3) := by decide +kernel
theorem dX2_copyFrom_14 : decode cX2_copyFrom 14 = .ok (.arraylength, 1) := by decide +kernel
theorem dX2_copyFrom_15 : decode cX2_copyFrom 15 = .ok (.invokestatic 15, 3) := by decide +kernel
theorem dX2_copyFrom_18 : decode cX2_copyFrom 18 = .ok (.return_, 1) := by decide +kernel
theorem dX2_copyValue_0 : decode cX2_copyValue 0 = .ok (.aload_n 2, 1) := by decide +kernel
theorem dX2_copyValue_1 : decode cX2_copyValue 1 = .ok (.getfield 11, 3) := by decide +kernel
theorem dX2_copyValue_4 : decode cX2_copyValue 4 = .ok (.iload_n 3, 1) := by decide +kernel
theorem dX2_copyValue_5 : decode cX2_copyValue 5 = .ok (.iconst 4, 1) := by decide +kernel
theorem dX2_copyValue_6 : decode cX2_copyValue 6 = .ok (.imul, 1) := by decide +kernel
theorem dX2_copyValue_7 : decode cX2_copyValue 7 = .ok (.aload_n 0, 1) := by decide +kernel
theorem dX2_copyValue_8 : decode cX2_copyValue 8 = .ok (.getfield 11, 3) := by decide +kernel
theorem dX2_copyValue_11 : decode cX2_copyValue 11 = .ok (.iload_n 1, 1) := by decide +kernel
theorem dX2_copyValue_12 : decode cX2_copyValue 12 = .ok (.iconst 4, 1) := by decide +kernel
theorem dX2_copyValue_13 : decode cX2_copyValue 13 = .ok (.imul, 1) := by decide +kernel
theorem dX2_copyValue_14 : decode cX2_copyValue 14 = .ok (.iconst 4, 1) := by decide +kernel
theorem dX2_copyValue_15 : decode cX2_copyValue 15 = .ok (.invokestatic 15, 3) := by decide +kernel
theorem dX2_copyValue_18 : decode cX2_copyValue 18 = .ok (.return_, 1) := by decide +kernel
theorem dX2_clearAll_0 : decode cX2_clearAll 0 = .ok (.iconst 0, 1) := by decide +kernel
theorem dX2_clearAll_1 : decode cX2_clearAll 1 = .ok (.istore_n 1, 1) := by decide +kernel
theorem dX2_clearAll_2 : decode cX2_clearAll 2 = .ok (.iload_n 1, 1) := by decide +kernel
theorem dX2_clearAll_3 : decode cX2_clearAll 3 = .ok (.bipush 8, 2) := by decide +kernel
theorem dX2_clearAll_5 : decode cX2_clearAll 5 = .ok (.if_icmp .ge 15, 3) := by decide +kernel
theorem dX2_clearAll_8 : decode cX2_clearAll 8 = .ok (.aload_n 0, 1) := by decide +kernel
theorem dX2_clearAll_9 : decode cX2_clearAll 9 = .ok (.iload_n 1, 1) := by decide +kernel
theorem dX2_clearAll_10 : decode cX2_clearAll 10 = .ok (.lconst 0, 1) := by decide +kernel
theorem dX2_clearAll_11 : decode cX2_clearAll 11 = .ok (.invokevirtual 21, 3) := by decide +kernel
theorem dX2_clearAll_14 : decode cX2_clearAll 14 = .ok (.iinc 1 1, 3) := by decide +kernel
theorem dX2_clearAll_17 : decode cX2_clearAll 17 = .ok (.goto (-15), 3) := by decide +kernel
theorem dX2_clearAll_20 : decode cX2_clearAll 20 = .ok (.return_, 1) := by decide +kernel
theorem dX2_takeValueOut_0 : decode cX2_takeValueOut 0 = .ok (.iload_n 1, 1) := by decide +kernel
theorem dX2_takeValueOut_1 : decode cX2_takeValueOut 1 = .ok (.iconst 1, 1) := by decide +kernel
theorem dX2_takeValueOut_2 : decode cX2_takeValueOut 2 = .ok (.iadd, 1) := by decide +kernel
theorem dX2_takeValueOut_3 : decode cX2_takeValueOut 3 = .ok (.iconst 4, 1) := by decide +kernel
theorem dX2_takeValueOut_4 : decode cX2_takeValueOut 4 = .ok (.imul, 1) := by decide +kernel
theorem dX2_takeValueOut_5 : decode cX2_takeValueOut 5 = .ok (.istore_n 2, 1) := by decide +kernel
theorem dX2_takeValueOut_6 : decode cX2_takeValueOut 6 = .ok (.aload_n 0, 1) := by decide +kernel
theorem dX2_takeValueOut_7 : decode cX2_takeValueOut 7 = .ok (.getfield 11, 3) := by decide +kernel
theorem dX2_takeValueOut_10 : decode cX2_takeValueOut 10 = .ok (.iload_n 2, 1) := by decide +kernel
theorem dX2_takeValueOut_11 : decode cX2_takeValueOut 11 = .ok (.aload_n 0, 1) := by decide +kernel
theorem dX2_takeValueOut_12 : decode cX2_takeValueOut 12 = .ok (.getfield 11, 3) := by decide +kernel
theorem dX2_takeValueOut_15 : decode cX2_takeValueOut 15 = .ok (.iload_n 1, 1) := by decide +kernel
theorem dX2_takeValueOut_16 : decode cX2_takeValueOut 16 = .ok (.iconst 4, 1) := by decide +kernel
theorem dX2_takeValueOut_17 : decode cX2_takeValueOut 17 = .ok (.imul, 1) := by decide +kernel
theorem dX2_takeValueOut_18 : decode cX2_takeValueOut 18 = .ok (.aload_n 0, 1) := by decide +kernel
theorem dX2_takeValueOut_19 : decode cX2_takeValueOut 19 = .ok (.getfield 11, 3) := by decide +kernel
theorem dX2_takeValueOut_22 : decode cX2_takeValueOut 22 = .ok (.arraylength, 1) := by decide +kernel
theorem dX2_takeValueOut_23 : decode cX2_takeValueOut 23 = .ok (.iload_n 2, 1) := by decide +kernel
theorem dX2_takeValueOut_24 : decode cX2_takeValueOut 24 = .ok (.isub, 1) := by decide +kernel
theorem dX2_takeValueOut_25 : decode cX2_takeValueOut 25 = .ok (.invokestatic 15, 3) := by decide +kernel
theorem dX2_takeValueOut_28 : decode cX2_takeValueOut 28 = .ok (.return_, 1) := by decide +kernel
theorem dX2_numberAt_0 : decode cX2_numberAt 0 = .ok (.aload_n 0, 1) := by decide +kernel
theorem dX2_numberAt_1 : decode cX2_numberAt 1 = .ok (.getfield 11, 3) := by decide +kernel
theorem dX2_numberAt_4 : decode cX2_numberAt 4 = .ok (.iload_n 1, 1) := by decide +kernel
theorem dX2_numberAt_5 : decode cX2_numberAt 5 = .ok (.iconst 4, 1) := by decide +kernel
theorem dX2_numberAt_6 : decode cX2_numberAt 6 = .ok (.imul, 1) := by decide +kernel
theorem dX2_numberAt_7 : decode cX2_numberAt 7 = .ok (.laload, 1) := by decide +kernel
theorem dX2_numberAt_8 : decode cX2_numberAt 8 = .ok (.lreturn, 1) := by decide +kernel
theorem dX2_setNumber_0 : decode cX2_setNumber 0 = .ok (.iload_n 1, 1) := by decide +kernel
theorem dX2_setNumber_1 : decode cX2_setNumber 1 = .ok (.iconst 4, 1) := by decide +kernel
theorem dX2_setNumber_2 : decode cX2_setNumber 2 = .ok (.imul, 1) := by decide +kernel
theorem dX2_setNumber_3 : decode cX2_setNumber 3 = .ok (.istore 4, 2) := by decide +kernel
theorem dX2_setNumber_5 : decode cX2_setNumber 5 = .ok (.aload_n 0, 1) := by decide +kernel
theorem dX2_setNumber_6 : decode cX2_setNumber 6 = .ok (.getfield 11, 3) := by decide +kernel
theorem dX2_setNumber_9 : decode cX2_setNumber 9 = .ok (.iload 4, 2) := by decide +kernel
theorem dX2_setNumber_11 : decode cX2_setNumber 11 = .ok (.lload_n 2, 1) := by decide +kernel
theorem dX2_setNumber_12 : decode cX2_setNumber 12 = .ok (.lastore, 1) := by decide +kernel
theorem dX2_setNumber_13 : decode cX2_setNumber 13 = .ok (.iconst 1, 1) := by decide +kernel
theorem dX2_setNumber_14 : decode cX2_setNumber 14 = .ok (.istore 5, 2) := by decide +kernel
theorem dX2_setNumber_16 : decode cX2_setNumber 16 = .ok (.iload 5, 2) := by decide +kernel
theorem dX2_setNumber_18 : decode cX2_setNumber 18 = .ok (.iconst 4, 1) := by decide +kernel
theorem dX2_setNumber_19 : decode cX2_setNumber 19 = .ok (.if_icmp .ge 20, 3) := by decide +kernel
theorem dX2_setNumber_22 : decode cX2_setNumber 22 = .ok (.aload_n 0, 1) := by decide +kernel
theorem dX2_setNumber_23 : decode cX2_setNumber 23 = .ok (.getfield 11, 3) := by decide +kernel
theorem dX2_setNumber_26 : decode cX2_setNumber 26 = .ok (.iload 4, 2) := by decide +kernel
theorem dX2_setNumber_28 : decode cX2_setNumber 28 = .ok (.iload 5, 2) := by decide +kernel
theorem dX2_setNumber_30 : decode cX2_setNumber 30 = .ok (.iadd, 1) := by decide +kernel
theorem dX2_setNumber_31 : decode cX2_setNumber 31 = .ok (.lconst 0, 1) := by decide +kernel
theorem dX2_setNumber_32 : decode cX2_setNumber 32 = .ok (.lastore, 1) := by decide +kernel
theorem dX2_setNumber_33 : decode cX2_setNumber 33 = .ok (.iinc 5 1, 3) := by decide +kernel
theorem dX2_setNumber_36 : decode cX2_setNumber 36 = .ok (.goto (-20), 3) := by decide +kernel
theorem dX2_setNumber_39 : decode cX2_setNumber 39 = .ok (.return_, 1) := by decide +kernel
theorem dX2_letterAt_0 : decode cX2_letterAt 0 = .ok (.aload_n 0, 1) := by decide +kernel
theorem dX2_letterAt_1 : decode cX2_letterAt 1 = .ok (.getfield 11, 3) := by decide +kernel
theorem dX2_letterAt_4 : decode cX2_letterAt 4 = .ok (.iload_n 1, 1) := by decide +kernel
theorem dX2_letterAt_5 : decode cX2_letterAt 5 = .ok (.iconst 4, 1) := by decide +kernel
theorem dX2_letterAt_6 : decode cX2_letterAt 6 = .ok (.imul, 1) := by decide +kernel
theorem dX2_letterAt_7 : decode cX2_letterAt 7 = .ok (.iconst 1, 1) := by decide +kernel
theorem dX2_letterAt_8 : decode cX2_letterAt 8 = .ok (.iadd, 1) := by decide +kernel
theorem dX2_letterAt_9 : decode cX2_letterAt 9 = .ok (.iload_n 2, 1) := by decide +kernel
theorem dX2_letterAt_10 : decode cX2_letterAt 10 = .ok (.bipush 8, 2) := by decide +kernel
theorem dX2_letterAt_12 : decode cX2_letterAt 12 = .ok (.idiv, 1) := by decide +kernel
theorem dX2_letterAt_13 : decode cX2_letterAt 13 = .ok (.iadd, 1) := by decide +kernel
theorem dX2_letterAt_14 : decode cX2_letterAt 14 = .ok (.laload, 1) := by decide +kernel
theorem dX2_letterAt_15 : decode cX2_letterAt 15 = .ok (.lstore_n 3, 1) := by decide +kernel
theorem dX2_letterAt_16 : decode cX2_letterAt 16 = .ok (.lload_n 3, 1) := by decide +kernel
theorem dX2_letterAt_17 : decode cX2_letterAt 17 = .ok (.bipush 8, 2) := by decide +kernel
theorem dX2_letterAt_19 : decode cX2_letterAt 19 = .ok (.iload_n 2, 1) := by decide +kernel
theorem dX2_letterAt_20 : decode cX2_letterAt 20 = .ok (.bipush 8, 2) := by decide +kernel
theorem dX2_letterAt_22 : decode cX2_letterAt 22 = .ok (.irem, 1) := by decide +kernel
theorem dX2_letterAt_23 : decode cX2_letterAt 23 = .ok (.imul, 1) := by decide +kernel
theorem dX2_letterAt_24 : decode cX2_letterAt 24 = .ok (.lushr, 1) := by decide +kernel
theorem dX2_letterAt_25 : decode cX2_letterAt 25 = .ok (.l2i, 1) := by decide +kernel
theorem dX2_letterAt_26 : decode cX2_letterAt 26 = .ok (.sipush 255, 3) := by decide +kernel
theorem dX2_letterAt_29 : decode cX2_letterAt 29 = .ok (.iand, 1) := by decide +kernel
theorem dX2_letterAt_30 : decode cX2_letterAt 30 = .ok (.ireturn, 1) := by decide +kernel
theorem dX2_appendLetter_0 : decode cX2_appendLetter 0 = .ok (.iload_n 1, 1) := by decide +kernel
theorem dX2_appendLetter_1 : decode cX2_appendLetter 1 = .ok (.iconst 4, 1) := by decide +kernel
theorem dX2_appendLetter_2 : decode cX2_appendLetter 2 = .ok (.imul, 1) := by decide +kernel
theorem dX2_appendLetter_3 : decode cX2_appendLetter 3 = .ok (.istore_n 3, 1) := by decide +kernel
theorem dX2_appendLetter_4 : decode cX2_appendLetter 4 = .ok (.aload_n 0, 1) := by decide +kernel
theorem dX2_appendLetter_5 : decode cX2_appendLetter 5 = .ok (.getfield 11, 3) := by decide +kernel
theorem dX2_appendLetter_8 : decode cX2_appendLetter 8 = .ok (.iload_n 3, 1) := by decide +kernel
theorem dX2_appendLetter_9 : decode cX2_appendLetter 9 = .ok (.laload, 1) := by decide +kernel
theorem dX2_appendLetter_10 : decode cX2_appendLetter 10 = .ok (.l2i, 1) := by decide +kernel
theorem dX2_appendLetter_11 : decode cX2_appendLetter 11 = .ok (.istore 4, 2) := by decide +kernel
theorem dX2_appendLetter_13 : decode cX2_appendLetter 13 = .ok (.iload 4, 2) := by decide +kernel
theorem dX2_appendLetter_15 : decode cX2_appendLetter 15 = .ok (.ifCond .lt 10, 3) := by decide +kernel
theorem dX2_appendLetter_18 : decode cX2_appendLetter 18 = .ok (.iload 4, 2) := by decide +kernel
theorem dX2_appendLetter_20 : decode cX2_appendLetter 20 = .ok (.bipush 24, 2) := by decide +kernel
theorem dX2_appendLetter_22 : decode cX2_appendLetter 22 = .ok (.if_icmp .lt 4, 3) := by decide +kernel
theorem dX2_appendLetter_25 : decode cX2_appendLetter 25 = .ok (.return_, 1) := by decide +kernel
theorem dX2_appendLetter_26 : decode cX2_appendLetter 26 = .ok (.aload_n 0, 1) := by decide +kernel
theorem dX2_appendLetter_27 : decode cX2_appendLetter 27 = .ok (.getfield 11, 3) := by decide +kernel
theorem dX2_appendLetter_30 : decode cX2_appendLetter 30 = .ok (.iload_n 3, 1) := by decide +kernel
theorem dX2_appendLetter_31 : decode cX2_appendLetter 31 = .ok (.iconst 1, 1) := by decide +kernel
theorem dX2_appendLetter_32 : decode cX2_appendLetter 32 = .ok (.iadd, 1) := by decide +kernel
theorem dX2_appendLetter_33 : decode cX2_appendLetter 33 = .ok (.iload 4, 2) := by decide +kernel
theorem dX2_appendLetter_35 : decode cX2_appendLetter 35 = .ok (.bipush 8, 2) := by decide +kernel
theorem dX2_appendLetter_37 : decode cX2_appendLetter 37 = .ok (.idiv, 1) := by decide +kernel
theorem dX2_appendLetter_38 : decode cX2_appendLetter 38 = .ok (.iadd, 1) := by decide +kernel
theorem dX2_appendLetter_39 : decode cX2_appendLetter 39 = .ok (.dup2, 1) := by decide +kernel
theorem dX2_appendLetter_40 : decode cX2_appendLetter 40 = .ok (.laload, 1) := by decide +kernel
theorem dX2_appendLetter_41 : decode cX2_appendLetter 41 = .ok (.iload_n 2, 1) := by decide +kernel
theorem dX2_appendLetter_42 : decode cX2_appendLetter 42 = .ok (.i2l, 1) := by decide +kernel
theorem dX2_appendLetter_43 : decode cX2_appendLetter 43 = .ok (.bipush 8, 2) := by decide +kernel
theorem dX2_appendLetter_45 : decode cX2_appendLetter 45 = .ok (.iload 4, 2) := by decide +kernel
theorem dX2_appendLetter_47 : decode cX2_appendLetter 47 = .ok (.bipush 8, 2) := by decide +kernel
theorem dX2_appendLetter_49 : decode cX2_appendLetter 49 = .ok (.irem, 1) := by decide +kernel
theorem dX2_appendLetter_50 : decode cX2_appendLetter 50 = .ok (.imul, 1) := by decide +kernel
theorem dX2_appendLetter_51 : decode cX2_appendLetter 51 = .ok (.lshl, 1) := by decide +kernel
theorem dX2_appendLetter_52 : decode cX2_appendLetter 52 = .ok (.lor, 1) := by decide +kernel
theorem dX2_appendLetter_53 : decode cX2_appendLetter 53 = .ok (.lastore, 1) := by decide +kernel
theorem dX2_appendLetter_54 : decode cX2_appendLetter 54 = .ok (.aload_n 0, 1) := by decide +kernel
theorem dX2_appendLetter_55 : decode cX2_appendLetter 55 = .ok (.getfield 11, 3) := by decide +kernel
theorem dX2_appendLetter_58 : decode cX2_appendLetter 58 = .ok (.iload_n 3, 1) := by decide +kernel
theorem dX2_appendLetter_59 : decode cX2_appendLetter 59 = .ok (.iload 4, 2) := by decide +kernel
theorem dX2_appendLetter_61 : decode cX2_appendLetter 61 = .ok (.iconst 1, 1) := by decide +kernel
theorem dX2_appendLetter_62 : decode cX2_appendLetter 62 = .ok (.iadd, 1) := by decide +kernel
theorem dX2_appendLetter_63 : decode cX2_appendLetter 63 = .ok (.i2l, 1) := by decide +kernel
theorem dX2_appendLetter_64 : decode cX2_appendLetter 64 = .ok (.lastore, 1) := by decide +kernel
theorem dX2_appendLetter_65 : decode cX2_appendLetter 65 = .ok (.return_, 1) := by decide +kernel
theorem dX2_appendLetters_0 : decode cX2_appendLetters 0 = .ok (.bipush 56, 2) := by decide +kernel
theorem dX2_appendLetters_2 : decode cX2_appendLetters 2 = .ok (.istore 4, 2) := by decide +kernel
theorem dX2_appendLetters_4 : decode cX2_appendLetters 4 = .ok (.iload 4, 2) := by decide +kernel
theorem dX2_appendLetters_6 : decode cX2_appendLetters 6 = .ok (.ifCond .lt 32, 3) := by decide +kernel
theorem dX2_appendLetters_9 : decode cX2_appendLetters 9 = .ok (.lload_n 2, 1) := by decide +kernel
theorem dX2_appendLetters_10 : decode cX2_appendLetters 10 = .ok (.iload 4, 2) := by decide +kernel
theorem dX2_appendLetters_12 : decode cX2_appendLetters 12 = .ok (.lushr, 1) := by decide +kernel
theorem dX2_appendLetters_13 : decode cX2_appendLetters 13 = .ok (.l2i, 1) := by decide +kernel
theorem dX2_appendLetters_14 : decode cX2_appendLetters 14 = .ok (.sipush 255, 3) := by decide +kernel
theorem dX2_appendLetters_17 : decode cX2_appendLetters 17 = .ok (.iand, 1) := by decide +kernel
theorem dX2_appendLetters_18 : decode cX2_appendLetters 18 = .ok (.istore 5, 2) := by decide +kernel
theorem dX2_appendLetters_20 : decode cX2_appendLetters 20 = .ok (.iload 5, 2) := by decide +kernel
theorem dX2_appendLetters_22 : decode cX2_appendLetters 22 = .ok (.ifCond .eq 10, 3) := by decide +kernel
theorem dX2_appendLetters_25 : decode cX2_appendLetters 25 = .ok (.aload_n 0, 1) := by decide +kernel
theorem dX2_appendLetters_26 : decode cX2_appendLetters 26 = .ok (.iload_n 1, 1) := by decide +kernel
theorem dX2_appendLetters_27 : decode cX2_appendLetters 27 = .ok (.iload 5, 2) := by decide +kernel
theorem dX2_appendLetters_29 : decode cX2_appendLetters 29 = .ok (.invokevirtual 25, 3) := by decide +kernel
theorem dX2_appendLetters_32 : decode cX2_appendLetters 32 = .ok (.iinc 4 (-8), 3) := by decide +kernel
theorem dX2_appendLetters_35 : decode cX2_appendLetters 35 = .ok (.goto (-31), 3) := by decide +kernel
theorem dX2_appendLetters_38 : decode cX2_appendLetters 38 = .ok (.return_, 1) := by decide +kernel
theorem dX2_setTold_0 : decode cX2_setTold 0 = .ok (.iload_n 2, 1) := by decide +kernel
theorem dX2_setTold_1 : decode cX2_setTold 1 = .ok (.tableswitch 74 0 3 #[31, 42, 54, 65], 31) := by decide +kernel
theorem dX2_setTold_32 : decode cX2_setTold 32 = .ok (.aload_n 0, 1) := by decide +kernel
theorem dX2_setTold_33 : decode cX2_setTold 33 = .ok (.iload_n 1, 1) := by decide +kernel
theorem dX2_setTold_34 : decode cX2_setTold 34 = .ok (.lload_n 3, 1) := by decide +kernel
theorem dX2_setTold_35 : decode cX2_setTold 35 = .ok (.lconst 1, 1) := by decide +kernel
theorem dX2_setTold_36 : decode cX2_setTold 36 = .ok (.land, 1) := by decide +kernel
theorem dX2_setTold_37 : decode cX2_setTold 37 = .ok (.invokevirtual 21, 3) := by decide +kernel
theorem dX2_setTold_40 : decode cX2_setTold 40 = .ok (.goto 47, 3) := by decide +kernel
theorem dX2_setTold_43 : decode cX2_setTold 43 = .ok (.aload_n 0, 1) := by decide +kernel
theorem dX2_setTold_44 : decode cX2_setTold 44 = .ok (.iload_n 1, 1) := by decide +kernel
theorem dX2_setTold_45 : decode cX2_setTold 45 = .ok (.lload_n 3, 1) := by decide +kernel
theorem dX2_setTold_46 : decode cX2_setTold 46 = .ok (.l2i, 1) := by decide +kernel
theorem dX2_setTold_47 : decode cX2_setTold 47 = .ok (.i2s, 1) := by decide +kernel
theorem dX2_setTold_48 : decode cX2_setTold 48 = .ok (.i2l, 1) := by decide +kernel
theorem dX2_setTold_49 : decode cX2_setTold 49 = .ok (.invokevirtual 21, 3) := by decide +kernel
theorem dX2_setTold_52 : decode cX2_setTold 52 = .ok (.goto 35, 3) := by decide +kernel
theorem dX2_setTold_55 : decode cX2_setTold 55 = .ok (.aload_n 0, 1) := by decide +kernel
theorem dX2_setTold_56 : decode cX2_setTold 56 = .ok (.iload_n 1, 1) := by decide +kernel
theorem dX2_setTold_57 : decode cX2_setTold 57 = .ok (.lload_n 3, 1) := by decide +kernel
theorem dX2_setTold_58 : decode cX2_setTold 58 = .ok (.l2i, 1) := by decide +kernel
theorem dX2_setTold_59 : decode cX2_setTold 59 = .ok (.i2l, 1) := by decide +kernel
theorem dX2_setTold_60 : decode cX2_setTold 60 = .ok (.invokevirtual 21, 3) := by decide +kernel
theorem dX2_setTold_63 : decode cX2_setTold 63 = .ok (.goto 24, 3) := by decide +kernel
theorem dX2_setTold_66 : decode cX2_setTold 66 = .ok (.aload_n 0, 1) := by decide +kernel
theorem dX2_setTold_67 : decode cX2_setTold 67 = .ok (.iload_n 1, 1) := by decide +kernel
theorem dX2_setTold_68 : decode cX2_setTold 68 = .ok (.lload_n 3, 1) := by decide +kernel
theorem dX2_setTold_69 : decode cX2_setTold 69 = .ok (.invokevirtual 21, 3) := by decide +kernel
theorem dX2_setTold_72 : decode cX2_setTold 72 = .ok (.goto 15, 3) := by decide +kernel
theorem dX2_setTold_75 : decode cX2_setTold 75 = .ok (.aload_n 0, 1) := by decide +kernel
theorem dX2_setTold_76 : decode cX2_setTold 76 = .ok (.iload_n 1, 1) := by decide +kernel
theorem dX2_setTold_77 : decode cX2_setTold 77 = .ok (.lconst 0, 1) := by decide +kernel
theorem dX2_setTold_78 : decode cX2_setTold 78 = .ok (.invokevirtual 21, 3) := by decide +kernel
theorem dX2_setTold_81 : decode cX2_setTold 81 = .ok (.aload_n 0, 1) := by decide +kernel
theorem dX2_setTold_82 : decode cX2_setTold 82 = .ok (.iload_n 1, 1) := by decide +kernel
theorem dX2_setTold_83 : decode cX2_setTold 83 = .ok (.lload_n 3, 1) := by decide +kernel
theorem dX2_setTold_84 : decode cX2_setTold 84 = .ok (.invokevirtual 29, 3) := by decide +kernel
theorem dX2_setTold_87 : decode cX2_setTold 87 = .ok (.return_, 1) := by decide +kernel
theorem dX2_become_0 : decode cX2_become 0 = .ok (.iload_n 2, 1) := by decide +kernel
theorem dX2_become_1 : decode cX2_become 1 = .ok (.iconst 4, 1) := by decide +kernel
theorem dX2_become_2 : decode cX2_become 2 = .ok (.if_icmp .ne 11, 3) := by decide +kernel
theorem dX2_become_5 : decode cX2_become 5 = .ok (.aload_n 0, 1) := by decide +kernel
theorem dX2_become_6 : decode cX2_become 6 = .ok (.iload_n 1, 1) := by decide +kernel
theorem dX2_become_7 : decode cX2_become 7 = .ok (.invokevirtual 32, 3) := by decide +kernel
theorem dX2_become_10 : decode cX2_become 10 = .ok (.goto 8, 3) := by decide +kernel
theorem dX2_become_13 : decode cX2_become 13 = .ok (.aload_n 0, 1) := by decide +kernel
theorem dX2_become_14 : decode cX2_become 14 = .ok (.iload_n 1, 1) := by decide +kernel
theorem dX2_become_15 : decode cX2_become 15 = .ok (.invokevirtual 36, 3) := by decide +kernel
theorem dX2_become_18 : decode cX2_become 18 = .ok (.lstore 4, 2) := by decide +kernel
theorem dX2_become_20 : decode cX2_become 20 = .ok (.iload_n 3, 1) := by decide +kernel
theorem dX2_become_21 : decode cX2_become 21 = .ok (.tableswitch 105 0 3 #[31, 51, 73, 95], 31) := by decide +kernel
theorem dX2_become_52 : decode cX2_become 52 = .ok (.aload_n 0, 1) := by decide +kernel
theorem dX2_become_53 : decode cX2_become 53 = .ok (.iload_n 1, 1) := by decide +kernel
theorem dX2_become_54 : decode cX2_become 54 = .ok (.lload 4, 2) := by decide +kernel
theorem dX2_become_56 : decode cX2_become 56 = .ok (.lconst 0, 1) := by decide +kernel
theorem dX2_become_57 : decode cX2_become 57 = .ok (.lcmp, 1) := by decide +kernel
theorem dX2_become_58 : decode cX2_become 58 = .ok (.ifCond .ne 7, 3) := by decide +kernel
theorem dX2_become_61 : decode cX2_become 61 = .ok (.lconst 0, 1) := by decide +kernel
theorem dX2_become_62 : decode cX2_become 62 = .ok (.goto 4, 3) := by decide +kernel
theorem dX2_become_65 : decode cX2_become 65 = .ok (.lconst 1, 1) := by decide +kernel
theorem dX2_become_66 : decode cX2_become 66 = .ok (.invokevirtual 21, 3) := by decide +kernel
theorem dX2_become_69 : decode cX2_become 69 = .ok (.goto 64, 3) := by decide +kernel
theorem dX2_become_72 : decode cX2_become 72 = .ok (.aload_n 0, 1) := by decide +kernel
theorem dX2_become_73 : decode cX2_become 73 = .ok (.iload_n 1, 1) := by decide +kernel
theorem dX2_become_74 : decode cX2_become 74 = .ok (.ldc2_w 39, 3) := by decide +kernel
theorem dX2_become_77 : decode cX2_become 77 = .ok (.ldc2_w 41, 3) := by decide +kernel
theorem dX2_become_80 : decode cX2_become 80 = .ok (.lload 4, 2) := by decide +kernel
theorem dX2_become_82 : decode cX2_become 82 = .ok (.invokestatic 43, 3) := by decide +kernel
theorem dX2_become_85 : decode cX2_become 85 = .ok (.invokestatic 49, 3) := by decide +kernel
theorem dX2_become_88 : decode cX2_become 88 = .ok (.invokevirtual 21, 3) := by decide +kernel
theorem dX2_become_91 : decode cX2_become 91 = .ok (.goto 42, 3) := by decide +kernel
theorem dX2_become_94 : decode cX2_become 94 = .ok (.aload_n 0, 1) := by decide +kernel
theorem dX2_become_95 : decode cX2_become 95 = .ok (.iload_n 1, 1) := by decide +kernel
theorem dX2_become_96 : decode cX2_become 96 = .ok (.ldc2_w 52, 3) := by decide +kernel
theorem dX2_become_99 : decode cX2_become 99 = .ok (.ldc2_w 54, 3) := by decide +kernel
theorem dX2_become_102 : decode cX2_become 102 = .ok (.lload 4, 2) := by decide +kernel
theorem dX2_become_104 : decode cX2_become 104 = .ok (.invokestatic 43, 3) := by decide +kernel
theorem dX2_become_107 : decode cX2_become 107 = .ok (.invokestatic 49, 3) := by decide +kernel
theorem dX2_become_110 : decode cX2_become 110 = .ok (.invokevirtual 21, 3) := by decide +kernel
theorem dX2_become_113 : decode cX2_become 113 = .ok (.goto 20, 3) := by decide +kernel
theorem dX2_become_116 : decode cX2_become 116 = .ok (.aload_n 0, 1) := by decide +kernel
theorem dX2_become_117 : decode cX2_become 117 = .ok (.iload_n 1, 1) := by decide +kernel
theorem dX2_become_118 : decode cX2_become 118 = .ok (.lload 4, 2) := by decide +kernel
theorem dX2_become_120 : decode cX2_become 120 = .ok (.invokevirtual 21, 3) := by decide +kernel
theorem dX2_become_123 : decode cX2_become 123 = .ok (.goto 10, 3) := by decide +kernel
theorem dX2_become_126 : decode cX2_become 126 = .ok (.aload_n 0, 1) := by decide +kernel
theorem dX2_become_127 : decode cX2_become 127 = .ok (.iload_n 1, 1) := by decide +kernel
theorem dX2_become_128 : decode cX2_become 128 = .ok (.lload 4, 2) := by decide +kernel
theorem dX2_become_130 : decode cX2_become 130 = .ok (.invokevirtual 56, 3) := by decide +kernel
theorem dX2_become_133 : decode cX2_become 133 = .ok (.return_, 1) := by decide +kernel
theorem dX2_numberTold_0 : decode cX2_numberTold 0 = .ok (.aload_n 0, 1) := by decide +kernel
theorem dX2_numberTold_1 : decode cX2_numberTold 1 = .ok (.iload_n 1, 1) := by decide +kernel
theorem dX2_numberTold_2 : decode cX2_numberTold 2 = .ok (.invokevirtual 36, 3) := by decide +kernel
theorem dX2_numberTold_5 : decode cX2_numberTold 5 = .ok (.l2i, 1) := by decide +kernel
theorem dX2_numberTold_6 : decode cX2_numberTold 6 = .ok (.istore_n 2, 1) := by decide +kernel
theorem dX2_numberTold_7 : decode cX2_numberTold 7 = .ok (.iload_n 2, 1) := by decide +kernel
theorem dX2_numberTold_8 : decode cX2_numberTold 8 = .ok (.ifCond .le 18, 3) := by decide +kernel
theorem dX2_numberTold_11 : decode cX2_numberTold 11 = .ok (.aload_n 0, 1) := by decide +kernel
theorem dX2_numberTold_12 : decode cX2_numberTold 12 = .ok (.iload_n 1, 1) := by decide +kernel
theorem dX2_numberTold_13 : decode cX2_numberTold 13 = .ok (.iconst 0, 1) := by decide +kernel
theorem dX2_numberTold_14 : decode cX2_numberTold 14 = .ok (.invokevirtual 59, 3) := by decide +kernel
theorem dX2_numberTold_17 : decode cX2_numberTold 17 = .ok (.bipush 45, 2) := by decide +kernel
theorem dX2_numberTold_19 : decode cX2_numberTold 19 = .ok (.if_icmp .ne 7, 3) := by decide +kernel
theorem dX2_numberTold_22 : decode cX2_numberTold 22 = .ok (.iconst 1, 1) := by decide +kernel
theorem dX2_numberTold_23 : decode cX2_numberTold 23 = .ok (.goto 4, 3) := by decide +kernel
theorem dX2_numberTold_26 : decode cX2_numberTold 26 = .ok (.iconst 0, 1) := by decide +kernel
theorem dX2_numberTold_27 : decode cX2_numberTold 27 = .ok (.istore_n 3, 1) := by decide +kernel
theorem dX2_numberTold_28 : decode cX2_numberTold 28 = .ok (.iload_n 2, 1) := by decide +kernel
theorem dX2_numberTold_29 : decode cX2_numberTold 29 = .ok (.iload_n 3, 1) := by decide +kernel
theorem dX2_numberTold_30 : decode cX2_numberTold 30 = .ok (.isub, 1) := by decide +kernel
theorem dX2_numberTold_31 : decode cX2_numberTold 31 = .ok (.iconst 1, 1) := by decide +kernel
theorem dX2_numberTold_32 : decode cX2_numberTold 32 = .ok (.if_icmp .lt 11, 3) := by decide +kernel
theorem dX2_numberTold_35 : decode cX2_numberTold 35 = .ok (.iload_n 2, 1) := by decide +kernel
theorem dX2_numberTold_36 : decode cX2_numberTold 36 = .ok (.iload_n 3, 1) := by decide +kernel
theorem dX2_numberTold_37 : decode cX2_numberTold 37 = .ok (.isub, 1) := by decide +kernel
theorem dX2_numberTold_38 : decode cX2_numberTold 38 = .ok (.bipush 18, 2) := by decide +kernel
theorem dX2_numberTold_40 : decode cX2_numberTold 40 = .ok (.if_icmp .le 5, 3) := by decide +kernel
theorem dX2_numberTold_43 : decode cX2_numberTold 43 = .ok (.lconst 0, 1) := by decide +kernel
theorem dX2_numberTold_44 : decode cX2_numberTold 44 = .ok (.lreturn, 1) := by decide +kernel
theorem dX2_numberTold_45 : decode cX2_numberTold 45 = .ok (.lconst 0, 1) := by decide +kernel
theorem dX2_numberTold_46 : decode cX2_numberTold 46 = .ok (.lstore 4, 2) := by decide +kernel
theorem dX2_numberTold_48 : decode cX2_numberTold 48 = .ok (.iload_n 3, 1) := by decide +kernel
theorem dX2_numberTold_49 : decode cX2_numberTold 49 = .ok (.istore 6, 2) := by decide +kernel
theorem dX2_numberTold_51 : decode cX2_numberTold 51 = .ok (.iload 6, 2) := by decide +kernel
theorem dX2_numberTold_53 : decode cX2_numberTold 53 = .ok (.iload_n 2, 1) := by decide +kernel
theorem dX2_numberTold_54 : decode cX2_numberTold 54 = .ok (.if_icmp .ge 49, 3) := by decide +kernel
theorem dX2_numberTold_57 : decode cX2_numberTold 57 = .ok (.aload_n 0, 1) := by decide +kernel
theorem dX2_numberTold_58 : decode cX2_numberTold 58 = .ok (.iload_n 1, 1) := by decide +kernel
theorem dX2_numberTold_59 : decode cX2_numberTold 59 = .ok (.iload 6, 2) := by decide +kernel
theorem dX2_numberTold_61 : decode cX2_numberTold 61 = .ok (.invokevirtual 59, 3) := by decide +kernel
theorem dX2_numberTold_64 : decode cX2_numberTold 64 = .ok (.istore 7, 2) := by decide +kernel
theorem dX2_numberTold_66 : decode cX2_numberTold 66 = .ok (.iload 7, 2) := by decide +kernel
theorem dX2_numberTold_68 : decode cX2_numberTold 68 = .ok (.bipush 48, 2) := by decide +kernel
theorem dX2_numberTold_70 : decode cX2_numberTold 70 = .ok (.if_icmp .lt 10, 3) := by decide +kernel
theorem dX2_numberTold_73 : decode cX2_numberTold 73 = .ok (.iload 7, 2) := by decide +kernel
theorem dX2_numberTold_75 : decode cX2_numberTold 75 = .ok (.bipush 57, 2) := by decide +kernel
theorem dX2_numberTold_77 : decode cX2_numberTold 77 = .ok (.if_icmp .le 5, 3) := by decide +kernel
theorem dX2_numberTold_80 : decode cX2_numberTold 80 = .ok (.lconst 0, 1) := by decide +kernel
theorem dX2_numberTold_81 : decode cX2_numberTold 81 = .ok (.lreturn, 1) := by decide +kernel
theorem dX2_numberTold_82 : decode cX2_numberTold 82 = .ok (.ldc2_w 63, 3) := by decide +kernel
theorem dX2_numberTold_85 : decode cX2_numberTold 85 = .ok (.lload 4, 2) := by decide +kernel
theorem dX2_numberTold_87 : decode cX2_numberTold 87 = .ok (.lmul, 1) := by decide +kernel
theorem dX2_numberTold_88 : decode cX2_numberTold 88 = .ok (.iload 7, 2) := by decide +kernel
theorem dX2_numberTold_90 : decode cX2_numberTold 90 = .ok (.bipush 48, 2) := by decide +kernel
theorem dX2_numberTold_92 : decode cX2_numberTold 92 = .ok (.isub, 1) := by decide +kernel
theorem dX2_numberTold_93 : decode cX2_numberTold 93 = .ok (.i2l, 1) := by decide +kernel
theorem dX2_numberTold_94 : decode cX2_numberTold 94 = .ok (.ladd, 1) := by decide +kernel
theorem dX2_numberTold_95 : decode cX2_numberTold 95 = .ok (.lstore 4, 2) := by decide +kernel
theorem dX2_numberTold_97 : decode cX2_numberTold 97 = .ok (.iinc 6 1, 3) := by decide +kernel
theorem dX2_numberTold_100 : decode cX2_numberTold 100 = .ok (.goto (-49), 3) := by decide +kernel
theorem dX2_numberTold_103 : decode cX2_numberTold 103 = .ok (.iload_n 3, 1) := by decide +kernel
theorem dX2_numberTold_104 : decode cX2_numberTold 104 = .ok (.iconst 1, 1) := by decide +kernel
theorem dX2_numberTold_105 : decode cX2_numberTold 105 = .ok (.if_icmp .ne 9, 3) := by decide +kernel
theorem dX2_numberTold_108 : decode cX2_numberTold 108 = .ok (.lload 4, 2) := by decide +kernel
theorem dX2_numberTold_110 : decode cX2_numberTold 110 = .ok (.lneg, 1) := by decide +kernel
theorem dX2_numberTold_111 : decode cX2_numberTold 111 = .ok (.goto 5, 3) := by decide +kernel
theorem dX2_numberTold_114 : decode cX2_numberTold 114 = .ok (.lload 4, 2) := by decide +kernel
theorem dX2_numberTold_116 : decode cX2_numberTold 116 = .ok (.lreturn, 1) := by decide +kernel
theorem dX2_setDigits_0 : decode cX2_setDigits 0 = .ok (.aload_n 0, 1) := by decide +kernel
theorem dX2_setDigits_1 : decode cX2_setDigits 1 = .ok (.iload_n 1, 1) := by decide +kernel
theorem dX2_setDigits_2 : decode cX2_setDigits 2 = .ok (.lconst 0, 1) := by decide +kernel
theorem dX2_setDigits_3 : decode cX2_setDigits 3 = .ok (.invokevirtual 21, 3) := by decide +kernel
theorem dX2_setDigits_6 : decode cX2_setDigits 6 = .ok (.lload_n 2, 1) := by decide +kernel
theorem dX2_setDigits_7 : decode cX2_setDigits 7 = .ok (.lconst 0, 1) := by decide +kernel
theorem dX2_setDigits_8 : decode cX2_setDigits 8 = .ok (.lcmp, 1) := by decide +kernel
theorem dX2_setDigits_9 : decode cX2_setDigits 9 = .ok (.ifCond .ge 10, 3) := by decide +kernel
theorem dX2_setDigits_12 : decode cX2_setDigits 12 = .ok (.aload_n 0, 1) := by decide +kernel
theorem dX2_setDigits_13 : decode cX2_setDigits 13 = .ok (.iload_n 1, 1) := by decide +kernel
theorem dX2_setDigits_14 : decode cX2_setDigits 14 = .ok (.bipush 45, 2) := by decide +kernel
theorem dX2_setDigits_16 : decode cX2_setDigits 16 = .ok (.invokevirtual 25, 3) := by decide +kernel
theorem dX2_setDigits_19 : decode cX2_setDigits 19 = .ok (.iconst 1, 1) := by decide +kernel
theorem dX2_setDigits_20 : decode cX2_setDigits 20 = .ok (.istore 4, 2) := by decide +kernel
theorem dX2_setDigits_22 : decode cX2_setDigits 22 = .ok (.ldc2_w 65, 3) := by decide +kernel
theorem dX2_setDigits_25 : decode cX2_setDigits 25 = .ok (.lstore 5, 2) := by decide +kernel
theorem dX2_setDigits_27 : decode cX2_setDigits 27 = .ok (.lload 5, 2) := by decide +kernel
theorem dX2_setDigits_29 : decode cX2_setDigits 29 = .ok (.lconst 0, 1) := by decide +kernel
theorem dX2_setDigits_30 : decode cX2_setDigits 30 = .ok (.lcmp, 1) := by decide +kernel
theorem dX2_setDigits_31 : decode cX2_setDigits 31 = .ok (.ifCond .le 67, 3) := by decide +kernel
theorem dX2_setDigits_34 : decode cX2_setDigits 34 = .ok (.lload_n 2, 1) := by decide +kernel
theorem dX2_setDigits_35 : decode cX2_setDigits 35 = .ok (.lload 5, 2) := by decide +kernel
theorem dX2_setDigits_37 : decode cX2_setDigits 37 = .ok (.ldiv, 1) := by decide +kernel
theorem dX2_setDigits_38 : decode cX2_setDigits 38 = .ok (.ldc2_w 63, 3) := by decide +kernel
theorem dX2_setDigits_41 : decode cX2_setDigits 41 = .ok (.lrem, 1) := by decide +kernel
theorem dX2_setDigits_42 : decode cX2_setDigits 42 = .ok (.invokestatic 67, 3) := by decide +kernel
theorem dX2_setDigits_45 : decode cX2_setDigits 45 = .ok (.l2i, 1) := by decide +kernel
theorem dX2_setDigits_46 : decode cX2_setDigits 46 = .ok (.istore 7, 2) := by decide +kernel
theorem dX2_setDigits_48 : decode cX2_setDigits 48 = .ok (.iload 4, 2) := by decide +kernel
theorem dX2_setDigits_50 : decode cX2_setDigits 50 = .ok (.ifCond .eq 19, 3) := by decide +kernel
theorem dX2_setDigits_53 : decode cX2_setDigits 53 = .ok (.iload 7, 2) := by decide +kernel
theorem dX2_setDigits_55 : decode cX2_setDigits 55 = .ok (.ifCond .ne 14, 3) := by decide +kernel
theorem dX2_setDigits_58 : decode cX2_setDigits 58 = .ok (.lload 5, 2) := by decide +kernel
theorem dX2_setDigits_60 : decode cX2_setDigits 60 = .ok (.lconst 1, 1) := by decide +kernel
theorem dX2_setDigits_61 : decode cX2_setDigits 61 = .ok (.lcmp, 1) := by decide +kernel
theorem dX2_setDigits_62 : decode cX2_setDigits 62 = .ok (.ifCond .le 7, 3) := by decide +kernel
theorem dX2_setDigits_65 : decode cX2_setDigits 65 = .ok (.iconst 1, 1) := by decide +kernel
theorem dX2_setDigits_66 : decode cX2_setDigits 66 = .ok (.goto 4, 3) := by decide +kernel
theorem dX2_setDigits_69 : decode cX2_setDigits 69 = .ok (.iconst 0, 1) := by decide +kernel
theorem dX2_setDigits_70 : decode cX2_setDigits 70 = .ok (.istore 4, 2) := by decide +kernel
theorem dX2_setDigits_72 : decode cX2_setDigits 72 = .ok (.iload 4, 2) := by decide +kernel
theorem dX2_setDigits_74 : decode cX2_setDigits 74 = .ok (.ifCond .ne 13, 3) := by decide +kernel
theorem dX2_setDigits_77 : decode cX2_setDigits 77 = .ok (.aload_n 0, 1) := by decide +kernel
theorem dX2_setDigits_78 : decode cX2_setDigits 78 = .ok (.iload_n 1, 1) := by decide +kernel
theorem dX2_setDigits_79 : decode cX2_setDigits 79 = .ok (.bipush 48, 2) := by decide +kernel
theorem dX2_setDigits_81 : decode cX2_setDigits 81 = .ok (.iload 7, 2) := by decide +kernel
theorem dX2_setDigits_83 : decode cX2_setDigits 83 = .ok (.iadd, 1) := by decide +kernel
theorem dX2_setDigits_84 : decode cX2_setDigits 84 = .ok (.invokevirtual 25, 3) := by decide +kernel
theorem dX2_setDigits_87 : decode cX2_setDigits 87 = .ok (.lload 5, 2) := by decide +kernel
theorem dX2_setDigits_89 : decode cX2_setDigits 89 = .ok (.ldc2_w 63, 3) := by decide +kernel
theorem dX2_setDigits_92 : decode cX2_setDigits 92 = .ok (.ldiv, 1) := by decide +kernel
theorem dX2_setDigits_93 : decode cX2_setDigits 93 = .ok (.lstore 5, 2) := by decide +kernel
theorem dX2_setDigits_95 : decode cX2_setDigits 95 = .ok (.goto (-68), 3) := by decide +kernel
theorem dX2_setDigits_98 : decode cX2_setDigits 98 = .ok (.return_, 1) := by decide +kernel
theorem dX3_init_0 : decode cX3_init 0 = .ok (.aload_n 0, 1) := by decide +kernel
theorem dX3_init_1 : decode cX3_init 1 = .ok (.invokespecial 3, 3) := by decide +kernel
theorem dX3_init_4 : decode cX3_init 4 = .ok (.aload_n 0, 1) := by decide +kernel
theorem dX3_init_5 : decode cX3_init 5 = .ok (.bipush 6, 2) := by decide +kernel
theorem dX3_init_7 : decode cX3_init 7 = .ok (.anewarray 9, 3) := by decide +kernel
theorem dX3_init_10 : decode cX3_init 10 = .ok (.putfield 11, 3) := by decide +kernel
theorem dX3_init_13 : decode cX3_init 13 = .ok (.aload_n 0, 1) := by decide +kernel
theorem dX3_init_14 : decode cX3_init 14 = .ok (.bipush 6, 2) := by decide +kernel
theorem dX3_init_16 : decode cX3_init 16 = .ok (.newarray .int, 2) := by decide +kernel
theorem dX3_init_18 : decode cX3_init 18 = .ok (.putfield 17, 3) := by decide +kernel
theorem dX3_init_21 : decode cX3_init 21 = .ok (.iconst 0, 1) := by decide +kernel
theorem dX3_init_22 : decode cX3_init 22 = .ok (.istore_n 1, 1) := by decide +kernel
theorem dX3_init_23 : decode cX3_init 23 = .ok (.iload_n 1, 1) := by decide +kernel
theorem dX3_init_24 : decode cX3_init 24 = .ok (.bipush 6, 2) := by decide +kernel
theorem dX3_init_26 : decode cX3_init 26 = .ok (.if_icmp .ge 22, 3) := by decide +kernel
theorem dX3_init_29 : decode cX3_init 29 = .ok (.aload_n 0, 1) := by decide +kernel
theorem dX3_init_30 : decode cX3_init 30 = .ok (.getfield 11, 3) := by decide +kernel
theorem dX3_init_33 : decode cX3_init 33 = .ok (.iload_n 1, 1) := by decide +kernel
theorem dX3_init_34 : decode cX3_init 34 = .ok (.new 9, 3) := by decide +kernel
theorem dX3_init_37 : decode cX3_init 37 = .ok (.dup, 1) := by decide +kernel
theorem dX3_init_38 : decode cX3_init 38 = .ok (.invokespecial 21, 3) := by decide +kernel
theorem dX3_init_41 : decode cX3_init 41 = .ok (.aastore, 1) := by decide +kernel
theorem dX3_init_42 : decode cX3_init 42 = .ok (.iinc 1 1, 3) := by decide +kernel
theorem dX3_init_45 : decode cX3_init 45 = .ok (.goto (-22), 3) := by decide +kernel
theorem dX3_init_48 : decode cX3_init 48 = .ok (.return_, 1) := by decide +kernel
theorem dX3_append_0 : decode cX3_append 0 = .ok (.aload_n 0, 1) := by decide +kernel
theorem dX3_append_1 : decode cX3_append 1 = .ok (.getfield 11, 3) := by decide +kernel
theorem dX3_append_4 : decode cX3_append 4 = .ok (.aload_n 0, 1) := by decide +kernel
theorem dX3_append_5 : decode cX3_append 5 = .ok (.getfield 22, 3) := by decide +kernel
theorem dX3_append_8 : decode cX3_append 8 = .ok (.aaload, 1) := by decide +kernel
theorem dX3_append_9 : decode cX3_append 9 = .ok (.astore 6, 2) := by decide +kernel
theorem dX3_append_11 : decode cX3_append 11 = .ok (.aload 6, 2) := by decide +kernel
theorem dX3_append_13 : decode cX3_append 13 = .ok (.iload_n 1, 1) := by decide +kernel
theorem dX3_append_14 : decode cX3_append 14 = .ok (.putfield 26, 3) := by decide +kernel
theorem dX3_append_17 : decode cX3_append 17 = .ok (.aload 6, 2) := by decide +kernel
theorem dX3_append_19 : decode cX3_append 19 = .ok (.iload_n 2, 1) := by decide +kernel
theorem dX3_append_20 : decode cX3_append 20 = .ok (.putfield 29, 3) := by decide +kernel
theorem dX3_append_23 : decode cX3_append 23 = .ok (.aload 6, 2) := by decide +kernel
theorem dX3_append_25 : decode cX3_append 25 = .ok (.iload_n 3, 1) := by decide +kernel
theorem dX3_append_26 : decode cX3_append 26 = .ok (.putfield 32, 3) := by decide +kernel
theorem dX3_append_29 : decode cX3_append 29 = .ok (.aload 6, 2) := by decide +kernel
theorem dX3_append_31 : decode cX3_append 31 = .ok (.lload 4, 2) := by decide +kernel
theorem dX3_append_33 : decode cX3_append 33 = .ok (.putfield 35, 3) := by decide +kernel
theorem dX3_append_36 : decode cX3_append 36 = .ok (.aload_n 0, 1) := by decide +kernel
theorem dX3_append_37 : decode cX3_append 37 = .ok (.dup, 1) := by decide +kernel
theorem dX3_append_38 : decode cX3_append 38 = .ok (.getfield 22, 3) := by decide +kernel
theorem dX3_append_41 : decode cX3_append 41 = .ok (.iconst 1, 1) := by decide +kernel
theorem dX3_append_42 : decode cX3_append 42 = .ok (.iadd, 1) := by decide +kernel
theorem dX3_append_43 : decode cX3_append 43 = .ok (.putfield 22, 3) := by decide +kernel
theorem dX3_append_46 : decode cX3_append 46 = .ok (.return_, 1) := by decide +kernel
theorem dX3_firstWrongStep_0 : decode cX3_firstWrongStep 0 = .ok (.aload_n 2, 1) := by decide +kernel
theorem dX3_firstWrongStep_1 : decode cX3_firstWrongStep 1 = .ok (.aload_n 1, 1) := by decide +kernel
theorem dX3_firstWrongStep_2 : decode cX3_firstWrongStep 2 = .ok (.invokevirtual 39, 3) := by decide +kernel
theorem dX3_firstWrongStep_5 : decode cX3_firstWrongStep 5 = .ok (.iconst 0, 1) := by decide +kernel
theorem dX3_firstWrongStep_6 : decode cX3_firstWrongStep 6 = .ok (.istore_n 3, 1) := by decide +kernel
theorem dX3_firstWrongStep_7 : decode cX3_firstWrongStep 7 = .ok (.iload_n 3, 1) := by decide +kernel
theorem dX3_firstWrongStep_8 : decode cX3_firstWrongStep 8 = .ok (.aload_n 0, 1) := by decide +kernel
theorem dX3_firstWrongStep_9 : decode cX3_firstWrongStep 9 = .ok (.getfield 22, 3) := by decide +kernel
theorem dX3_firstWrongStep_12 : decode cX3_firstWrongStep 12 = .ok (.if_icmp .ge 24, 3) := by decide +kernel
theorem dX3_firstWrongStep_15 : decode cX3_firstWrongStep 15 = .ok (.aload_n 2, 1) := by decide +kernel
theorem dX3_firstWrongStep_16 : decode cX3_firstWrongStep 16 = .ok (.aload_n 0, 1) := by decide +kernel
theorem dX3_firstWrongStep_17 : decode cX3_firstWrongStep 17 = .ok (.getfield 11, 3) := by decide +kernel
theorem dX3_firstWrongStep_20 : decode cX3_firstWrongStep 20 = .ok (.iload_n 3, 1) := by decide +kernel
theorem dX3_firstWrongStep_21 : decode cX3_firstWrongStep 21 = .ok (.aaload, 1) := by decide +kernel
theorem dX3_firstWrongStep_22 : decode cX3_firstWrongStep 22 = .ok (.invokevirtual 45, 3) := by decide +kernel
theorem dX3_firstWrongStep_25 : decode cX3_firstWrongStep 25 = .ok (.ifCond .ne 5, 3) := by decide +kernel
theorem dX3_firstWrongStep_28 : decode cX3_firstWrongStep 28 = .ok (.iload_n 3, 1) := by decide +kernel
theorem dX3_firstWrongStep_29 : decode cX3_firstWrongStep 29 = .ok (.ireturn, 1) := by decide +kernel
theorem dX3_firstWrongStep_30 : decode cX3_firstWrongStep 30 = .ok (.iinc 3 1, 3) := by decide +kernel
theorem dX3_firstWrongStep_33 : decode cX3_firstWrongStep 33 = .ok (.goto (-26), 3) := by decide +kernel
theorem dX3_firstWrongStep_36 : decode cX3_firstWrongStep 36 = .ok (.iconst (-1), 1) := by decide +kernel
theorem dX3_firstWrongStep_37 : decode cX3_firstWrongStep 37 = .ok (.ireturn, 1) := by decide +kernel
theorem dX3_makeUp_0 : decode cX3_makeUp 0 = .ok (.aload_n 2, 1) := by decide +kernel
theorem dX3_makeUp_1 : decode cX3_makeUp 1 = .ok (.aload_n 1, 1) := by decide +kernel
theorem dX3_makeUp_2 : decode cX3_makeUp 2 = .ok (.invokevirtual 49, 3) := by decide +kernel
theorem dX3_makeUp_5 : decode cX3_makeUp 5 = .ok (.iconst 0, 1) := by decide +kernel
theorem dX3_makeUp_6 : decode cX3_makeUp 6 = .ok (.istore_n 3, 1) := by decide +kernel
theorem dX3_makeUp_7 : decode cX3_makeUp 7 = .ok (.iload_n 3, 1) := by decide +kernel
theorem dX3_makeUp_8 : decode cX3_makeUp 8 = .ok (.aload_n 0, 1) := by decide +kernel
theorem dX3_makeUp_9 : decode cX3_makeUp 9 = .ok (.getfield 22, 3) := by decide +kernel
theorem dX3_makeUp_12 : decode cX3_makeUp 12 = .ok (.if_icmp .ge 19, 3) := by decide +kernel
theorem dX3_makeUp_15 : decode cX3_makeUp 15 = .ok (.aload_n 0, 1) := by decide +kernel
theorem dX3_makeUp_16 : decode cX3_makeUp 16 = .ok (.getfield 11, 3) := by decide +kernel
theorem dX3_makeUp_19 : decode cX3_makeUp 19 = .ok (.iload_n 3, 1) := by decide +kernel
theorem dX3_makeUp_20 : decode cX3_makeUp 20 = .ok (.aaload, 1) := by decide +kernel
theorem dX3_makeUp_21 : decode cX3_makeUp 21 = .ok (.aload_n 2, 1) := by decide +kernel
theorem dX3_makeUp_22 : decode cX3_makeUp 22 = .ok (.invokevirtual 54, 3) := by decide +kernel
theorem dX3_makeUp_25 : decode cX3_makeUp 25 = .ok (.iinc 3 1, 3) := by decide +kernel
theorem dX3_makeUp_28 : decode cX3_makeUp 28 = .ok (.goto (-21), 3) := by decide +kernel
theorem dX3_makeUp_31 : decode cX3_makeUp 31 = .ok (.return_, 1) := by decide +kernel
theorem dX3_makeDown_0 : decode cX3_makeDown 0 = .ok (.iconst 0, 1) := by decide +kernel
theorem dX3_makeDown_1 : decode cX3_makeDown 1 = .ok (.istore 4, 2) := by decide +kernel
theorem dX3_makeDown_3 : decode cX3_makeDown 3 = .ok (.iload 4, 2) := by decide +kernel
theorem dX3_makeDown_5 : decode cX3_makeDown 5 = .ok (.iload_n 3, 1) := by decide +kernel
theorem dX3_makeDown_6 : decode cX3_makeDown 6 = .ok (.if_icmp .ge 39, 3) := by decide +kernel
theorem dX3_makeDown_9 : decode cX3_makeDown 9 = .ok (.aload_n 0, 1) := by decide +kernel
theorem dX3_makeDown_10 : decode cX3_makeDown 10 = .ok (.iload 4, 2) := by decide +kernel
theorem dX3_makeDown_12 : decode cX3_makeDown 12 = .ok (.invokevirtual 57, 3) := by decide +kernel
theorem dX3_makeDown_15 : decode cX3_makeDown 15 = .ok (.istore 5, 2) := by decide +kernel
theorem dX3_makeDown_17 : decode cX3_makeDown 17 = .ok (.iload 5, 2) := by decide +kernel
theorem dX3_makeDown_19 : decode cX3_makeDown 19 = .ok (.iconst (-1), 1) := by decide +kernel
theorem dX3_makeDown_20 : decode cX3_makeDown 20 = .ok (.if_icmp .eq 19, 3) := by decide +kernel
theorem dX3_makeDown_23 : decode cX3_makeDown 23 = .ok (.aload_n 2, 1) := by decide +kernel
theorem dX3_makeDown_24 : decode cX3_makeDown 24 = .ok (.iload 4, 2) := by decide +kernel
theorem dX3_makeDown_26 : decode cX3_makeDown 26 = .ok (.aload_n 1, 1) := by decide +kernel
theorem dX3_makeDown_27 : decode cX3_makeDown 27 = .ok (.iload 5, 2) := by decide +kernel
theorem dX3_makeDown_29 : decode cX3_makeDown 29 = .ok (.invokevirtual 61, 3) := by decide +kernel
theorem dX3_makeDown_32 : decode cX3_makeDown 32 = .ok (.aload_n 0, 1) := by decide +kernel
theorem dX3_makeDown_33 : decode cX3_makeDown 33 = .ok (.aload_n 2, 1) := by decide +kernel
theorem dX3_makeDown_34 : decode cX3_makeDown 34 = .ok (.iload 4, 2) := by decide +kernel
theorem dX3_makeDown_36 : decode cX3_makeDown 36 = .ok (.invokevirtual 65, 3) := by decide +kernel
theorem dX3_makeDown_39 : decode cX3_makeDown 39 = .ok (.iinc 4 1, 3) := by decide +kernel
theorem dX3_makeDown_42 : decode cX3_makeDown 42 = .ok (.goto (-39), 3) := by decide +kernel
theorem dX3_makeDown_45 : decode cX3_makeDown 45 = .ok (.return_, 1) := by decide +kernel
theorem dX3_lastPlace_0 : decode cX3_lastPlace 0 = .ok (.iload_n 1, 1) := by decide +kernel
theorem dX3_lastPlace_1 : decode cX3_lastPlace 1 = .ok (.istore_n 2, 1) := by decide +kernel
theorem dX3_lastPlace_2 : decode cX3_lastPlace 2 = .ok (.iconst 0, 1) := by decide +kernel
theorem dX3_lastPlace_3 : decode cX3_lastPlace 3 = .ok (.istore_n 3, 1) := by decide +kernel
theorem dX3_lastPlace_4 : decode cX3_lastPlace 4 = .ok (.iload_n 3, 1) := by decide +kernel
theorem dX3_lastPlace_5 : decode cX3_lastPlace 5 = .ok (.aload_n 0, 1) := by decide +kernel
theorem dX3_lastPlace_6 : decode cX3_lastPlace 6 = .ok (.getfield 22, 3) := by decide +kernel
theorem dX3_lastPlace_9 : decode cX3_lastPlace 9 = .ok (.if_icmp .ge 32, 3) := by decide +kernel
theorem dX3_lastPlace_12 : decode cX3_lastPlace 12 = .ok (.iload_n 2, 1) := by decide +kernel
theorem dX3_lastPlace_13 : decode cX3_lastPlace 13 = .ok (.iconst (-1), 1) := by decide +kernel
theorem dX3_lastPlace_14 : decode cX3_lastPlace 14 = .ok (.if_icmp .eq 27, 3) := by decide +kernel
theorem dX3_lastPlace_17 : decode cX3_lastPlace 17 = .ok (.aload_n 0, 1) := by decide +kernel
theorem dX3_lastPlace_18 : decode cX3_lastPlace 18 = .ok (.getfield 17, 3) := by decide +kernel
theorem dX3_lastPlace_21 : decode cX3_lastPlace 21 = .ok (.iload_n 3, 1) := by decide +kernel
theorem dX3_lastPlace_22 : decode cX3_lastPlace 22 = .ok (.iload_n 2, 1) := by decide +kernel
theorem dX3_lastPlace_23 : decode cX3_lastPlace 23 = .ok (.iastore, 1) := by decide +kernel
theorem dX3_lastPlace_24 : decode cX3_lastPlace 24 = .ok (.aload_n 0, 1) := by decide +kernel
theorem dX3_lastPlace_25 : decode cX3_lastPlace 25 = .ok (.getfield 11, 3) := by decide +kernel
theorem dX3_lastPlace_28 : decode cX3_lastPlace 28 = .ok (.iload_n 3, 1) := by decide +kernel
theorem dX3_lastPlace_29 : decode cX3_lastPlace 29 = .ok (.aaload, 1) := by decide +kernel
theorem dX3_lastPlace_30 : decode cX3_lastPlace 30 = .ok (.iload_n 2, 1) := by decide +kernel
theorem dX3_lastPlace_31 : decode cX3_lastPlace 31 = .ok (.invokevirtual 69, 3) := by decide +kernel
theorem dX3_lastPlace_34 : decode cX3_lastPlace 34 = .ok (.istore_n 2, 1) := by decide +kernel
theorem dX3_lastPlace_35 : decode cX3_lastPlace 35 = .ok (.iinc 3 1, 3) := by decide +kernel
theorem dX3_lastPlace_38 : decode cX3_lastPlace 38 = .ok (.goto (-34), 3) := by decide +kernel
theorem dX3_lastPlace_41 : decode cX3_lastPlace 41 = .ok (.iload_n 2, 1) := by decide +kernel
theorem dX3_lastPlace_42 : decode cX3_lastPlace 42 = .ok (.ireturn, 1) := by decide +kernel
theorem dX3_makeBack_0 : decode cX3_makeBack 0 = .ok (.aload_n 0, 1) := by decide +kernel
theorem dX3_makeBack_1 : decode cX3_makeBack 1 = .ok (.getfield 22, 3) := by decide +kernel
theorem dX3_makeBack_4 : decode cX3_makeBack 4 = .ok (.iconst 1, 1) := by decide +kernel
theorem dX3_makeBack_5 : decode cX3_makeBack 5 = .ok (.isub, 1) := by decide +kernel
theorem dX3_makeBack_6 : decode cX3_makeBack 6 = .ok (.istore_n 3, 1) := by decide +kernel
theorem dX3_makeBack_7 : decode cX3_makeBack 7 = .ok (.iload_n 3, 1) := by decide +kernel
theorem dX3_makeBack_8 : decode cX3_makeBack 8 = .ok (.ifCond .lt 55, 3) := by decide +kernel
theorem dX3_makeBack_11 : decode cX3_makeBack 11 = .ok (.aload_n 0, 1) := by decide +kernel
theorem dX3_makeBack_12 : decode cX3_makeBack 12 = .ok (.getfield 11, 3) := by decide +kernel
theorem dX3_makeBack_15 : decode cX3_makeBack 15 = .ok (.iload_n 3, 1) := by decide +kernel
theorem dX3_makeBack_16 : decode cX3_makeBack 16 = .ok (.aaload, 1) := by decide +kernel
theorem dX3_makeBack_17 : decode cX3_makeBack 17 = .ok (.astore 4, 2) := by decide +kernel
theorem dX3_makeBack_19 : decode cX3_makeBack 19 = .ok (.aload 4, 2) := by decide +kernel
theorem dX3_makeBack_21 : decode cX3_makeBack 21 = .ok (.getfield 26, 3) := by decide +kernel
theorem dX3_makeBack_24 : decode cX3_makeBack 24 = .ok (.iconst 3, 1) := by decide +kernel
theorem dX3_makeBack_25 : decode cX3_makeBack 25 = .ok (.if_icmp .ne 32, 3) := by decide +kernel
theorem dX3_makeBack_28 : decode cX3_makeBack 28 = .ok (.aload 4, 2) := by decide +kernel
theorem dX3_makeBack_30 : decode cX3_makeBack 30 = .ok (.getfield 72, 3) := by decide +kernel
theorem dX3_makeBack_33 : decode cX3_makeBack 33 = .ok (.aload_n 0, 1) := by decide +kernel
theorem dX3_makeBack_34 : decode cX3_makeBack 34 = .ok (.getfield 17, 3) := by decide +kernel
theorem dX3_makeBack_37 : decode cX3_makeBack 37 = .ok (.iload_n 3, 1) := by decide +kernel
theorem dX3_makeBack_38 : decode cX3_makeBack 38 = .ok (.iaload, 1) := by decide +kernel
theorem dX3_makeBack_39 : decode cX3_makeBack 39 = .ok (.if_icmp .ne 18, 3) := by decide +kernel
theorem dX3_makeBack_42 : decode cX3_makeBack 42 = .ok (.aload_n 1, 1) := by decide +kernel
theorem dX3_makeBack_43 : decode cX3_makeBack 43 = .ok (.iload_n 2, 1) := by decide +kernel
theorem dX3_makeBack_44 : decode cX3_makeBack 44 = .ok (.aload 4, 2) := by decide +kernel
theorem dX3_makeBack_46 : decode cX3_makeBack 46 = .ok (.getfield 32, 3) := by decide +kernel
theorem dX3_makeBack_49 : decode cX3_makeBack 49 = .ok (.aload 4, 2) := by decide +kernel
theorem dX3_makeBack_51 : decode cX3_makeBack 51 = .ok (.getfield 75, 3) := by decide +kernel
theorem dX3_makeBack_54 : decode cX3_makeBack 54 = .ok (.invokevirtual 78, 3) := by decide +kernel
theorem dX3_makeBack_57 : decode cX3_makeBack 57 = .ok (.iinc 3 (-1), 3) := by decide +kernel
theorem dX3_makeBack_60 : decode cX3_makeBack 60 = .ok (.goto (-53), 3) := by decide +kernel
theorem dX3_makeBack_63 : decode cX3_makeBack 63 = .ok (.return_, 1) := by decide +kernel
theorem dX4_init_0 : decode cX4_init 0 = .ok (.aload_n 0, 1) := by decide +kernel
theorem dX4_init_1 : decode cX4_init 1 = .ok (.invokespecial 3, 3) := by decide +kernel
theorem dX4_init_4 : decode cX4_init 4 = .ok (.aload_n 0, 1) := by decide +kernel
theorem dX4_init_5 : decode cX4_init 5 = .ok (.new 9, 3) := by decide +kernel
theorem dX4_init_8 : decode cX4_init 8 = .ok (.dup, 1) := by decide +kernel
theorem dX4_init_9 : decode cX4_init 9 = .ok (.invokespecial 11, 3) := by decide +kernel
theorem dX4_init_12 : decode cX4_init 12 = .ok (.putfield 12, 3) := by decide +kernel
theorem dX4_init_15 : decode cX4_init 15 = .ok (.aload_n 0, 1) := by decide +kernel
theorem dX4_init_16 : decode cX4_init 16 = .ok (.new 9, 3) := by decide +kernel
theorem dX4_init_19 : decode cX4_init 19 = .ok (.dup, 1) := by decide +kernel
theorem dX4_init_20 : decode cX4_init 20 = .ok (.invokespecial 11, 3) := by decide +kernel
theorem dX4_init_23 : decode cX4_init 23 = .ok (.putfield 18, 3) := by decide +kernel
theorem dX4_init_26 : decode cX4_init 26 = .ok (.return_, 1) := by decide +kernel
theorem dX4_startUnder_0 : decode cX4_startUnder 0 = .ok (.aload_n 0, 1) := by decide +kernel
theorem dX4_startUnder_1 : decode cX4_startUnder 1 = .ok (.iload_n 1, 1) := by decide +kernel
theorem dX4_startUnder_2 : decode cX4_startUnder 2 = .ok (.putfield 21, 3) := by decide +kernel
theorem dX4_startUnder_5 : decode cX4_startUnder 5 = .ok (.aload_n 0, 1) := by decide +kernel
theorem dX4_startUnder_6 : decode cX4_startUnder 6 = .ok (.iconst 0, 1) := by decide +kernel
theorem dX4_startUnder_7 : decode cX4_startUnder 7 = .ok (.putfield 25, 3) := by decide +kernel
theorem dX4_startUnder_10 : decode cX4_startUnder 10 = .ok (.aload_n 0, 1) := by decide +kernel
theorem dX4_startUnder_11 : decode cX4_startUnder 11 = .ok (.getfield 12, 3) := by decide +kernel
theorem dX4_startUnder_14 : decode cX4_startUnder 14 = .ok (.invokevirtual 28, 3) := by decide +kernel
theorem dX4_startUnder_17 : decode cX4_startUnder 17 = .ok (.return_, 1) := by decide +kernel
theorem dX4_diskPlaces_0 : decode cX4_diskPlaces 0 = .ok (.aload_n 0, 1) := by decide +kernel
theorem dX4_diskPlaces_1 : decode cX4_diskPlaces 1 = .ok (.getfield 25, 3) := by decide +kernel
theorem dX4_diskPlaces_4 : decode cX4_diskPlaces 4 = .ok (.iconst 2, 1) := by decide +kernel
theorem dX4_diskPlaces_5 : decode cX4_diskPlaces 5 = .ok (.if_icmp .ne 7, 3) := by decide +kernel
theorem dX4_diskPlaces_8 : decode cX4_diskPlaces 8 = .ok (.iconst 2, 1) := by decide +kernel
theorem dX4_diskPlaces_9 : decode cX4_diskPlaces 9 = .ok (.goto 4, 3) := by decide +kernel
theorem dX4_diskPlaces_12 : decode cX4_diskPlaces 12 = .ok (.iconst 1, 1) := by decide +kernel
theorem dX4_diskPlaces_13 : decode cX4_diskPlaces 13 = .ok (.ireturn, 1) := by decide +kernel
theorem dX4_markWritten_0 : decode cX4_markWritten 0 = .ok (.aload_n 0, 1) := by decide +kernel
theorem dX4_markWritten_1 : decode cX4_markWritten 1 = .ok (.iconst 0, 1) := by decide +kernel
theorem dX4_markWritten_2 : decode cX4_markWritten 2 = .ok (.putfield 31, 3) := by decide +kernel
theorem dX4_markWritten_5 : decode cX4_markWritten 5 = .ok (.aload_n 0, 1) := by decide +kernel
theorem dX4_markWritten_6 : decode cX4_markWritten 6 = .ok (.getfield 25, 3) := by decide +kernel
theorem dX4_markWritten_9 : decode cX4_markWritten 9 = .ok (.iconst 1, 1) := by decide +kernel
theorem dX4_markWritten_10 : decode cX4_markWritten 10 = .ok (.if_icmp .ne 8, 3) := by decide +kernel
theorem dX4_markWritten_13 : decode cX4_markWritten 13 = .ok (.aload_n 0, 1) := by decide +kernel
theorem dX4_markWritten_14 : decode cX4_markWritten 14 = .ok (.iconst 0, 1) := by decide +kernel
theorem dX4_markWritten_15 : decode cX4_markWritten 15 = .ok (.putfield 25, 3) := by decide +kernel
theorem dX4_markWritten_18 : decode cX4_markWritten 18 = .ok (.return_, 1) := by decide +kernel
theorem dX4_markBegun_0 : decode cX4_markBegun 0 = .ok (.aload_n 0, 1) := by decide +kernel
theorem dX4_markBegun_1 : decode cX4_markBegun 1 = .ok (.aload_n 0, 1) := by decide +kernel
theorem dX4_markBegun_2 : decode cX4_markBegun 2 = .ok (.getfield 25, 3) := by decide +kernel
theorem dX4_markBegun_5 : decode cX4_markBegun 5 = .ok (.iconst 1, 1) := by decide +kernel
theorem dX4_markBegun_6 : decode cX4_markBegun 6 = .ok (.if_icmp .ne 7, 3) := by decide +kernel
theorem dX4_markBegun_9 : decode cX4_markBegun 9 = .ok (.iconst 1, 1) := by decide +kernel
theorem dX4_markBegun_10 : decode cX4_markBegun 10 = .ok (.goto 4, 3) := by decide +kernel
theorem dX4_markBegun_13 : decode cX4_markBegun 13 = .ok (.iconst 0, 1) := by decide +kernel
theorem dX4_markBegun_14 : decode cX4_markBegun 14 = .ok (.putfield 31, 3) := by decide +kernel
theorem dX4_markBegun_17 : decode cX4_markBegun 17 = .ok (.aload_n 0, 1) := by decide +kernel
theorem dX4_markBegun_18 : decode cX4_markBegun 18 = .ok (.iconst 1, 1) := by decide +kernel
theorem dX4_markBegun_19 : decode cX4_markBegun 19 = .ok (.putfield 25, 3) := by decide +kernel
theorem dX4_markBegun_22 : decode cX4_markBegun 22 = .ok (.return_, 1) := by decide +kernel
theorem dX4_keepFresh_0 : decode cX4_keepFresh 0 = .ok (.aload_n 0, 1) := by decide +kernel
theorem dX4_keepFresh_1 : decode cX4_keepFresh 1 = .ok (.getfield 12, 3) := by decide +kernel
theorem dX4_keepFresh_4 : decode cX4_keepFresh 4 = .ok (.astore_n 1, 1) := by decide +kernel
theorem dX4_keepFresh_5 : decode cX4_keepFresh 5 = .ok (.aload_n 0, 1) := by decide +kernel
theorem dX4_keepFresh_6 : decode cX4_keepFresh 6 = .ok (.aload_n 0, 1) := by decide +kernel
theorem dX4_keepFresh_7 : decode cX4_keepFresh 7 = .ok (.getfield 18, 3) := by decide +kernel
theorem dX4_keepFresh_10 : decode cX4_keepFresh 10 = .ok (.putfield 12, 3) := by decide +kernel
theorem dX4_keepFresh_13 : decode cX4_keepFresh 13 = .ok (.aload_n 0, 1) := by decide +kernel
theorem dX4_keepFresh_14 : decode cX4_keepFresh 14 = .ok (.aload_n 1, 1) := by decide +kernel
theorem dX4_keepFresh_15 : decode cX4_keepFresh 15 = .ok (.putfield 18, 3) := by decide +kernel
theorem dX4_keepFresh_18 : decode cX4_keepFresh 18 = .ok (.aload_n 0, 1) := by decide +kernel
theorem dX4_keepFresh_19 : decode cX4_keepFresh 19 = .ok (.aload_n 0, 1) := by decide +kernel
theorem dX4_keepFresh_20 : decode cX4_keepFresh 20 = .ok (.getfield 25, 3) := by decide +kernel
theorem dX4_keepFresh_23 : decode cX4_keepFresh 23 = .ok (.iconst 1, 1) := by decide +kernel
theorem dX4_keepFresh_24 : decode cX4_keepFresh 24 = .ok (.if_icmp .ne 7, 3) := by decide +kernel
theorem dX4_keepFresh_27 : decode cX4_keepFresh 27 = .ok (.iconst 1, 1) := by decide +kernel
theorem dX4_keepFresh_28 : decode cX4_keepFresh 28 = .ok (.goto 4, 3) := by decide +kernel
theorem dX4_keepFresh_31 : decode cX4_keepFresh 31 = .ok (.iconst 2, 1) := by decide +kernel
theorem dX4_keepFresh_32 : decode cX4_keepFresh 32 = .ok (.putfield 25, 3) := by decide +kernel
theorem dX4_keepFresh_35 : decode cX4_keepFresh 35 = .ok (.return_, 1) := by decide +kernel
theorem dX4_keepPrior_0 : decode cX4_keepPrior 0 = .ok (.aload_n 0, 1) := by decide +kernel
theorem dX4_keepPrior_1 : decode cX4_keepPrior 1 = .ok (.aload_n 0, 1) := by decide +kernel
theorem dX4_keepPrior_2 : decode cX4_keepPrior 2 = .ok (.getfield 31, 3) := by decide +kernel
theorem dX4_keepPrior_5 : decode cX4_keepPrior 5 = .ok (.ifCond .eq 7, 3) := by decide +kernel
theorem dX4_keepPrior_8 : decode cX4_keepPrior 8 = .ok (.iconst 1, 1) := by decide +kernel
theorem dX4_keepPrior_9 : decode cX4_keepPrior 9 = .ok (.goto 4, 3) := by decide +kernel
theorem dX4_keepPrior_12 : decode cX4_keepPrior 12 = .ok (.iconst 0, 1) := by decide +kernel
theorem dX4_keepPrior_13 : decode cX4_keepPrior 13 = .ok (.putfield 25, 3) := by decide +kernel
theorem dX4_keepPrior_16 : decode cX4_keepPrior 16 = .ok (.return_, 1) := by decide +kernel
theorem dX5_init_0 : decode cX5_init 0 = .ok (.aload_n 0, 1) := by decide +kernel
theorem dX5_init_1 : decode cX5_init 1 = .ok (.invokespecial 3, 3) := by decide +kernel
theorem dX5_init_4 : decode cX5_init 4 = .ok (.aload_n 0, 1) := by decide +kernel
theorem dX5_init_5 : decode cX5_init 5 = .ok (.bipush 8, 2) := by decide +kernel
theorem dX5_init_7 : decode cX5_init 7 = .ok (.newarray .int, 2) := by decide +kernel
theorem dX5_init_9 : decode cX5_init 9 = .ok (.putfield 9, 3) := by decide +kernel
theorem dX5_init_12 : decode cX5_init 12 = .ok (.aload_n 0, 1) := by decide +kernel
theorem dX5_init_13 : decode cX5_init 13 = .ok (.bipush 8, 2) := by decide +kernel
theorem dX5_init_15 : decode cX5_init 15 = .ok (.newarray .int, 2) := by decide +kernel
theorem dX5_init_17 : decode cX5_init 17 = .ok (.putfield 15, 3) := by decide +kernel
theorem dX5_init_20 : decode cX5_init 20 = .ok (.return_, 1) := by decide +kernel
theorem dX5_copyFrom_0 : decode cX5_copyFrom 0 = .ok (.aload_n 1, 1) := by decide +kernel
theorem dX5_copyFrom_1 : decode cX5_copyFrom 1 = .ok (.getfield 9, 3) := by decide +kernel
theorem dX5_copyFrom_4 : decode cX5_copyFrom 4 = .ok (.iconst 0, 1) := by decide +kernel
theorem dX5_copyFrom_5 : decode cX5_copyFrom 5 = .ok (.aload_n 0, 1) := by decide +kernel
theorem dX5_copyFrom_6 : decode cX5_copyFrom 6 = .ok (.getfield 9, 3) := by decide +kernel
theorem dX5_copyFrom_9 : decode cX5_copyFrom 9 = .ok (.iconst 0, 1) := by decide +kernel
theorem dX5_copyFrom_10 : decode cX5_copyFrom 10 = .ok (.bipush 8, 2) := by decide +kernel
theorem dX5_copyFrom_12 : decode cX5_copyFrom 12 = .ok (.invokestatic 18, 3) := by decide +kernel
theorem dX5_copyFrom_15 : decode cX5_copyFrom 15 = .ok (.aload_n 1, 1) := by decide +kernel
theorem dX5_copyFrom_16 : decode cX5_copyFrom 16 = .ok (.getfield 15, 3) := by decide +kernel
theorem dX5_copyFrom_19 : decode cX5_copyFrom 19 = .ok (.iconst 0, 1) := by decide +kernel
theorem dX5_copyFrom_20 : decode cX5_copyFrom 20 = .ok (.aload_n 0, 1) := by decide +kernel
theorem dX5_copyFrom_21 : decode cX5_copyFrom 21 = .ok (.getfield 15, 3) := by decide +kernel
theorem dX5_copyFrom_24 : decode cX5_copyFrom 24 = .ok (.iconst 0, 1) := by decide +kernel
theorem dX5_copyFrom_25 : decode cX5_copyFrom 25 = .ok (.bipush 8, 2) := by decide +kernel
theorem dX5_copyFrom_27 : decode cX5_copyFrom 27 = .ok (.invokestatic 18, 3) := by decide +kernel
theorem dX5_copyFrom_30 : decode cX5_copyFrom 30 = .ok (.aload_n 0, 1) := by decide +kernel
theorem dX5_copyFrom_31 : decode cX5_copyFrom 31 = .ok (.aload_n 1, 1) := by decide +kernel
theorem dX5_copyFrom_32 : decode cX5_copyFrom 32 = .ok (.getfield 24, 3) := by decide +kernel
theorem dX5_copyFrom_35 : decode cX5_copyFrom 35 = .ok (.putfield 24, 3) := by decide +kernel
theorem dX5_copyFrom_38 : decode cX5_copyFrom 38 = .ok (.return_, 1) := by decide +kernel
theorem dX5_change_0 : decode cX5_change 0 = .ok (.aload_n 0, 1) := by decide +kernel
theorem dX5_change_1 : decode cX5_change 1 = .ok (.aload_n 1, 1) := by decide +kernel
theorem dX5_change_2 : decode cX5_change 2 = .ok (.getfield 28, 3) := by decide +kernel
theorem dX5_change_5 : decode cX5_change 5 = .ok (.invokevirtual 33, 3) := by decide +kernel
theorem dX5_change_8 : decode cX5_change 8 = .ok (.istore_n 2, 1) := by decide +kernel
theorem dX5_change_9 : decode cX5_change 9 = .ok (.aload_n 1, 1) := by decide +kernel
theorem dX5_change_10 : decode cX5_change 10 = .ok (.getfield 37, 3) := by decide +kernel
theorem dX5_change_13 : decode cX5_change 13 = .ok (.ifCond .ne 21, 3) := by decide +kernel
theorem dX5_change_16 : decode cX5_change 16 = .ok (.iload_n 2, 1) := by decide +kernel
theorem dX5_change_17 : decode cX5_change 17 = .ok (.ifCond .ge 15, 3) := by decide +kernel
theorem dX5_change_20 : decode cX5_change 20 = .ok (.aload_n 0, 1) := by decide +kernel
theorem dX5_change_21 : decode cX5_change 21 = .ok (.aload_n 1, 1) := by decide +kernel
theorem dX5_change_22 : decode cX5_change 22 = .ok (.invokevirtual 40, 3) := by decide +kernel
theorem dX5_change_25 : decode cX5_change 25 = .ok (.ifCond .eq 7, 3) := by decide +kernel
theorem dX5_change_28 : decode cX5_change 28 = .ok (.iconst 1, 1) := by decide +kernel
theorem dX5_change_29 : decode cX5_change 29 = .ok (.goto 4, 3) := by decide +kernel
theorem dX5_change_32 : decode cX5_change 32 = .ok (.iconst 0, 1) := by decide +kernel
theorem dX5_change_33 : decode cX5_change 33 = .ok (.ireturn, 1) := by decide +kernel
theorem dX5_change_34 : decode cX5_change 34 = .ok (.iload_n 2, 1) := by decide +kernel
theorem dX5_change_35 : decode cX5_change 35 = .ok (.ifCond .ge 5, 3) := by decide +kernel
theorem dX5_change_38 : decode cX5_change 38 = .ok (.iconst 0, 1) := by decide +kernel
theorem dX5_change_39 : decode cX5_change 39 = .ok (.ireturn, 1) := by decide +kernel
theorem dX5_change_40 : decode cX5_change 40 = .ok (.aload_n 1, 1) := by decide +kernel
theorem dX5_change_41 : decode cX5_change 41 = .ok (.iload_n 2, 1) := by decide +kernel
theorem dX5_change_42 : decode cX5_change 42 = .ok (.putfield 44, 3) := by decide +kernel
theorem dX5_change_45 : decode cX5_change 45 = .ok (.aload_n 1, 1) := by decide +kernel
theorem dX5_change_46 : decode cX5_change 46 = .ok (.aload_n 0, 1) := by decide +kernel
theorem dX5_change_47 : decode cX5_change 47 = .ok (.getfield 15, 3) := by decide +kernel
theorem dX5_change_50 : decode cX5_change 50 = .ok (.iload_n 2, 1) := by decide +kernel
theorem dX5_change_51 : decode cX5_change 51 = .ok (.iaload, 1) := by decide +kernel
theorem dX5_change_52 : decode cX5_change 52 = .ok (.putfield 47, 3) := by decide +kernel
theorem dX5_change_55 : decode cX5_change 55 = .ok (.aload_n 1, 1) := by decide +kernel
theorem dX5_change_56 : decode cX5_change 56 = .ok (.getfield 37, 3) := by decide +kernel
theorem dX5_change_59 : decode cX5_change 59 = .ok (.lookupswitch 42 #[(1, 25), (2, 32)], 25) := by decide +kernel
theorem dX5_change_84 : decode cX5_change 84 = .ok (.aload_n 0, 1) := by decide +kernel
theorem dX5_change_85 : decode cX5_change 85 = .ok (.iload_n 2, 1) := by decide +kernel
theorem dX5_change_86 : decode cX5_change 86 = .ok (.invokevirtual 50, 3) := by decide +kernel
theorem dX5_change_89 : decode cX5_change 89 = .ok (.iconst 1, 1) := by decide +kernel
theorem dX5_change_90 : decode cX5_change 90 = .ok (.ireturn, 1) := by decide +kernel
theorem dX5_change_91 : decode cX5_change 91 = .ok (.aload_n 0, 1) := by decide +kernel
theorem dX5_change_92 : decode cX5_change 92 = .ok (.iload_n 2, 1) := by decide +kernel
theorem dX5_change_93 : decode cX5_change 93 = .ok (.aload_n 1, 1) := by decide +kernel
theorem dX5_change_94 : decode cX5_change 94 = .ok (.getfield 54, 3) := by decide +kernel
theorem dX5_change_97 : decode cX5_change 97 = .ok (.invokevirtual 57, 3) := by decide +kernel
theorem dX5_change_100 : decode cX5_change 100 = .ok (.ireturn, 1) := by decide +kernel
theorem dX5_change_101 : decode cX5_change 101 = .ok (.aload_n 0, 1) := by decide +kernel
theorem dX5_change_102 : decode cX5_change 102 = .ok (.iload_n 2, 1) := by decide +kernel
theorem dX5_change_103 : decode cX5_change 103 = .ok (.aload_n 1, 1) := by decide +kernel
theorem dX5_change_104 : decode cX5_change 104 = .ok (.getfield 54, 3) := by decide +kernel
theorem dX5_change_107 : decode cX5_change 107 = .ok (.invokevirtual 61, 3) := by decide +kernel
theorem dX5_change_110 : decode cX5_change 110 = .ok (.ireturn, 1) := by decide +kernel
theorem dX5_placeOf_0 : decode cX5_placeOf 0 = .ok (.iconst 0, 1) := by decide +kernel
theorem dX5_placeOf_1 : decode cX5_placeOf 1 = .ok (.istore_n 2, 1) := by decide +kernel
theorem dX5_placeOf_2 : decode cX5_placeOf 2 = .ok (.iload_n 2, 1) := by decide +kernel
theorem dX5_placeOf_3 : decode cX5_placeOf 3 = .ok (.aload_n 0, 1) := by decide +kernel
theorem dX5_placeOf_4 : decode cX5_placeOf 4 = .ok (.getfield 24, 3) := by decide +kernel
theorem dX5_placeOf_7 : decode cX5_placeOf 7 = .ok (.if_icmp .ge 21, 3) := by decide +kernel
theorem dX5_placeOf_10 : decode cX5_placeOf 10 = .ok (.aload_n 0, 1) := by decide +kernel
theorem dX5_placeOf_11 : decode cX5_placeOf 11 = .ok (.getfield 9, 3) := by decide +kernel
theorem dX5_placeOf_14 : decode cX5_placeOf 14 = .ok (.iload_n 2, 1) := by decide +kernel
theorem dX5_placeOf_15 : decode cX5_placeOf 15 = .ok (.iaload, 1) := by decide +kernel
theorem dX5_placeOf_16 : decode cX5_placeOf 16 = .ok (.iload_n 1, 1) := by decide +kernel
theorem dX5_placeOf_17 : decode cX5_placeOf 17 = .ok (.if_icmp .ne 5, 3) := by decide +kernel
theorem dX5_placeOf_20 : decode cX5_placeOf 20 = .ok (.iload_n 2, 1) := by decide +kernel
theorem dX5_placeOf_21 : decode cX5_placeOf 21 = .ok (.ireturn, 1) := by decide +kernel
theorem dX5_placeOf_22 : decode cX5_placeOf 22 = .ok (.iinc 2 1, 3) := by decide +kernel
theorem dX5_placeOf_25 : decode cX5_placeOf 25 = .ok (.goto (-23), 3) := by decide +kernel
theorem dX5_placeOf_28 : decode cX5_placeOf 28 = .ok (.iconst (-1), 1) := by decide +kernel
theorem dX5_placeOf_29 : decode cX5_placeOf 29 = .ok (.ireturn, 1) := by decide +kernel
theorem dX5_addColumn_0 : decode cX5_addColumn 0 = .ok (.aload_n 0, 1) := by decide +kernel
theorem dX5_addColumn_1 : decode cX5_addColumn 1 = .ok (.getfield 24, 3) := by decide +kernel
theorem dX5_addColumn_4 : decode cX5_addColumn 4 = .ok (.bipush 8, 2) := by decide +kernel
theorem dX5_addColumn_6 : decode cX5_addColumn 6 = .ok (.if_icmp .lt 5, 3) := by decide +kernel
theorem dX5_addColumn_9 : decode cX5_addColumn 9 = .ok (.iconst 0, 1) := by decide +kernel
theorem dX5_addColumn_10 : decode cX5_addColumn 10 = .ok (.ireturn, 1) := by decide +kernel
theorem dX5_addColumn_11 : decode cX5_addColumn 11 = .ok (.aload_n 1, 1) := by decide +kernel
theorem dX5_addColumn_12 : decode cX5_addColumn 12 = .ok (.aload_n 0, 1) := by decide +kernel
theorem dX5_addColumn_13 : decode cX5_addColumn 13 = .ok (.getfield 24, 3) := by decide +kernel
theorem dX5_addColumn_16 : decode cX5_addColumn 16 = .ok (.putfield 44, 3) := by decide +kernel
theorem dX5_addColumn_19 : decode cX5_addColumn 19 = .ok (.aload_n 0, 1) := by decide +kernel
theorem dX5_addColumn_20 : decode cX5_addColumn 20 = .ok (.getfield 9, 3) := by decide +kernel
theorem dX5_addColumn_23 : decode cX5_addColumn 23 = .ok (.aload_n 0, 1) := by decide +kernel
theorem dX5_addColumn_24 : decode cX5_addColumn 24 = .ok (.getfield 24, 3) := by decide +kernel
theorem dX5_addColumn_27 : decode cX5_addColumn 27 = .ok (.aload_n 1, 1) := by decide +kernel
theorem dX5_addColumn_28 : decode cX5_addColumn 28 = .ok (.getfield 28, 3) := by decide +kernel
theorem dX5_addColumn_31 : decode cX5_addColumn 31 = .ok (.iastore, 1) := by decide +kernel
theorem dX5_addColumn_32 : decode cX5_addColumn 32 = .ok (.aload_n 0, 1) := by decide +kernel
theorem dX5_addColumn_33 : decode cX5_addColumn 33 = .ok (.getfield 15, 3) := by decide +kernel
theorem dX5_addColumn_36 : decode cX5_addColumn 36 = .ok (.aload_n 0, 1) := by decide +kernel
theorem dX5_addColumn_37 : decode cX5_addColumn 37 = .ok (.getfield 24, 3) := by decide +kernel
theorem dX5_addColumn_40 : decode cX5_addColumn 40 = .ok (.aload_n 1, 1) := by decide +kernel
theorem dX5_addColumn_41 : decode cX5_addColumn 41 = .ok (.getfield 54, 3) := by decide +kernel
theorem dX5_addColumn_44 : decode cX5_addColumn 44 = .ok (.iastore, 1) := by decide +kernel
theorem dX5_addColumn_45 : decode cX5_addColumn 45 = .ok (.aload_n 0, 1) := by decide +kernel
theorem dX5_addColumn_46 : decode cX5_addColumn 46 = .ok (.dup, 1) := by decide +kernel
theorem dX5_addColumn_47 : decode cX5_addColumn 47 = .ok (.getfield 24, 3) := by decide +kernel
theorem dX5_addColumn_50 : decode cX5_addColumn 50 = .ok (.iconst 1, 1) := by decide +kernel
theorem dX5_addColumn_51 : decode cX5_addColumn 51 = .ok (.iadd, 1) := by decide +kernel
theorem dX5_addColumn_52 : decode cX5_addColumn 52 = .ok (.putfield 24, 3) := by decide +kernel
theorem dX5_addColumn_55 : decode cX5_addColumn 55 = .ok (.iconst 1, 1) := by decide +kernel
theorem dX5_addColumn_56 : decode cX5_addColumn 56 = .ok (.ireturn, 1) := by decide +kernel
theorem dX5_dropColumn_0 : decode cX5_dropColumn 0 = .ok (.aload_n 0, 1) := by decide +kernel
theorem dX5_dropColumn_1 : decode cX5_dropColumn 1 = .ok (.getfield 24, 3) := by decide +kernel
theorem dX5_dropColumn_4 : decode cX5_dropColumn 4 = .ok (.iload_n 1, 1) := by decide +kernel
theorem dX5_dropColumn_5 : decode cX5_dropColumn 5 = .ok (.isub, 1) := by decide +kernel
theorem dX5_dropColumn_6 : decode cX5_dropColumn 6 = .ok (.iconst 1, 1) := by decide +kernel
theorem dX5_dropColumn_7 : decode cX5_dropColumn 7 = .ok (.isub, 1) := by decide +kernel
theorem dX5_dropColumn_8 : decode cX5_dropColumn 8 = .ok (.istore_n 2, 1) := by decide +kernel
theorem dX5_dropColumn_9 : decode cX5_dropColumn 9 = .ok (.aload_n 0, 1) := by decide +kernel
theorem dX5_dropColumn_10 : decode cX5_dropColumn 10 = .ok (.getfield 9, 3) := by decide +kernel
theorem dX5_dropColumn_13 : decode cX5_dropColumn 13 = .ok (.iload_n 1, 1) := by decide +kernel
theorem dX5_dropColumn_14 : decode cX5_dropColumn 14 = .ok (.iconst 1, 1) := by decide +kernel
theorem dX5_dropColumn_15 : decode cX5_dropColumn 15 = .ok (.iadd, 1) := by decide +kernel
theorem dX5_dropColumn_16 : decode cX5_dropColumn 16 = .ok (.aload_n 0, 1) := by decide +kernel
theorem dX5_dropColumn_17 : decode cX5_dropColumn 17 = .ok (.getfield 9, 3) := by decide +kernel
theorem dX5_dropColumn_20 : decode cX5_dropColumn 20 = .ok (.iload_n 1, 1) := by decide +kernel
theorem dX5_dropColumn_21 : decode cX5_dropColumn 21 = .ok (.iload_n 2, 1) := by decide +kernel
theorem dX5_dropColumn_22 : decode cX5_dropColumn 22 = .ok (.invokestatic 18, 3) := by decide +kernel
theorem dX5_dropColumn_25 : decode cX5_dropColumn 25 = .ok (.aload_n 0, 1) := by decide +kernel
theorem dX5_dropColumn_26 : decode cX5_dropColumn 26 = .ok (.getfield 15, 3) := by decide +kernel
theorem dX5_dropColumn_29 : decode cX5_dropColumn 29 = .ok (.iload_n 1, 1) := by decide +kernel
theorem dX5_dropColumn_30 : decode cX5_dropColumn 30 = .ok (.iconst 1, 1) := by decide +kernel
theorem dX5_dropColumn_31 : decode cX5_dropColumn 31 = .ok (.iadd, 1) := by decide +kernel
theorem dX5_dropColumn_32 : decode cX5_dropColumn 32 = .ok (.aload_n 0, 1) := by decide +kernel
theorem dX5_dropColumn_33 : decode cX5_dropColumn 33 = .ok (.getfield 15, 3) := by decide +kernel
theorem dX5_dropColumn_36 : decode cX5_dropColumn 36 = .ok (.iload_n 1, 1) := by decide +kernel
theorem dX5_dropColumn_37 : decode cX5_dropColumn 37 = .ok (.iload_n 2, 1) := by decide +kernel
theorem dX5_dropColumn_38 : decode cX5_dropColumn 38 = .ok (.invokestatic 18, 3) := by decide +kernel
theorem dX5_dropColumn_41 : decode cX5_dropColumn 41 = .ok (.aload_n 0, 1) := by decide +kernel
theorem dX5_dropColumn_42 : decode cX5_dropColumn 42 = .ok (.dup, 1) := by decide +kernel
theorem dX5_dropColumn_43 : decode cX5_dropColumn 43 = .ok (.getfield 24, 3) := by decide +kernel
theorem dX5_dropColumn_46 : decode cX5_dropColumn 46 = .ok (.iconst 1, 1) := by decide +kernel
theorem dX5_dropColumn_47 : decode cX5_dropColumn 47 = .ok (.isub, 1) := by decide +kernel
theorem dX5_dropColumn_48 : decode cX5_dropColumn 48 = .ok (.putfield 24, 3) := by decide +kernel
theorem dX5_dropColumn_51 : decode cX5_dropColumn 51 = .ok (.return_, 1) := by decide +kernel
theorem dX5_renameColumn_0 : decode cX5_renameColumn 0 = .ok (.aload_n 0, 1) := by decide +kernel
theorem dX5_renameColumn_1 : decode cX5_renameColumn 1 = .ok (.iload_n 2, 1) := by decide +kernel
theorem dX5_renameColumn_2 : decode cX5_renameColumn 2 = .ok (.invokevirtual 33, 3) := by decide +kernel
theorem dX5_renameColumn_5 : decode cX5_renameColumn 5 = .ok (.ifCond .lt 5, 3) := by decide +kernel
theorem dX5_renameColumn_8 : decode cX5_renameColumn 8 = .ok (.iconst 0, 1) := by decide +kernel
theorem dX5_renameColumn_9 : decode cX5_renameColumn 9 = .ok (.ireturn, 1) := by decide +kernel
theorem dX5_renameColumn_10 : decode cX5_renameColumn 10 = .ok (.aload_n 0, 1) := by decide +kernel
theorem dX5_renameColumn_11 : decode cX5_renameColumn 11 = .ok (.getfield 9, 3) := by decide +kernel
theorem dX5_renameColumn_14 : decode cX5_renameColumn 14 = .ok (.iload_n 1, 1) := by decide +kernel
theorem dX5_renameColumn_15 : decode cX5_renameColumn 15 = .ok (.iload_n 2, 1) := by decide +kernel
theorem dX5_renameColumn_16 : decode cX5_renameColumn 16 = .ok (.iastore, 1) := by decide +kernel
theorem dX5_renameColumn_17 : decode cX5_renameColumn 17 = .ok (.iconst 1, 1) := by decide +kernel
theorem dX5_renameColumn_18 : decode cX5_renameColumn 18 = .ok (.ireturn, 1) := by decide +kernel
theorem dX5_retypeColumn_0 : decode cX5_retypeColumn 0 = .ok (.getstatic 64, 3) := by decide +kernel
theorem dX5_retypeColumn_3 : decode cX5_retypeColumn 3 = .ok (.aload_n 0, 1) := by decide +kernel
theorem dX5_retypeColumn_4 : decode cX5_retypeColumn 4 = .ok (.getfield 15, 3) := by decide +kernel
theorem dX5_retypeColumn_7 : decode cX5_retypeColumn 7 = .ok (.iload_n 1, 1) := by decide +kernel
theorem dX5_retypeColumn_8 : decode cX5_retypeColumn 8 = .ok (.iaload, 1) := by decide +kernel
theorem dX5_retypeColumn_9 : decode cX5_retypeColumn 9 = .ok (.iaload, 1) := by decide +kernel
theorem dX5_retypeColumn_10 : decode cX5_retypeColumn 10 = .ok (.iload_n 2, 1) := by decide +kernel
theorem dX5_retypeColumn_11 : decode cX5_retypeColumn 11 = .ok (.ishr, 1) := by decide +kernel
theorem dX5_retypeColumn_12 : decode cX5_retypeColumn 12 = .ok (.iconst 1, 1) := by decide +kernel
theorem dX5_retypeColumn_13 : decode cX5_retypeColumn 13 = .ok (.iand, 1) := by decide +kernel
theorem dX5_retypeColumn_14 : decode cX5_retypeColumn 14 = .ok (.ifCond .ne 5, 3) := by decide +kernel
theorem dX5_retypeColumn_17 : decode cX5_retypeColumn 17 = .ok (.iconst 0, 1) := by decide +kernel
theorem dX5_retypeColumn_18 : decode cX5_retypeColumn 18 = .ok (.ireturn, 1) := by decide +kernel
theorem dX5_retypeColumn_19 : decode cX5_retypeColumn 19 = .ok (.aload_n 0, 1) := by decide +kernel
theorem dX5_retypeColumn_20 : decode cX5_retypeColumn 20 = .ok (.getfield 15, 3) := by decide +kernel
theorem dX5_retypeColumn_23 : decode cX5_retypeColumn 23 = .ok (.iload_n 1, 1) := by decide +kernel
theorem dX5_retypeColumn_24 : decode cX5_retypeColumn 24 = .ok (.iload_n 2, 1) := by decide +kernel
theorem dX5_retypeColumn_25 : decode cX5_retypeColumn 25 = .ok (.iastore, 1) := by decide +kernel
theorem dX5_retypeColumn_26 : decode cX5_retypeColumn 26 = .ok (.iconst 1, 1) := by decide +kernel
theorem dX5_retypeColumn_27 : decode cX5_retypeColumn 27 = .ok (.ireturn, 1) := by decide +kernel
theorem dX6_init_0 : decode cX6_init 0 = .ok (.aload_n 0, 1) := by decide +kernel
theorem dX6_init_1 : decode cX6_init 1 = .ok (.invokespecial 3, 3) := by decide +kernel
theorem dX6_init_4 : decode cX6_init 4 = .ok (.return_, 1) := by decide +kernel
theorem dX6_changeForm_0 : decode cX6_changeForm 0 = .ok (.aload_n 0, 1) := by decide +kernel
theorem dX6_changeForm_1 : decode cX6_changeForm 1 = .ok (.getfield 9, 3) := by decide +kernel
theorem dX6_changeForm_4 : decode cX6_changeForm 4 = .ok (.tableswitch 81 0 3 #[32, 51, 81, 62], 32) := by decide +kernel
theorem dX6_changeForm_36 : decode cX6_changeForm 36 = .ok (.aload_n 1, 1) := by decide +kernel
theorem dX6_changeForm_37 : decode cX6_changeForm 37 = .ok (.aload_n 0, 1) := by decide +kernel
theorem dX6_changeForm_38 : decode cX6_changeForm 38 = .ok (.getfield 15, 3) := by decide +kernel
theorem dX6_changeForm_41 : decode cX6_changeForm 41 = .ok (.aload_n 0, 1) := by decide +kernel
theorem dX6_changeForm_42 : decode cX6_changeForm 42 = .ok (.getfield 18, 3) := by decide +kernel
theorem dX6_changeForm_45 : decode cX6_changeForm 45 = .ok (.aload_n 0, 1) := by decide +kernel
theorem dX6_changeForm_46 : decode cX6_changeForm 46 = .ok (.getfield 21, 3) := by decide +kernel
theorem dX6_changeForm_49 : decode cX6_changeForm 49 = .ok (.invokevirtual 25, 3) := by decide +kernel
theorem dX6_changeForm_52 : decode cX6_changeForm 52 = .ok (.goto 33, 3) := by decide +kernel
theorem dX6_changeForm_55 : decode cX6_changeForm 55 = .ok (.aload_n 1, 1) := by decide +kernel
theorem dX6_changeForm_56 : decode cX6_changeForm 56 = .ok (.aload_n 0, 1) := by decide +kernel
theorem dX6_changeForm_57 : decode cX6_changeForm 57 = .ok (.getfield 15, 3) := by decide +kernel
theorem dX6_changeForm_60 : decode cX6_changeForm 60 = .ok (.invokevirtual 31, 3) := by decide +kernel
theorem dX6_changeForm_63 : decode cX6_changeForm 63 = .ok (.goto 22, 3) := by decide +kernel
theorem dX6_changeForm_66 : decode cX6_changeForm 66 = .ok (.aload_n 1, 1) := by decide +kernel
theorem dX6_changeForm_67 : decode cX6_changeForm 67 = .ok (.aload_n 0, 1) := by decide +kernel
theorem dX6_changeForm_68 : decode cX6_changeForm 68 = .ok (.getfield 15, 3) := by decide +kernel
theorem dX6_changeForm_71 : decode cX6_changeForm 71 = .ok (.aload_n 0, 1) := by decide +kernel
theorem dX6_changeForm_72 : decode cX6_changeForm 72 = .ok (.getfield 35, 3) := by decide +kernel
theorem dX6_changeForm_75 : decode cX6_changeForm 75 = .ok (.aload_n 0, 1) := by decide +kernel
theorem dX6_changeForm_76 : decode cX6_changeForm 76 = .ok (.getfield 18, 3) := by decide +kernel
theorem dX6_changeForm_79 : decode cX6_changeForm 79 = .ok (.invokevirtual 38, 3) := by decide +kernel
theorem dX6_changeForm_82 : decode cX6_changeForm 82 = .ok (.goto 3, 3) := by decide +kernel
theorem dX6_changeForm_85 : decode cX6_changeForm 85 = .ok (.return_, 1) := by decide +kernel
theorem dX6_placeBehind_0 : decode cX6_placeBehind 0 = .ok (.aload_n 0, 1) := by decide +kernel
theorem dX6_placeBehind_1 : decode cX6_placeBehind 1 = .ok (.getfield 9, 3) := by decide +kernel
theorem dX6_placeBehind_4 : decode cX6_placeBehind 4 = .ok (.iconst 1, 1) := by decide +kernel
theorem dX6_placeBehind_5 : decode cX6_placeBehind 5 = .ok (.if_icmp .ne 11, 3) := by decide +kernel
theorem dX6_placeBehind_8 : decode cX6_placeBehind 8 = .ok (.iload_n 1, 1) := by decide +kernel
theorem dX6_placeBehind_9 : decode cX6_placeBehind 9 = .ok (.aload_n 0, 1) := by decide +kernel
theorem dX6_placeBehind_10 : decode cX6_placeBehind 10 = .ok (.getfield 15, 3) := by decide +kernel
theorem dX6_placeBehind_13 : decode cX6_placeBehind 13 = .ok (.if_icmp .ge 5, 3) := by decide +kernel
theorem dX6_placeBehind_16 : decode cX6_placeBehind 16 = .ok (.iload_n 1, 1) := by decide +kernel
theorem dX6_placeBehind_17 : decode cX6_placeBehind 17 = .ok (.ireturn, 1) := by decide +kernel
theorem dX6_placeBehind_18 : decode cX6_placeBehind 18 = .ok (.iload_n 1, 1) := by decide +kernel
theorem dX6_placeBehind_19 : decode cX6_placeBehind 19 = .ok (.aload_n 0, 1) := by decide +kernel
theorem dX6_placeBehind_20 : decode cX6_placeBehind 20 = .ok (.getfield 15, 3) := by decide +kernel
theorem dX6_placeBehind_23 : decode cX6_placeBehind 23 = .ok (.if_icmp .ne 7, 3) := by decide +kernel
theorem dX6_placeBehind_26 : decode cX6_placeBehind 26 = .ok (.iconst (-1), 1) := by decide +kernel
theorem dX6_placeBehind_27 : decode cX6_placeBehind 27 = .ok (.goto 6, 3) := by decide +kernel
theorem dX6_placeBehind_30 : decode cX6_placeBehind 30 = .ok (.iload_n 1, 1) := by decide +kernel
theorem dX6_placeBehind_31 : decode cX6_placeBehind 31 = .ok (.iconst 1, 1) := by decide +kernel
theorem dX6_placeBehind_32 : decode cX6_placeBehind 32 = .ok (.isub, 1) := by decide +kernel
theorem dX6_placeBehind_33 : decode cX6_placeBehind 33 = .ok (.ireturn, 1) := by decide +kernel
theorem dX7_init_0 : decode cX7_init 0 = .ok (.aload_n 0, 1) := by decide +kernel
theorem dX7_init_1 : decode cX7_init 1 = .ok (.invokespecial 3, 3) := by decide +kernel
theorem dX7_init_4 : decode cX7_init 4 = .ok (.aload_n 0, 1) := by decide +kernel
theorem dX7_init_5 : decode cX7_init 5 = .ok (.bipush 40, 2) := by decide +kernel
theorem dX7_init_7 : decode cX7_init 7 = .ok (.anewarray 9, 3) := by decide +kernel
theorem dX7_init_10 : decode cX7_init 10 = .ok (.putfield 11, 3) := by decide +kernel
theorem dX7_init_13 : decode cX7_init 13 = .ok (.iconst 0, 1) := by decide +kernel
theorem dX7_init_14 : decode cX7_init 14 = .ok (.istore_n 1, 1) := by decide +kernel
theorem dX7_init_15 : decode cX7_init 15 = .ok (.iload_n 1, 1) := by decide +kernel
theorem dX7_init_16 : decode cX7_init 16 = .ok (.bipush 40, 2) := by decide +kernel
theorem dX7_init_18 : decode cX7_init 18 = .ok (.if_icmp .ge 22, 3) := by decide +kernel
theorem dX7_init_21 : decode cX7_init 21 = .ok (.aload_n 0, 1) := by decide +kernel
theorem dX7_init_22 : decode cX7_init 22 = .ok (.getfield 11, 3) := by decide +kernel
theorem dX7_init_25 : decode cX7_init 25 = .ok (.iload_n 1, 1) := by decide +kernel
theorem dX7_init_26 : decode cX7_init 26 = .ok (.new 9, 3) := by decide +kernel
theorem dX7_init_29 : decode cX7_init 29 = .ok (.dup, 1) := by decide +kernel
theorem dX7_init_30 : decode cX7_init 30 = .ok (.invokespecial 17, 3) := by decide +kernel
theorem dX7_init_33 : decode cX7_init 33 = .ok (.aastore, 1) := by decide +kernel
theorem dX7_init_34 : decode cX7_init 34 = .ok (.iinc 1 1, 3) := by decide +kernel
theorem dX7_init_37 : decode cX7_init 37 = .ok (.goto (-22), 3) := by decide +kernel
theorem dX7_init_40 : decode cX7_init 40 = .ok (.return_, 1) := by decide +kernel
theorem dX7_placeAbove_0 : decode cX7_placeAbove 0 = .ok (.iconst 0, 1) := by decide +kernel
theorem dX7_placeAbove_1 : decode cX7_placeAbove 1 = .ok (.istore_n 3, 1) := by decide +kernel
theorem dX7_placeAbove_2 : decode cX7_placeAbove 2 = .ok (.iload_n 2, 1) := by decide +kernel
theorem dX7_placeAbove_3 : decode cX7_placeAbove 3 = .ok (.ifCond .ne 30, 3) := by decide +kernel
theorem dX7_placeAbove_6 : decode cX7_placeAbove 6 = .ok (.iload_n 3, 1) := by decide +kernel
theorem dX7_placeAbove_7 : decode cX7_placeAbove 7 = .ok (.aload_n 0, 1) := by decide +kernel
theorem dX7_placeAbove_8 : decode cX7_placeAbove 8 = .ok (.getfield 18, 3) := by decide +kernel
theorem dX7_placeAbove_11 : decode cX7_placeAbove 11 = .ok (.if_icmp .ge 22, 3) := by decide +kernel
theorem dX7_placeAbove_14 : decode cX7_placeAbove 14 = .ok (.aload_n 0, 1) := by decide +kernel
theorem dX7_placeAbove_15 : decode cX7_placeAbove 15 = .ok (.getfield 11, 3) := by decide +kernel
theorem dX7_placeAbove_18 : decode cX7_placeAbove 18 = .ok (.iload_n 3, 1) := by decide +kernel
theorem dX7_placeAbove_19 : decode cX7_placeAbove 19 = .ok (.aaload, 1) := by decide +kernel
theorem dX7_placeAbove_20 : decode cX7_placeAbove 20 = .ok (.getfield 22, 3) := by decide +kernel
theorem dX7_placeAbove_23 : decode cX7_placeAbove 23 = .ok (.iload_n 1, 1) := by decide +kernel
theorem dX7_placeAbove_24 : decode cX7_placeAbove 24 = .ok (.if_icmp .gt 9, 3) := by decide +kernel
theorem dX7_placeAbove_27 : decode cX7_placeAbove 27 = .ok (.iinc 3 1, 3) := by decide +kernel
theorem dX7_placeAbove_30 : decode cX7_placeAbove 30 = .ok (.goto (-28), 3) := by decide +kernel
theorem dX7_placeAbove_33 : decode cX7_placeAbove 33 = .ok (.iload_n 3, 1) := by decide +kernel
theorem dX7_placeAbove_34 : decode cX7_placeAbove 34 = .ok (.ireturn, 1) := by decide +kernel
theorem dX7_placeUnder_0 : decode cX7_placeUnder 0 = .ok (.aload_n 0, 1) := by decide +kernel
theorem dX7_placeUnder_1 : decode cX7_placeUnder 1 = .ok (.iload_n 1, 1) := by decide +kernel
theorem dX7_placeUnder_2 : decode cX7_placeUnder 2 = .ok (.iconst 0, 1) := by decide +kernel
theorem dX7_placeUnder_3 : decode cX7_placeUnder 3 = .ok (.invokevirtual 25, 3) := by decide +kernel
theorem dX7_placeUnder_6 : decode cX7_placeUnder 6 = .ok (.iconst 1, 1) := by decide +kernel
theorem dX7_placeUnder_7 : decode cX7_placeUnder 7 = .ok (.isub, 1) := by decide +kernel
theorem dX7_placeUnder_8 : decode cX7_placeUnder 8 = .ok (.istore_n 2, 1) := by decide +kernel
theorem dX7_placeUnder_9 : decode cX7_placeUnder 9 = .ok (.iload_n 2, 1) := by decide +kernel
theorem dX7_placeUnder_10 : decode cX7_placeUnder 10 = .ok (.ifCond .lt 20, 3) := by decide +kernel
theorem dX7_placeUnder_13 : decode cX7_placeUnder 13 = .ok (.aload_n 0, 1) := by decide +kernel
theorem dX7_placeUnder_14 : decode cX7_placeUnder 14 = .ok (.getfield 11, 3) := by decide +kernel
theorem dX7_placeUnder_17 : decode cX7_placeUnder 17 = .ok (.iload_n 2, 1) := by decide +kernel
theorem dX7_placeUnder_18 : decode cX7_placeUnder 18 = .ok (.aaload, 1) := by decide +kernel
theorem dX7_placeUnder_19 : decode cX7_placeUnder 19 = .ok (.getfield 22, 3) := by decide +kernel
theorem dX7_placeUnder_22 : decode cX7_placeUnder 22 = .ok (.iload_n 1, 1) := by decide +kernel
theorem dX7_placeUnder_23 : decode cX7_placeUnder 23 = .ok (.if_icmp .ne 7, 3) := by decide +kernel
theorem dX7_placeUnder_26 : decode cX7_placeUnder 26 = .ok (.iload_n 2, 1) := by decide +kernel
theorem dX7_placeUnder_27 : decode cX7_placeUnder 27 = .ok (.goto 4, 3) := by decide +kernel
theorem dX7_placeUnder_30 : decode cX7_placeUnder 30 = .ok (.iconst (-1), 1) := by decide +kernel
theorem dX7_placeUnder_31 : decode cX7_placeUnder 31 = .ok (.ireturn, 1) := by decide +kernel
theorem dX7_insert_0 : decode cX7_insert 0 = .ok (.aload_n 0, 1) := by decide +kernel
theorem dX7_insert_1 : decode cX7_insert 1 = .ok (.iload_n 1, 1) := by decide +kernel
theorem dX7_insert_2 : decode cX7_insert 2 = .ok (.iconst 0, 1) := by decide +kernel
theorem dX7_insert_3 : decode cX7_insert 3 = .ok (.invokevirtual 25, 3) := by decide +kernel
theorem dX7_insert_6 : decode cX7_insert 6 = .ok (.istore_n 2, 1) := by decide +kernel
theorem dX7_insert_7 : decode cX7_insert 7 = .ok (.aload_n 0, 1) := by decide +kernel
theorem dX7_insert_8 : decode cX7_insert 8 = .ok (.getfield 11, 3) := by decide +kernel
theorem dX7_insert_11 : decode cX7_insert 11 = .ok (.aload_n 0, 1) := by decide +kernel
theorem dX7_insert_12 : decode cX7_insert 12 = .ok (.getfield 18, 3) := by decide +kernel
theorem dX7_insert_15 : decode cX7_insert 15 = .ok (.aaload, 1) := by decide +kernel
theorem dX7_insert_16 : decode cX7_insert 16 = .ok (.astore_n 3, 1) := by decide +kernel
theorem dX7_insert_17 : decode cX7_insert 17 = .ok (.aload_n 0, 1) := by decide +kernel
theorem dX7_insert_18 : decode cX7_insert 18 = .ok (.getfield 18, 3) := by decide +kernel
theorem dX7_insert_21 : decode cX7_insert 21 = .ok (.istore 4, 2) := by decide +kernel
theorem dX7_insert_23 : decode cX7_insert 23 = .ok (.iload 4, 2) := by decide +kernel
theorem dX7_insert_25 : decode cX7_insert 25 = .ok (.iload_n 2, 1) := by decide +kernel
theorem dX7_insert_26 : decode cX7_insert 26 = .ok (.if_icmp .le 25, 3) := by decide +kernel
theorem dX7_insert_29 : decode cX7_insert 29 = .ok (.aload_n 0, 1) := by decide +kernel
theorem dX7_insert_30 : decode cX7_insert 30 = .ok (.getfield 11, 3) := by decide +kernel
theorem dX7_insert_33 : decode cX7_insert 33 = .ok (.iload 4, 2) := by decide +kernel
theorem dX7_insert_35 : decode cX7_insert 35 = .ok (.aload_n 0, 1) := by decide +kernel
theorem dX7_insert_36 : decode cX7_insert 36 = .ok (.getfield 11, 3) := by decide +kernel
theorem dX7_insert_39 : decode cX7_insert 39 = .ok (.iload 4, 2) := by decide +kernel
theorem dX7_insert_41 : decode cX7_insert 41 = .ok (.iconst 1, 1) := by decide +kernel
theorem dX7_insert_42 : decode cX7_insert 42 = .ok (.isub, 1) := by decide +kernel
theorem dX7_insert_43 : decode cX7_insert 43 = .ok (.aaload, 1) := by decide +kernel
theorem dX7_insert_44 : decode cX7_insert 44 = .ok (.aastore, 1) := by decide +kernel
theorem dX7_insert_45 : decode cX7_insert 45 = .ok (.iinc 4 (-1), 3) := by decide +kernel
theorem dX7_insert_48 : decode cX7_insert 48 = .ok (.goto (-25), 3) := by decide +kernel
theorem dX7_insert_51 : decode cX7_insert 51 = .ok (.aload_n 0, 1) := by decide +kernel
theorem dX7_insert_52 : decode cX7_insert 52 = .ok (.getfield 11, 3) := by decide +kernel
theorem dX7_insert_55 : decode cX7_insert 55 = .ok (.iload_n 2, 1) := by decide +kernel
theorem dX7_insert_56 : decode cX7_insert 56 = .ok (.aload_n 3, 1) := by decide +kernel
theorem dX7_insert_57 : decode cX7_insert 57 = .ok (.aastore, 1) := by decide +kernel
theorem dX7_insert_58 : decode cX7_insert 58 = .ok (.aload_n 0, 1) := by decide +kernel
theorem dX7_insert_59 : decode cX7_insert 59 = .ok (.dup, 1) := by decide +kernel
theorem dX7_insert_60 : decode cX7_insert 60 = .ok (.getfield 18, 3) := by decide +kernel
theorem dX7_insert_63 : decode cX7_insert 63 = .ok (.iconst 1, 1) := by decide +kernel
theorem dX7_insert_64 : decode cX7_insert 64 = .ok (.iadd, 1) := by decide +kernel
theorem dX7_insert_65 : decode cX7_insert 65 = .ok (.putfield 18, 3) := by decide +kernel
theorem dX7_insert_68 : decode cX7_insert 68 = .ok (.aload_n 3, 1) := by decide +kernel
theorem dX7_insert_69 : decode cX7_insert 69 = .ok (.iload_n 1, 1) := by decide +kernel
theorem dX7_insert_70 : decode cX7_insert 70 = .ok (.invokevirtual 29, 3) := by decide +kernel
theorem dX7_insert_73 : decode cX7_insert 73 = .ok (.aload_n 3, 1) := by decide +kernel
theorem dX7_insert_74 : decode cX7_insert 74 = .ok (.areturn, 1) := by decide +kernel
theorem dX7_takeOut_0 : decode cX7_takeOut 0 = .ok (.aload_n 0, 1) := by decide +kernel
theorem dX7_takeOut_1 : decode cX7_takeOut 1 = .ok (.getfield 11, 3) := by decide +kernel
theorem dX7_takeOut_4 : decode cX7_takeOut 4 = .ok (.iload_n 1, 1) := by decide +kernel
theorem dX7_takeOut_5 : decode cX7_takeOut 5 = .ok (.aaload, 1) := by decide +kernel
theorem dX7_takeOut_6 : decode cX7_takeOut 6 = .ok (.astore_n 2, 1) := by decide +kernel
theorem dX7_takeOut_7 : decode cX7_takeOut 7 = .ok (.iload_n 1, 1) := by decide +kernel
theorem dX7_takeOut_8 : decode cX7_takeOut 8 = .ok (.istore_n 3, 1) := by decide +kernel
theorem dX7_takeOut_9 : decode cX7_takeOut 9 = .ok (.iload_n 3, 1) := by decide +kernel
theorem dX7_takeOut_10 : decode cX7_takeOut 10 = .ok (.aload_n 0, 1) := by decide +kernel
theorem dX7_takeOut_11 : decode cX7_takeOut 11 = .ok (.getfield 18, 3) := by decide +kernel
theorem dX7_takeOut_14 : decode cX7_takeOut 14 = .ok (.iconst 1, 1) := by decide +kernel
theorem dX7_takeOut_15 : decode cX7_takeOut 15 = .ok (.isub, 1) := by decide +kernel
theorem dX7_takeOut_16 : decode cX7_takeOut 16 = .ok (.if_icmp .ge 23, 3) := by decide +kernel
theorem dX7_takeOut_19 : decode cX7_takeOut 19 = .ok (.aload_n 0, 1) := by decide +kernel
theorem dX7_takeOut_20 : decode cX7_takeOut 20 = .ok (.getfield 11, 3) := by decide +kernel
theorem dX7_takeOut_23 : decode cX7_takeOut 23 = .ok (.iload_n 3, 1) := by decide +kernel
theorem dX7_takeOut_24 : decode cX7_takeOut 24 = .ok (.aload_n 0, 1) := by decide +kernel
theorem dX7_takeOut_25 : decode cX7_takeOut 25 = .ok (.getfield 11, 3) := by decide +kernel
theorem dX7_takeOut_28 : decode cX7_takeOut 28 = .ok (.iload_n 3, 1) := by decide +kernel
theorem dX7_takeOut_29 : decode cX7_takeOut 29 = .ok (.iconst 1, 1) := by decide +kernel
theorem dX7_takeOut_30 : decode cX7_takeOut 30 = .ok (.iadd, 1) := by decide +kernel
theorem dX7_takeOut_31 : decode cX7_takeOut 31 = .ok (.aaload, 1) := by decide +kernel
theorem dX7_takeOut_32 : decode cX7_takeOut 32 = .ok (.aastore, 1) := by decide +kernel
theorem dX7_takeOut_33 : decode cX7_takeOut 33 = .ok (.iinc 3 1, 3) := by decide +kernel
theorem dX7_takeOut_36 : decode cX7_takeOut 36 = .ok (.goto (-27), 3) := by decide +kernel
theorem dX7_takeOut_39 : decode cX7_takeOut 39 = .ok (.aload_n 0, 1) := by decide +kernel
theorem dX7_takeOut_40 : decode cX7_takeOut 40 = .ok (.dup, 1) := by decide +kernel
theorem dX7_takeOut_41 : decode cX7_takeOut 41 = .ok (.getfield 18, 3) := by decide +kernel
theorem dX7_takeOut_44 : decode cX7_takeOut 44 = .ok (.iconst 1, 1) := by decide +kernel
theorem dX7_takeOut_45 : decode cX7_takeOut 45 = .ok (.isub, 1) := by decide +kernel
theorem dX7_takeOut_46 : decode cX7_takeOut 46 = .ok (.putfield 18, 3) := by decide +kernel
theorem dX7_takeOut_49 : decode cX7_takeOut 49 = .ok (.aload_n 0, 1) := by decide +kernel
theorem dX7_takeOut_50 : decode cX7_takeOut 50 = .ok (.getfield 11, 3) := by decide +kernel
theorem dX7_takeOut_53 : decode cX7_takeOut 53 = .ok (.aload_n 0, 1) := by decide +kernel
theorem dX7_takeOut_54 : decode cX7_takeOut 54 = .ok (.getfield 18, 3) := by decide +kernel
theorem dX7_takeOut_57 : decode cX7_takeOut 57 = .ok (.aload_n 2, 1) := by decide +kernel
theorem dX7_takeOut_58 : decode cX7_takeOut 58 = .ok (.aastore, 1) := by decide +kernel
theorem dX7_takeOut_59 : decode cX7_takeOut 59 = .ok (.return_, 1) := by decide +kernel
theorem dX7_countLagging_0 : decode cX7_countLagging 0 = .ok (.iconst 0, 1) := by decide +kernel
theorem dX7_countLagging_1 : decode cX7_countLagging 1 = .ok (.istore_n 1, 1) := by decide +kernel
theorem dX7_countLagging_2 : decode cX7_countLagging 2 = .ok (.iconst 0, 1) := by decide +kernel
theorem dX7_countLagging_3 : decode cX7_countLagging 3 = .ok (.istore_n 2, 1) := by decide +kernel
theorem dX7_countLagging_4 : decode cX7_countLagging 4 = .ok (.iload_n 2, 1) := by decide +kernel
theorem dX7_countLagging_5 : decode cX7_countLagging 5 = .ok (.aload_n 0, 1) := by decide +kernel
theorem dX7_countLagging_6 : decode cX7_countLagging 6 = .ok (.getfield 18, 3) := by decide +kernel
theorem dX7_countLagging_9 : decode cX7_countLagging 9 = .ok (.if_icmp .ge 24, 3) := by decide +kernel
theorem dX7_countLagging_12 : decode cX7_countLagging 12 = .ok (.aload_n 0, 1) := by decide +kernel
theorem dX7_countLagging_13 : decode cX7_countLagging 13 = .ok (.getfield 11, 3) := by decide +kernel
theorem dX7_countLagging_16 : decode cX7_countLagging 16 = .ok (.iload_n 2, 1) := by decide +kernel
theorem dX7_countLagging_17 : decode cX7_countLagging 17 = .ok (.aaload, 1) := by decide +kernel
theorem dX7_countLagging_18 : decode cX7_countLagging 18 = .ok (.getfield 33, 3) := by decide +kernel
theorem dX7_countLagging_21 : decode cX7_countLagging 21 = .ok (.ifCond .eq 6, 3) := by decide +kernel
theorem dX7_countLagging_24 : decode cX7_countLagging 24 = .ok (.iinc 1 1, 3) := by decide +kernel
theorem dX7_countLagging_27 : decode cX7_countLagging 27 = .ok (.iinc 2 1, 3) := by decide +kernel
theorem dX7_countLagging_30 : decode cX7_countLagging 30 = .ok (.goto (-26), 3) := by decide +kernel
theorem dX7_countLagging_33 : decode cX7_countLagging 33 = .ok (.iload_n 1, 1) := by decide +kernel
theorem dX7_countLagging_34 : decode cX7_countLagging 34 = .ok (.ireturn, 1) := by decide +kernel
theorem dX7_countShadowed_0 : decode cX7_countShadowed 0 = .ok (.iconst 0, 1) := by decide +kernel
theorem dX7_countShadowed_1 : decode cX7_countShadowed 1 = .ok (.istore_n 1, 1) := by decide +kernel
theorem dX7_countShadowed_2 : decode cX7_countShadowed 2 = .ok (.iconst 0, 1) := by decide +kernel
theorem dX7_countShadowed_3 : decode cX7_countShadowed 3 = .ok (.istore_n 2, 1) := by decide +kernel
theorem dX7_countShadowed_4 : decode cX7_countShadowed 4 = .ok (.iload_n 2, 1) := by decide +kernel
theorem dX7_countShadowed_5 : decode cX7_countShadowed 5 = .ok (.aload_n 0, 1) := by decide +kernel
theorem dX7_countShadowed_6 : decode cX7_countShadowed 6 = .ok (.getfield 18, 3) := by decide +kernel
theorem dX7_countShadowed_9 : decode cX7_countShadowed 9 = .ok (.if_icmp .ge 25, 3) := by decide +kernel
theorem dX7_countShadowed_12 : decode cX7_countShadowed 12 = .ok (.aload_n 0, 1) := by decide +kernel
theorem dX7_countShadowed_13 : decode cX7_countShadowed 13 = .ok (.getfield 11, 3) := by decide +kernel
theorem dX7_countShadowed_16 : decode cX7_countShadowed 16 = .ok (.iload_n 2, 1) := by decide +kernel
theorem dX7_countShadowed_17 : decode cX7_countShadowed 17 = .ok (.aaload, 1) := by decide +kernel
theorem dX7_countShadowed_18 : decode cX7_countShadowed 18 = .ok (.getfield 33, 3) := by decide +kernel
theorem dX7_countShadowed_21 : decode cX7_countShadowed 21 = .ok (.iconst 2, 1) := by decide +kernel
theorem dX7_countShadowed_22 : decode cX7_countShadowed 22 = .ok (.if_icmp .ne 6, 3) := by decide +kernel
theorem dX7_countShadowed_25 : decode cX7_countShadowed 25 = .ok (.iinc 1 1, 3) := by decide +kernel
theorem dX7_countShadowed_28 : decode cX7_countShadowed 28 = .ok (.iinc 2 1, 3) := by decide +kernel
theorem dX7_countShadowed_31 : decode cX7_countShadowed 31 = .ok (.goto (-27), 3) := by decide +kernel
theorem dX7_countShadowed_34 : decode cX7_countShadowed 34 = .ok (.iload_n 1, 1) := by decide +kernel
theorem dX7_countShadowed_35 : decode cX7_countShadowed 35 = .ok (.ireturn, 1) := by decide +kernel
theorem dX8_init_0 : decode cX8_init 0 = .ok (.aload_n 0, 1) := by decide +kernel
theorem dX8_init_1 : decode cX8_init 1 = .ok (.invokespecial 1, 3) := by decide +kernel
theorem dX8_init_4 : decode cX8_init 4 = .ok (.aload_n 0, 1) := by decide +kernel
theorem dX8_init_5 : decode cX8_init 5 = .ok (.new 7, 3) := by decide +kernel
theorem dX8_init_8 : decode cX8_init 8 = .ok (.dup, 1) := by decide +kernel
theorem dX8_init_9 : decode cX8_init 9 = .ok (.invokespecial 9, 3) := by decide +kernel
theorem dX8_init_12 : decode cX8_init 12 = .ok (.putfield 10, 3) := by decide +kernel
theorem dX8_init_15 : decode cX8_init 15 = .ok (.aload_n 0, 1) := by decide +kernel
theorem dX8_init_16 : decode cX8_init 16 = .ok (.new 16, 3) := by decide +kernel
theorem dX8_init_19 : decode cX8_init 19 = .ok (.dup, 1) := by decide +kernel
theorem dX8_init_20 : decode cX8_init 20 = .ok (.invokespecial 18, 3) := by decide +kernel
theorem dX8_init_23 : decode cX8_init 23 = .ok (.putfield 19, 3) := by decide +kernel
theorem dX8_init_26 : decode cX8_init 26 = .ok (.aload_n 0, 1) := by decide +kernel
theorem dX8_init_27 : decode cX8_init 27 = .ok (.new 23, 3) := by decide +kernel
theorem dX8_init_30 : decode cX8_init 30 = .ok (.dup, 1) := by decide +kernel
theorem dX8_init_31 : decode cX8_init 31 = .ok (.invokespecial 25, 3) := by decide +kernel
theorem dX8_init_34 : decode cX8_init 34 = .ok (.putfield 26, 3) := by decide +kernel
theorem dX8_init_37 : decode cX8_init 37 = .ok (.aload_n 0, 1) := by decide +kernel
theorem dX8_init_38 : decode cX8_init 38 = .ok (.new 30, 3) := by decide +kernel
theorem dX8_init_41 : decode cX8_init 41 = .ok (.dup, 1) := by decide +kernel
theorem dX8_init_42 : decode cX8_init 42 = .ok (.invokespecial 32, 3) := by decide +kernel
theorem dX8_init_45 : decode cX8_init 45 = .ok (.putfield 33, 3) := by decide +kernel
theorem dX8_init_48 : decode cX8_init 48 = .ok (.aload_n 0, 1) := by decide +kernel
theorem dX8_init_49 : decode cX8_init 49 = .ok (.new 37, 3) := by decide +kernel
theorem dX8_init_52 : decode cX8_init 52 = .ok (.dup, 1) := by decide +kernel
theorem dX8_init_53 : decode cX8_init 53 = .ok (.invokespecial 39, 3) := by decide +kernel
theorem dX8_init_56 : decode cX8_init 56 = .ok (.putfield 40, 3) := by decide +kernel
theorem dX8_init_59 : decode cX8_init 59 = .ok (.aload_n 0, 1) := by decide +kernel
theorem dX8_init_60 : decode cX8_init 60 = .ok (.new 37, 3) := by decide +kernel
theorem dX8_init_63 : decode cX8_init 63 = .ok (.dup, 1) := by decide +kernel
theorem dX8_init_64 : decode cX8_init 64 = .ok (.invokespecial 39, 3) := by decide +kernel
theorem dX8_init_67 : decode cX8_init 67 = .ok (.putfield 44, 3) := by decide +kernel
theorem dX8_init_70 : decode cX8_init 70 = .ok (.aload_n 0, 1) := by decide +kernel
theorem dX8_init_71 : decode cX8_init 71 = .ok (.new 37, 3) := by decide +kernel
theorem dX8_init_74 : decode cX8_init 74 = .ok (.dup, 1) := by decide +kernel
theorem dX8_init_75 : decode cX8_init 75 = .ok (.invokespecial 39, 3) := by decide +kernel
theorem dX8_init_78 : decode cX8_init 78 = .ok (.putfield 47, 3) := by decide +kernel
theorem dX8_init_81 : decode cX8_init 81 = .ok (.aload_n 0, 1) := by decide +kernel
theorem dX8_init_82 : decode cX8_init 82 = .ok (.new 50, 3) := by decide +kernel
theorem dX8_init_85 : decode cX8_init 85 = .ok (.dup, 1) := by decide +kernel
theorem dX8_init_86 : decode cX8_init 86 = .ok (.invokespecial 52, 3) := by decide +kernel
theorem dX8_init_89 : decode cX8_init 89 = .ok (.putfield 53, 3) := by decide +kernel
theorem dX8_init_92 : decode cX8_init 92 = .ok (.aload_n 0, 1) := by decide +kernel
theorem dX8_init_93 : decode cX8_init 93 = .ok (.new 50, 3) := by decide +kernel
theorem dX8_init_96 : decode cX8_init 96 = .ok (.dup, 1) := by decide +kernel
theorem dX8_init_97 : decode cX8_init 97 = .ok (.invokespecial 52, 3) := by decide +kernel
theorem dX8_init_100 : decode cX8_init 100 = .ok (.putfield 57, 3) := by decide +kernel
theorem dX8_init_103 : decode cX8_init 103 = .ok (.return_, 1) := by decide +kernel
theorem dX8_plan_0 : decode cX8_plan 0 = .ok (.iload_n 1, 1) := by decide +kernel
theorem dX8_plan_1 : decode cX8_plan 1 = .ok (.ifCond .lt 15, 3) := by decide +kernel
theorem dX8_plan_4 : decode cX8_plan 4 = .ok (.iload_n 1, 1) := by decide +kernel
theorem dX8_plan_5 : decode cX8_plan 5 = .ok (.iconst 3, 1) := by decide +kernel
theorem dX8_plan_6 : decode cX8_plan 6 = .ok (.if_icmp .gt 10, 3) := by decide +kernel
theorem dX8_plan_9 : decode cX8_plan 9 = .ok (.iload_n 2, 1) := by decide +kernel
theorem dX8_plan_10 : decode cX8_plan 10 = .ok (.invokestatic 60, 3) := by decide +kernel
theorem dX8_plan_13 : decode cX8_plan 13 = .ok (.ifCond .ne 5, 3) := by decide +kernel
theorem dX8_plan_16 : decode cX8_plan 16 = .ok (.iconst (-1), 1) := by decide +kernel
theorem dX8_plan_17 : decode cX8_plan 17 = .ok (.ireturn, 1) := by decide +kernel
theorem dX8_plan_18 : decode cX8_plan 18 = .ok (.iload_n 1, 1) := by decide +kernel
theorem dX8_plan_19 : decode cX8_plan 19 = .ok (.iconst 2, 1) := by decide +kernel
theorem dX8_plan_20 : decode cX8_plan 20 = .ok (.if_icmp .ne 12, 3) := by decide +kernel
theorem dX8_plan_23 : decode cX8_plan 23 = .ok (.iload_n 3, 1) := by decide +kernel
theorem dX8_plan_24 : decode cX8_plan 24 = .ok (.invokestatic 60, 3) := by decide +kernel
theorem dX8_plan_27 : decode cX8_plan 27 = .ok (.ifCond .ne 5, 3) := by decide +kernel
theorem dX8_plan_30 : decode cX8_plan 30 = .ok (.iconst (-1), 1) := by decide +kernel
theorem dX8_plan_31 : decode cX8_plan 31 = .ok (.ireturn, 1) := by decide +kernel
theorem dX8_plan_32 : decode cX8_plan 32 = .ok (.iload_n 1, 1) := by decide +kernel
theorem dX8_plan_33 : decode cX8_plan 33 = .ok (.ifCond .eq 8, 3) := by decide +kernel
theorem dX8_plan_36 : decode cX8_plan 36 = .ok (.iload_n 1, 1) := by decide +kernel
theorem dX8_plan_37 : decode cX8_plan 37 = .ok (.iconst 3, 1) := by decide +kernel
theorem dX8_plan_38 : decode cX8_plan 38 = .ok (.if_icmp .ne 12, 3) := by decide +kernel
theorem dX8_plan_41 : decode cX8_plan 41 = .ok (.iload_n 3, 1) := by decide +kernel
theorem dX8_plan_42 : decode cX8_plan 42 = .ok (.invokestatic 64, 3) := by decide +kernel
theorem dX8_plan_45 : decode cX8_plan 45 = .ok (.ifCond .ne 5, 3) := by decide +kernel
theorem dX8_plan_48 : decode cX8_plan 48 = .ok (.iconst (-1), 1) := by decide +kernel
theorem dX8_plan_49 : decode cX8_plan 49 = .ok (.ireturn, 1) := by decide +kernel
theorem dX8_plan_50 : decode cX8_plan 50 = .ok (.aload_n 0, 1) := by decide +kernel
theorem dX8_plan_51 : decode cX8_plan 51 = .ok (.getfield 53, 3) := by decide +kernel
theorem dX8_plan_54 : decode cX8_plan 54 = .ok (.getfield 67, 3) := by decide +kernel
theorem dX8_plan_57 : decode cX8_plan 57 = .ok (.bipush 6, 2) := by decide +kernel
theorem dX8_plan_59 : decode cX8_plan 59 = .ok (.if_icmp .ne 6, 3) := by decide +kernel
theorem dX8_plan_62 : decode cX8_plan 62 = .ok (.bipush (-4), 2) := by decide +kernel
theorem dX8_plan_64 : decode cX8_plan 64 = .ok (.ireturn, 1) := by decide +kernel
theorem dX8_plan_65 : decode cX8_plan 65 = .ok (.aload_n 0, 1) := by decide +kernel
theorem dX8_plan_66 : decode cX8_plan 66 = .ok (.getfield 53, 3) := by decide +kernel
theorem dX8_plan_69 : decode cX8_plan 69 = .ok (.iload_n 1, 1) := by decide +kernel
theorem dX8_plan_70 : decode cX8_plan 70 = .ok (.iload_n 2, 1) := by decide +kernel
theorem dX8_plan_71 : decode cX8_plan 71 = .ok (.iload_n 3, 1) := by decide +kernel
theorem dX8_plan_72 : decode cX8_plan 72 = .ok (.iload 4, 2) := by decide +kernel
theorem dX8_plan_74 : decode cX8_plan 74 = .ok (.iload 5, 2) := by decide +kernel
theorem dX8_plan_76 : decode cX8_plan 76 = .ok (.invokestatic 71, 3) := by decide +kernel
theorem dX8_plan_79 : decode cX8_plan 79 = .ok (.invokevirtual 75, 3) := by decide +kernel
theorem dX8_plan_82 : decode cX8_plan 82 = .ok (.aload_n 0, 1) := by decide +kernel
theorem dX8_plan_83 : decode cX8_plan 83 = .ok (.getfield 53, 3) := by decide +kernel
theorem dX8_plan_86 : decode cX8_plan 86 = .ok (.getfield 67, 3) := by decide +kernel
theorem dX8_plan_89 : decode cX8_plan 89 = .ok (.ireturn, 1) := by decide +kernel
theorem dX8_scrap_0 : decode cX8_scrap 0 = .ok (.aload_n 0, 1) := by decide +kernel
theorem dX8_scrap_1 : decode cX8_scrap 1 = .ok (.getfield 53, 3) := by decide +kernel
theorem dX8_scrap_4 : decode cX8_scrap 4 = .ok (.getfield 67, 3) := by decide +kernel
theorem dX8_scrap_7 : decode cX8_scrap 7 = .ok (.istore_n 1, 1) := by decide +kernel
theorem dX8_scrap_8 : decode cX8_scrap 8 = .ok (.aload_n 0, 1) := by decide +kernel
theorem dX8_scrap_9 : decode cX8_scrap 9 = .ok (.getfield 53, 3) := by decide +kernel
theorem dX8_scrap_12 : decode cX8_scrap 12 = .ok (.iconst 0, 1) := by decide +kernel
theorem dX8_scrap_13 : decode cX8_scrap 13 = .ok (.putfield 67, 3) := by decide +kernel
theorem dX8_scrap_16 : decode cX8_scrap 16 = .ok (.iload_n 1, 1) := by decide +kernel
theorem dX8_scrap_17 : decode cX8_scrap 17 = .ok (.ireturn, 1) := by decide +kernel
theorem dX8_draft_0 : decode cX8_draft 0 = .ok (.iload_n 1, 1) := by decide +kernel
theorem dX8_draft_1 : decode cX8_draft 1 = .ok (.invokestatic 79, 3) := by decide +kernel
theorem dX8_draft_4 : decode cX8_draft 4 = .ok (.ifCond .ne 5, 3) := by decide +kernel
theorem dX8_draft_7 : decode cX8_draft 7 = .ok (.iconst (-1), 1) := by decide +kernel
theorem dX8_draft_8 : decode cX8_draft 8 = .ok (.ireturn, 1) := by decide +kernel
theorem dX8_draft_9 : decode cX8_draft 9 = .ok (.aload_n 0, 1) := by decide +kernel
theorem dX8_draft_10 : decode cX8_draft 10 = .ok (.getfield 26, 3) := by decide +kernel
theorem dX8_draft_13 : decode cX8_draft 13 = .ok (.iload_n 1, 1) := by decide +kernel
theorem dX8_draft_14 : decode cX8_draft 14 = .ok (.iload_n 2, 1) := by decide +kernel
theorem dX8_draft_15 : decode cX8_draft 15 = .ok (.iload_n 3, 1) := by decide +kernel
theorem dX8_draft_16 : decode cX8_draft 16 = .ok (.invokestatic 71, 3) := by decide +kernel
theorem dX8_draft_19 : decode cX8_draft 19 = .ok (.invokevirtual 82, 3) := by decide +kernel
theorem dX8_draft_22 : decode cX8_draft 22 = .ok (.iconst 1, 1) := by decide +kernel
theorem dX8_draft_23 : decode cX8_draft 23 = .ok (.ireturn, 1) := by decide +kernel
theorem dX8_letters_0 : decode cX8_letters 0 = .ok (.iload_n 1, 1) := by decide +kernel
theorem dX8_letters_1 : decode cX8_letters 1 = .ok (.invokestatic 79, 3) := by decide +kernel
theorem dX8_letters_4 : decode cX8_letters 4 = .ok (.ifCond .ne 5, 3) := by decide +kernel
theorem dX8_letters_7 : decode cX8_letters 7 = .ok (.iconst (-1), 1) := by decide +kernel
theorem dX8_letters_8 : decode cX8_letters 8 = .ok (.ireturn, 1) := by decide +kernel
theorem dX8_letters_9 : decode cX8_letters 9 = .ok (.aload_n 0, 1) := by decide +kernel
theorem dX8_letters_10 : decode cX8_letters 10 = .ok (.getfield 26, 3) := by decide +kernel
theorem dX8_letters_13 : decode cX8_letters 13 = .ok (.iload_n 1, 1) := by decide +kernel
theorem dX8_letters_14 : decode cX8_letters 14 = .ok (.iload_n 2, 1) := by decide +kernel
theorem dX8_letters_15 : decode cX8_letters 15 = .ok (.iload_n 3, 1) := by decide +kernel
theorem dX8_letters_16 : decode cX8_letters 16 = .ok (.invokestatic 71, 3) := by decide +kernel
theorem dX8_letters_19 : decode cX8_letters 19 = .ok (.invokevirtual 86, 3) := by decide +kernel
theorem dX8_letters_22 : decode cX8_letters 22 = .ok (.ifCond .eq 14, 3) := by decide +kernel
theorem dX8_letters_25 : decode cX8_letters 25 = .ok (.aload_n 0, 1) := by decide +kernel
theorem dX8_letters_26 : decode cX8_letters 26 = .ok (.getfield 26, 3) := by decide +kernel
theorem dX8_letters_29 : decode cX8_letters 29 = .ok (.iload_n 1, 1) := by decide +kernel
theorem dX8_letters_30 : decode cX8_letters 30 = .ok (.invokevirtual 90, 3) := by decide +kernel
theorem dX8_letters_33 : decode cX8_letters 33 = .ok (.goto 5, 3) := by decide +kernel
theorem dX8_letters_36 : decode cX8_letters 36 = .ok (.bipush (-4), 2) := by decide +kernel
theorem dX8_letters_38 : decode cX8_letters 38 = .ok (.ireturn, 1) := by decide +kernel
theorem dX8_write_0 : decode cX8_write 0 = .ok (.aload_n 0, 1) := by decide +kernel
theorem dX8_write_1 : decode cX8_write 1 = .ok (.getfield 10, 3) := by decide +kernel
theorem dX8_write_4 : decode cX8_write 4 = .ok (.invokevirtual 94, 3) := by decide +kernel
theorem dX8_write_7 : decode cX8_write 7 = .ok (.aload_n 0, 1) := by decide +kernel
theorem dX8_write_8 : decode cX8_write 8 = .ok (.getfield 10, 3) := by decide +kernel
theorem dX8_write_11 : decode cX8_write 11 = .ok (.getfield 97, 3) := by decide +kernel
theorem dX8_write_14 : decode cX8_write 14 = .ok (.ifCond .eq 6, 3) := by decide +kernel
theorem dX8_write_17 : decode cX8_write 17 = .ok (.bipush (-8), 2) := by decide +kernel
theorem dX8_write_19 : decode cX8_write 19 = .ok (.ireturn, 1) := by decide +kernel
theorem dX8_write_20 : decode cX8_write 20 = .ok (.iload_n 2, 1) := by decide +kernel
theorem dX8_write_21 : decode cX8_write 21 = .ok (.ifCond .eq 13, 3) := by decide +kernel
theorem dX8_write_24 : decode cX8_write 24 = .ok (.aload_n 0, 1) := by decide +kernel
theorem dX8_write_25 : decode cX8_write 25 = .ok (.getfield 101, 3) := by decide +kernel
theorem dX8_write_28 : decode cX8_write 28 = .ok (.ifCond .ne 6, 3) := by decide +kernel
theorem dX8_write_31 : decode cX8_write 31 = .ok (.bipush (-2), 2) := by decide +kernel
theorem dX8_write_33 : decode cX8_write 33 = .ok (.ireturn, 1) := by decide +kernel
theorem dX8_write_34 : decode cX8_write 34 = .ok (.aload_n 0, 1) := by decide +kernel
theorem dX8_write_35 : decode cX8_write 35 = .ok (.getfield 19, 3) := by decide +kernel
theorem dX8_write_38 : decode cX8_write 38 = .ok (.iload_n 1, 1) := by decide +kernel
theorem dX8_write_39 : decode cX8_write 39 = .ok (.invokevirtual 104, 3) := by decide +kernel
theorem dX8_write_42 : decode cX8_write 42 = .ok (.ifCond .lt 7, 3) := by decide +kernel
theorem dX8_write_45 : decode cX8_write 45 = .ok (.iconst 1, 1) := by decide +kernel
theorem dX8_write_46 : decode cX8_write 46 = .ok (.goto 4, 3) := by decide +kernel
theorem dX8_write_49 : decode cX8_write 49 = .ok (.iconst 0, 1) := by decide +kernel
theorem dX8_write_50 : decode cX8_write 50 = .ok (.istore_n 3, 1) := by decide +kernel
theorem dX8_write_51 : decode cX8_write 51 = .ok (.iload_n 3, 1) := by decide +kernel
theorem dX8_write_52 : decode cX8_write 52 = .ok (.ifCond .ne 18, 3) := by decide +kernel
theorem dX8_write_55 : decode cX8_write 55 = .ok (.aload_n 0, 1) := by decide +kernel
theorem dX8_write_56 : decode cX8_write 56 = .ok (.getfield 19, 3) := by decide +kernel
theorem dX8_write_59 : decode cX8_write 59 = .ok (.getfield 107, 3) := by decide +kernel
theorem dX8_write_62 : decode cX8_write 62 = .ok (.bipush 40, 2) := by decide +kernel
theorem dX8_write_64 : decode cX8_write 64 = .ok (.if_icmp .ne 6, 3) := by decide +kernel
theorem dX8_write_67 : decode cX8_write 67 = .ok (.bipush (-4), 2) := by decide +kernel
theorem dX8_write_69 : decode cX8_write 69 = .ok (.ireturn, 1) := by decide +kernel
theorem dX8_write_70 : decode cX8_write 70 = .ok (.aload_n 0, 1) := by decide +kernel
theorem dX8_write_71 : decode cX8_write 71 = .ok (.getfield 10, 3) := by decide +kernel
theorem dX8_write_74 : decode cX8_write 74 = .ok (.invokevirtual 108, 3) := by decide +kernel
theorem dX8_write_77 : decode cX8_write 77 = .ok (.ifCond .ne 6, 3) := by decide +kernel
theorem dX8_write_80 : decode cX8_write 80 = .ok (.bipush (-9), 2) := by decide +kernel
theorem dX8_write_82 : decode cX8_write 82 = .ok (.ireturn, 1) := by decide +kernel
theorem dX8_write_83 : decode cX8_write 83 = .ok (.aload_n 0, 1) := by decide +kernel
theorem dX8_write_84 : decode cX8_write 84 = .ok (.iload_n 1, 1) := by decide +kernel
theorem dX8_write_85 : decode cX8_write 85 = .ok (.iload_n 2, 1) := by decide +kernel
theorem dX8_write_86 : decode cX8_write 86 = .ok (.invokevirtual 112, 3) := by decide +kernel
theorem dX8_write_89 : decode cX8_write 89 = .ok (.aload_n 0, 1) := by decide +kernel
theorem dX8_write_90 : decode cX8_write 90 = .ok (.getfield 101, 3) := by decide +kernel
theorem dX8_write_93 : decode cX8_write 93 = .ok (.ifCond .eq 16, 3) := by decide +kernel
theorem dX8_write_96 : decode cX8_write 96 = .ok (.aload_n 0, 1) := by decide +kernel
theorem dX8_write_97 : decode cX8_write 97 = .ok (.getfield 10, 3) := by decide +kernel
theorem dX8_write_100 : decode cX8_write 100 = .ok (.invokevirtual 116, 3) := by decide +kernel
theorem dX8_write_103 : decode cX8_write 103 = .ok (.ifCond .ne 6, 3) := by decide +kernel
theorem dX8_write_106 : decode cX8_write 106 = .ok (.bipush (-9), 2) := by decide +kernel
theorem dX8_write_108 : decode cX8_write 108 = .ok (.ireturn, 1) := by decide +kernel
theorem dX8_write_109 : decode cX8_write 109 = .ok (.iload_n 3, 1) := by decide +kernel
theorem dX8_write_110 : decode cX8_write 110 = .ok (.ifCond .eq 7, 3) := by decide +kernel
theorem dX8_write_113 : decode cX8_write 113 = .ok (.iconst 1, 1) := by decide +kernel
theorem dX8_write_114 : decode cX8_write 114 = .ok (.goto 4, 3) := by decide +kernel
theorem dX8_write_117 : decode cX8_write 117 = .ok (.iconst 0, 1) := by decide +kernel
theorem dX8_write_118 : decode cX8_write 118 = .ok (.ireturn, 1) := by decide +kernel
theorem dX8_remove_0 : decode cX8_remove 0 = .ok (.aload_n 0, 1) := by decide +kernel
theorem dX8_remove_1 : decode cX8_remove 1 = .ok (.getfield 10, 3) := by decide +kernel
theorem dX8_remove_4 : decode cX8_remove 4 = .ok (.invokevirtual 94, 3) := by decide +kernel
theorem dX8_remove_7 : decode cX8_remove 7 = .ok (.aload_n 0, 1) := by decide +kernel
theorem dX8_remove_8 : decode cX8_remove 8 = .ok (.getfield 10, 3) := by decide +kernel
theorem dX8_remove_11 : decode cX8_remove 11 = .ok (.getfield 97, 3) := by decide +kernel
theorem dX8_remove_14 : decode cX8_remove 14 = .ok (.ifCond .eq 6, 3) := by decide +kernel
theorem dX8_remove_17 : decode cX8_remove 17 = .ok (.bipush (-8), 2) := by decide +kernel
theorem dX8_remove_19 : decode cX8_remove 19 = .ok (.ireturn, 1) := by decide +kernel
theorem dX8_remove_20 : decode cX8_remove 20 = .ok (.aload_n 0, 1) := by decide +kernel
theorem dX8_remove_21 : decode cX8_remove 21 = .ok (.getfield 19, 3) := by decide +kernel
theorem dX8_remove_24 : decode cX8_remove 24 = .ok (.iload_n 1, 1) := by decide +kernel
theorem dX8_remove_25 : decode cX8_remove 25 = .ok (.invokevirtual 104, 3) := by decide +kernel
theorem dX8_remove_28 : decode cX8_remove 28 = .ok (.istore_n 2, 1) := by decide +kernel
theorem dX8_remove_29 : decode cX8_remove 29 = .ok (.iload_n 2, 1) := by decide +kernel
theorem dX8_remove_30 : decode cX8_remove 30 = .ok (.ifCond .ge 6, 3) := by decide +kernel
theorem dX8_remove_33 : decode cX8_remove 33 = .ok (.bipush (-3), 2) := by decide +kernel
theorem dX8_remove_35 : decode cX8_remove 35 = .ok (.ireturn, 1) := by decide +kernel
theorem dX8_remove_36 : decode cX8_remove 36 = .ok (.aload_n 0, 1) := by decide +kernel
theorem dX8_remove_37 : decode cX8_remove 37 = .ok (.getfield 10, 3) := by decide +kernel
theorem dX8_remove_40 : decode cX8_remove 40 = .ok (.aload_n 0, 1) := by decide +kernel
theorem dX8_remove_41 : decode cX8_remove 41 = .ok (.getfield 19, 3) := by decide +kernel
theorem dX8_remove_44 : decode cX8_remove 44 = .ok (.getfield 119, 3) := by decide +kernel
theorem dX8_remove_47 : decode cX8_remove 47 = .ok (.iload_n 2, 1) := by decide +kernel
theorem dX8_remove_48 : decode cX8_remove 48 = .ok (.aaload, 1) := by decide +kernel
theorem dX8_remove_49 : decode cX8_remove 49 = .ok (.invokevirtual 123, 3) := by decide +kernel
theorem dX8_remove_52 : decode cX8_remove 52 = .ok (.invokevirtual 129, 3) := by decide +kernel
theorem dX8_remove_55 : decode cX8_remove 55 = .ok (.ifCond .ne 6, 3) := by decide +kernel
theorem dX8_remove_58 : decode cX8_remove 58 = .ok (.bipush (-9), 2) := by decide +kernel
theorem dX8_remove_60 : decode cX8_remove 60 = .ok (.ireturn, 1) := by decide +kernel
theorem dX8_remove_61 : decode cX8_remove 61 = .ok (.aload_n 0, 1) := by decide +kernel
theorem dX8_remove_62 : decode cX8_remove 62 = .ok (.getfield 19, 3) := by decide +kernel
theorem dX8_remove_65 : decode cX8_remove 65 = .ok (.iload_n 2, 1) := by decide +kernel
theorem dX8_remove_66 : decode cX8_remove 66 = .ok (.invokevirtual 132, 3) := by decide +kernel
theorem dX8_remove_69 : decode cX8_remove 69 = .ok (.aload_n 0, 1) := by decide +kernel
theorem dX8_remove_70 : decode cX8_remove 70 = .ok (.getfield 101, 3) := by decide +kernel
theorem dX8_remove_73 : decode cX8_remove 73 = .ok (.ifCond .eq 16, 3) := by decide +kernel
theorem dX8_remove_76 : decode cX8_remove 76 = .ok (.aload_n 0, 1) := by decide +kernel
theorem dX8_remove_77 : decode cX8_remove 77 = .ok (.getfield 10, 3) := by decide +kernel
theorem dX8_remove_80 : decode cX8_remove 80 = .ok (.invokevirtual 116, 3) := by decide +kernel
theorem dX8_remove_83 : decode cX8_remove 83 = .ok (.ifCond .ne 6, 3) := by decide +kernel
theorem dX8_remove_86 : decode cX8_remove 86 = .ok (.bipush (-9), 2) := by decide +kernel
theorem dX8_remove_88 : decode cX8_remove 88 = .ok (.ireturn, 1) := by decide +kernel
theorem dX8_remove_89 : decode cX8_remove 89 = .ok (.iconst 1, 1) := by decide +kernel
theorem dX8_remove_90 : decode cX8_remove 90 = .ok (.ireturn, 1) := by decide +kernel
theorem dX8_read_0 : decode cX8_read 0 = .ok (.aload_n 0, 1) := by decide +kernel
theorem dX8_read_1 : decode cX8_read 1 = .ok (.getfield 10, 3) := by decide +kernel
theorem dX8_read_4 : decode cX8_read 4 = .ok (.getfield 97, 3) := by decide +kernel
theorem dX8_read_7 : decode cX8_read 7 = .ok (.ifCond .eq 6, 3) := by decide +kernel
theorem dX8_read_10 : decode cX8_read 10 = .ok (.bipush (-8), 2) := by decide +kernel
theorem dX8_read_12 : decode cX8_read 12 = .ok (.ireturn, 1) := by decide +kernel
theorem dX8_read_13 : decode cX8_read 13 = .ok (.iload_n 2, 1) := by decide +kernel
theorem dX8_read_14 : decode cX8_read 14 = .ok (.ifCond .eq 13, 3) := by decide +kernel
theorem dX8_read_17 : decode cX8_read 17 = .ok (.aload_n 0, 1) := by decide +kernel
theorem dX8_read_18 : decode cX8_read 18 = .ok (.getfield 101, 3) := by decide +kernel
theorem dX8_read_21 : decode cX8_read 21 = .ok (.ifCond .ne 6, 3) := by decide +kernel
theorem dX8_read_24 : decode cX8_read 24 = .ok (.bipush (-2), 2) := by decide +kernel
theorem dX8_read_26 : decode cX8_read 26 = .ok (.ireturn, 1) := by decide +kernel
theorem dX8_read_27 : decode cX8_read 27 = .ok (.aload_n 0, 1) := by decide +kernel
theorem dX8_read_28 : decode cX8_read 28 = .ok (.getfield 19, 3) := by decide +kernel
theorem dX8_read_31 : decode cX8_read 31 = .ok (.iload_n 1, 1) := by decide +kernel
theorem dX8_read_32 : decode cX8_read 32 = .ok (.invokevirtual 104, 3) := by decide +kernel
theorem dX8_read_35 : decode cX8_read 35 = .ok (.istore_n 3, 1) := by decide +kernel
theorem dX8_read_36 : decode cX8_read 36 = .ok (.aload_n 0, 1) := by decide +kernel
theorem dX8_read_37 : decode cX8_read 37 = .ok (.iload_n 3, 1) := by decide +kernel
theorem dX8_read_38 : decode cX8_read 38 = .ok (.ifCond .lt 7, 3) := by decide +kernel
theorem dX8_read_41 : decode cX8_read 41 = .ok (.iconst 1, 1) := by decide +kernel
theorem dX8_read_42 : decode cX8_read 42 = .ok (.goto 4, 3) := by decide +kernel
theorem dX8_read_45 : decode cX8_read 45 = .ok (.iconst 0, 1) := by decide +kernel
theorem dX8_read_46 : decode cX8_read 46 = .ok (.putfield 136, 3) := by decide +kernel
theorem dX8_read_49 : decode cX8_read 49 = .ok (.iload_n 3, 1) := by decide +kernel
theorem dX8_read_50 : decode cX8_read 50 = .ok (.ifCond .ge 5, 3) := by decide +kernel
theorem dX8_read_53 : decode cX8_read 53 = .ok (.iconst 0, 1) := by decide +kernel
theorem dX8_read_54 : decode cX8_read 54 = .ok (.ireturn, 1) := by decide +kernel
theorem dX8_read_55 : decode cX8_read 55 = .ok (.aload_n 0, 1) := by decide +kernel
theorem dX8_read_56 : decode cX8_read 56 = .ok (.getfield 19, 3) := by decide +kernel
theorem dX8_read_59 : decode cX8_read 59 = .ok (.getfield 119, 3) := by decide +kernel
theorem dX8_read_62 : decode cX8_read 62 = .ok (.iload_n 3, 1) := by decide +kernel
theorem dX8_read_63 : decode cX8_read 63 = .ok (.aaload, 1) := by decide +kernel
theorem dX8_read_64 : decode cX8_read 64 = .ok (.astore 4, 2) := by decide +kernel
theorem dX8_read_66 : decode cX8_read 66 = .ok (.aload_n 0, 1) := by decide +kernel
theorem dX8_read_67 : decode cX8_read 67 = .ok (.getfield 33, 3) := by decide +kernel
theorem dX8_read_70 : decode cX8_read 70 = .ok (.iload_n 2, 1) := by decide +kernel
theorem dX8_read_71 : decode cX8_read 71 = .ok (.ifCond .eq 11, 3) := by decide +kernel
theorem dX8_read_74 : decode cX8_read 74 = .ok (.aload 4, 2) := by decide +kernel
theorem dX8_read_76 : decode cX8_read 76 = .ok (.getfield 139, 3) := by decide +kernel
theorem dX8_read_79 : decode cX8_read 79 = .ok (.goto 8, 3) := by decide +kernel
theorem dX8_read_82 : decode cX8_read 82 = .ok (.aload 4, 2) := by decide +kernel
theorem dX8_read_84 : decode cX8_read 84 = .ok (.getfield 142, 3) := by decide +kernel
theorem dX8_read_87 : decode cX8_read 87 = .ok (.invokevirtual 145, 3) := by decide +kernel
theorem dX8_read_90 : decode cX8_read 90 = .ok (.aload_n 0, 1) := by decide +kernel
theorem dX8_read_91 : decode cX8_read 91 = .ok (.getfield 40, 3) := by decide +kernel
theorem dX8_read_94 : decode cX8_read 94 = .ok (.iload_n 2, 1) := by decide +kernel
theorem dX8_read_95 : decode cX8_read 95 = .ok (.ifCond .eq 10, 3) := by decide +kernel
theorem dX8_read_98 : decode cX8_read 98 = .ok (.aload_n 0, 1) := by decide +kernel
theorem dX8_read_99 : decode cX8_read 99 = .ok (.getfield 47, 3) := by decide +kernel
theorem dX8_read_102 : decode cX8_read 102 = .ok (.goto 7, 3) := by decide +kernel
theorem dX8_read_105 : decode cX8_read 105 = .ok (.aload_n 0, 1) := by decide +kernel
theorem dX8_read_106 : decode cX8_read 106 = .ok (.getfield 44, 3) := by decide +kernel
theorem dX8_read_109 : decode cX8_read 109 = .ok (.invokevirtual 149, 3) := by decide +kernel
theorem dX8_read_112 : decode cX8_read 112 = .ok (.iconst 1, 1) := by decide +kernel
theorem dX8_read_113 : decode cX8_read 113 = .ok (.ireturn, 1) := by decide +kernel
theorem dX8_seen_0 : decode cX8_seen 0 = .ok (.aload_n 0, 1) := by decide +kernel
theorem dX8_seen_1 : decode cX8_seen 1 = .ok (.getfield 136, 3) := by decide +kernel
theorem dX8_seen_4 : decode cX8_seen 4 = .ok (.ifCond .eq 13, 3) := by decide +kernel
theorem dX8_seen_7 : decode cX8_seen 7 = .ok (.aload_n 0, 1) := by decide +kernel
theorem dX8_seen_8 : decode cX8_seen 8 = .ok (.getfield 40, 3) := by decide +kernel
theorem dX8_seen_11 : decode cX8_seen 11 = .ok (.getfield 152, 3) := by decide +kernel
theorem dX8_seen_14 : decode cX8_seen 14 = .ok (.goto 4, 3) := by decide +kernel
theorem dX8_seen_17 : decode cX8_seen 17 = .ok (.iconst (-1), 1) := by decide +kernel
theorem dX8_seen_18 : decode cX8_seen 18 = .ok (.ireturn, 1) := by decide +kernel
theorem dX8_value_0 : decode cX8_value 0 = .ok (.aload_n 0, 1) := by decide +kernel
theorem dX8_value_1 : decode cX8_value 1 = .ok (.iload_n 1, 1) := by decide +kernel
theorem dX8_value_2 : decode cX8_value 2 = .ok (.invokevirtual 153, 3) := by decide +kernel
theorem dX8_value_5 : decode cX8_value 5 = .ok (.ifCond .eq 14, 3) := by decide +kernel
theorem dX8_value_8 : decode cX8_value 8 = .ok (.aload_n 0, 1) := by decide +kernel
theorem dX8_value_9 : decode cX8_value 9 = .ok (.getfield 33, 3) := by decide +kernel
theorem dX8_value_12 : decode cX8_value 12 = .ok (.iload_n 1, 1) := by decide +kernel
theorem dX8_value_13 : decode cX8_value 13 = .ok (.invokevirtual 156, 3) := by decide +kernel
theorem dX8_value_16 : decode cX8_value 16 = .ok (.goto 4, 3) := by decide +kernel
theorem dX8_value_19 : decode cX8_value 19 = .ok (.lconst 0, 1) := by decide +kernel
theorem dX8_value_20 : decode cX8_value 20 = .ok (.lreturn, 1) := by decide +kernel
theorem dX8_letter_0 : decode cX8_letter 0 = .ok (.aload_n 0, 1) := by decide +kernel
theorem dX8_letter_1 : decode cX8_letter 1 = .ok (.iload_n 1, 1) := by decide +kernel
theorem dX8_letter_2 : decode cX8_letter 2 = .ok (.invokevirtual 153, 3) := by decide +kernel
theorem dX8_letter_5 : decode cX8_letter 5 = .ok (.ifCond .eq 34, 3) := by decide +kernel
theorem dX8_letter_8 : decode cX8_letter 8 = .ok (.aload_n 0, 1) := by decide +kernel
theorem dX8_letter_9 : decode cX8_letter 9 = .ok (.getfield 40, 3) := by decide +kernel
theorem dX8_letter_12 : decode cX8_letter 12 = .ok (.getfield 160, 3) := by decide +kernel
theorem dX8_letter_15 : decode cX8_letter 15 = .ok (.iload_n 1, 1) := by decide +kernel
theorem dX8_letter_16 : decode cX8_letter 16 = .ok (.iaload, 1) := by decide +kernel
theorem dX8_letter_17 : decode cX8_letter 17 = .ok (.iconst 4, 1) := by decide +kernel
theorem dX8_letter_18 : decode cX8_letter 18 = .ok (.if_icmp .ne 21, 3) := by decide +kernel
theorem dX8_letter_21 : decode cX8_letter 21 = .ok (.iload_n 2, 1) := by decide +kernel
theorem dX8_letter_22 : decode cX8_letter 22 = .ok (.ifCond .lt 17, 3) := by decide +kernel
theorem dX8_letter_25 : decode cX8_letter 25 = .ok (.iload_n 2, 1) := by decide +kernel
theorem dX8_letter_26 : decode cX8_letter 26 = .ok (.i2l, 1) := by decide +kernel
theorem dX8_letter_27 : decode cX8_letter 27 = .ok (.aload_n 0, 1) := by decide +kernel
theorem dX8_letter_28 : decode cX8_letter 28 = .ok (.getfield 33, 3) := by decide +kernel
theorem dX8_letter_31 : decode cX8_letter 31 = .ok (.iload_n 1, 1) := by decide +kernel
theorem dX8_letter_32 : decode cX8_letter 32 = .ok (.invokevirtual 156, 3) := by decide +kernel
theorem dX8_letter_35 : decode cX8_letter 35 = .ok (.lcmp, 1) := by decide +kernel
theorem dX8_letter_36 : decode cX8_letter 36 = .ok (.ifCond .lt 5, 3) := by decide +kernel
theorem dX8_letter_39 : decode cX8_letter 39 = .ok (.iconst 0, 1) := by decide +kernel
theorem dX8_letter_40 : decode cX8_letter 40 = .ok (.ireturn, 1) := by decide +kernel
theorem dX8_letter_41 : decode cX8_letter 41 = .ok (.aload_n 0, 1) := by decide +kernel
theorem dX8_letter_42 : decode cX8_letter 42 = .ok (.getfield 33, 3) := by decide +kernel
theorem dX8_letter_45 : decode cX8_letter 45 = .ok (.iload_n 1, 1) := by decide +kernel
theorem dX8_letter_46 : decode cX8_letter 46 = .ok (.iload_n 2, 1) := by decide +kernel
theorem dX8_letter_47 : decode cX8_letter 47 = .ok (.invokevirtual 164, 3) := by decide +kernel
theorem dX8_letter_50 : decode cX8_letter 50 = .ok (.ireturn, 1) := by decide +kernel
theorem dX8_next_0 : decode cX8_next 0 = .ok (.aload_n 0, 1) := by decide +kernel
theorem dX8_next_1 : decode cX8_next 1 = .ok (.getfield 10, 3) := by decide +kernel
theorem dX8_next_4 : decode cX8_next 4 = .ok (.getfield 97, 3) := by decide +kernel
theorem dX8_next_7 : decode cX8_next 7 = .ok (.ifCond .eq 5, 3) := by decide +kernel
theorem dX8_next_10 : decode cX8_next 10 = .ok (.iconst 0, 1) := by decide +kernel
theorem dX8_next_11 : decode cX8_next 11 = .ok (.ireturn, 1) := by decide +kernel
theorem dX8_next_12 : decode cX8_next 12 = .ok (.aload_n 0, 1) := by decide +kernel
theorem dX8_next_13 : decode cX8_next 13 = .ok (.getfield 19, 3) := by decide +kernel
theorem dX8_next_16 : decode cX8_next 16 = .ok (.iload_n 1, 1) := by decide +kernel
theorem dX8_next_17 : decode cX8_next 17 = .ok (.iload_n 2, 1) := by decide +kernel
theorem dX8_next_18 : decode cX8_next 18 = .ok (.invokevirtual 168, 3) := by decide +kernel
theorem dX8_next_21 : decode cX8_next 21 = .ok (.istore_n 3, 1) := by decide +kernel
theorem dX8_next_22 : decode cX8_next 22 = .ok (.iload_n 3, 1) := by decide +kernel
theorem dX8_next_23 : decode cX8_next 23 = .ok (.aload_n 0, 1) := by decide +kernel
theorem dX8_next_24 : decode cX8_next 24 = .ok (.getfield 19, 3) := by decide +kernel
theorem dX8_next_27 : decode cX8_next 27 = .ok (.getfield 107, 3) := by decide +kernel
theorem dX8_next_30 : decode cX8_next 30 = .ok (.if_icmp .ge 18, 3) := by decide +kernel
theorem dX8_next_33 : decode cX8_next 33 = .ok (.aload_n 0, 1) := by decide +kernel
theorem dX8_next_34 : decode cX8_next 34 = .ok (.getfield 19, 3) := by decide +kernel
theorem dX8_next_37 : decode cX8_next 37 = .ok (.getfield 119, 3) := by decide +kernel
theorem dX8_next_40 : decode cX8_next 40 = .ok (.iload_n 3, 1) := by decide +kernel
theorem dX8_next_41 : decode cX8_next 41 = .ok (.aaload, 1) := by decide +kernel
theorem dX8_next_42 : decode cX8_next 42 = .ok (.getfield 172, 3) := by decide +kernel
theorem dX8_next_45 : decode cX8_next 45 = .ok (.goto 4, 3) := by decide +kernel
theorem dX8_next_48 : decode cX8_next 48 = .ok (.iload_n 1, 1) := by decide +kernel
theorem dX8_next_49 : decode cX8_next 49 = .ok (.ireturn, 1) := by decide +kernel
theorem dX8_more_0 : decode cX8_more 0 = .ok (.aload_n 0, 1) := by decide +kernel
theorem dX8_more_1 : decode cX8_more 1 = .ok (.getfield 10, 3) := by decide +kernel
theorem dX8_more_4 : decode cX8_more 4 = .ok (.getfield 97, 3) := by decide +kernel
theorem dX8_more_7 : decode cX8_more 7 = .ok (.ifCond .eq 8, 3) := by decide +kernel
theorem dX8_more_10 : decode cX8_more 10 = .ok (.bipush (-8), 2) := by decide +kernel
theorem dX8_more_12 : decode cX8_more 12 = .ok (.goto 20, 3) := by decide +kernel
theorem dX8_more_15 : decode cX8_more 15 = .ok (.aload_n 0, 1) := by decide +kernel
theorem dX8_more_16 : decode cX8_more 16 = .ok (.getfield 19, 3) := by decide +kernel
theorem dX8_more_19 : decode cX8_more 19 = .ok (.getfield 107, 3) := by decide +kernel
theorem dX8_more_22 : decode cX8_more 22 = .ok (.aload_n 0, 1) := by decide +kernel
theorem dX8_more_23 : decode cX8_more 23 = .ok (.getfield 19, 3) := by decide +kernel
theorem dX8_more_26 : decode cX8_more 26 = .ok (.iload_n 1, 1) := by decide +kernel
theorem dX8_more_27 : decode cX8_more 27 = .ok (.iload_n 2, 1) := by decide +kernel
theorem dX8_more_28 : decode cX8_more 28 = .ok (.invokevirtual 168, 3) := by decide +kernel
theorem dX8_more_31 : decode cX8_more 31 = .ok (.isub, 1) := by decide +kernel
theorem dX8_more_32 : decode cX8_more 32 = .ok (.ireturn, 1) := by decide +kernel
theorem dX8_begin_0 : decode cX8_begin 0 = .ok (.aload_n 0, 1) := by decide +kernel
theorem dX8_begin_1 : decode cX8_begin 1 = .ok (.getfield 10, 3) := by decide +kernel
theorem dX8_begin_4 : decode cX8_begin 4 = .ok (.invokevirtual 94, 3) := by decide +kernel
theorem dX8_begin_7 : decode cX8_begin 7 = .ok (.aload_n 0, 1) := by decide +kernel
theorem dX8_begin_8 : decode cX8_begin 8 = .ok (.getfield 10, 3) := by decide +kernel
theorem dX8_begin_11 : decode cX8_begin 11 = .ok (.getfield 97, 3) := by decide +kernel
theorem dX8_begin_14 : decode cX8_begin 14 = .ok (.ifCond .eq 6, 3) := by decide +kernel
theorem dX8_begin_17 : decode cX8_begin 17 = .ok (.bipush (-8), 2) := by decide +kernel
theorem dX8_begin_19 : decode cX8_begin 19 = .ok (.ireturn, 1) := by decide +kernel
theorem dX8_begin_20 : decode cX8_begin 20 = .ok (.aload_n 0, 1) := by decide +kernel
theorem dX8_begin_21 : decode cX8_begin 21 = .ok (.getfield 101, 3) := by decide +kernel
theorem dX8_begin_24 : decode cX8_begin 24 = .ok (.ifCond .ne 23, 3) := by decide +kernel
theorem dX8_begin_27 : decode cX8_begin 27 = .ok (.aload_n 0, 1) := by decide +kernel
theorem dX8_begin_28 : decode cX8_begin 28 = .ok (.getfield 53, 3) := by decide +kernel
theorem dX8_begin_31 : decode cX8_begin 31 = .ok (.getfield 67, 3) := by decide +kernel
theorem dX8_begin_34 : decode cX8_begin 34 = .ok (.ifCond .eq 13, 3) := by decide +kernel
theorem dX8_begin_37 : decode cX8_begin 37 = .ok (.aload_n 0, 1) := by decide +kernel
theorem dX8_begin_38 : decode cX8_begin 38 = .ok (.getfield 19, 3) := by decide +kernel
theorem dX8_begin_41 : decode cX8_begin 41 = .ok (.invokevirtual 175, 3) := by decide +kernel
theorem dX8_begin_44 : decode cX8_begin 44 = .ok (.ifCond .le 6, 3) := by decide +kernel
theorem dX8_begin_47 : decode cX8_begin 47 = .ok (.bipush (-2), 2) := by decide +kernel
theorem dX8_begin_49 : decode cX8_begin 49 = .ok (.ireturn, 1) := by decide +kernel
theorem dX8_begin_50 : decode cX8_begin 50 = .ok (.aload_n 0, 1) := by decide +kernel
theorem dX8_begin_51 : decode cX8_begin 51 = .ok (.getfield 178, 3) := by decide +kernel
theorem dX8_begin_54 : decode cX8_begin 54 = .ok (.bipush 30, 2) := by decide +kernel
theorem dX8_begin_56 : decode cX8_begin 56 = .ok (.if_icmp .ne 6, 3) := by decide +kernel
theorem dX8_begin_59 : decode cX8_begin 59 = .ok (.bipush (-4), 2) := by decide +kernel
theorem dX8_begin_61 : decode cX8_begin 61 = .ok (.ireturn, 1) := by decide +kernel
theorem dX8_begin_62 : decode cX8_begin 62 = .ok (.aload_n 0, 1) := by decide +kernel
theorem dX8_begin_63 : decode cX8_begin 63 = .ok (.getfield 53, 3) := by decide +kernel
theorem dX8_begin_66 : decode cX8_begin 66 = .ok (.aload_n 0, 1) := by decide +kernel
theorem dX8_begin_67 : decode cX8_begin 67 = .ok (.getfield 44, 3) := by decide +kernel
theorem dX8_begin_70 : decode cX8_begin 70 = .ok (.aload_n 0, 1) := by decide +kernel
theorem dX8_begin_71 : decode cX8_begin 71 = .ok (.getfield 47, 3) := by decide +kernel
theorem dX8_begin_74 : decode cX8_begin 74 = .ok (.invokevirtual 181, 3) := by decide +kernel
theorem dX8_begin_77 : decode cX8_begin 77 = .ok (.istore_n 1, 1) := by decide +kernel
theorem dX8_begin_78 : decode cX8_begin 78 = .ok (.iload_n 1, 1) := by decide +kernel
theorem dX8_begin_79 : decode cX8_begin 79 = .ok (.ifCond .lt 8, 3) := by decide +kernel
theorem dX8_begin_82 : decode cX8_begin 82 = .ok (.bipush (-10), 2) := by decide +kernel
theorem dX8_begin_84 : decode cX8_begin 84 = .ok (.iload_n 1, 1) := by decide +kernel
theorem dX8_begin_85 : decode cX8_begin 85 = .ok (.isub, 1) := by decide +kernel
theorem dX8_begin_86 : decode cX8_begin 86 = .ok (.ireturn, 1) := by decide +kernel
theorem dX8_begin_87 : decode cX8_begin 87 = .ok (.aload_n 0, 1) := by decide +kernel
theorem dX8_begin_88 : decode cX8_begin 88 = .ok (.getfield 10, 3) := by decide +kernel
theorem dX8_begin_91 : decode cX8_begin 91 = .ok (.invokevirtual 108, 3) := by decide +kernel
theorem dX8_begin_94 : decode cX8_begin 94 = .ok (.ifCond .ne 6, 3) := by decide +kernel
theorem dX8_begin_97 : decode cX8_begin 97 = .ok (.bipush (-9), 2) := by decide +kernel
theorem dX8_begin_99 : decode cX8_begin 99 = .ok (.ireturn, 1) := by decide +kernel
theorem dX8_begin_100 : decode cX8_begin 100 = .ok (.aload_n 0, 1) := by decide +kernel
theorem dX8_begin_101 : decode cX8_begin 101 = .ok (.invokevirtual 185, 3) := by decide +kernel
theorem dX8_begin_104 : decode cX8_begin 104 = .ok (.aload_n 0, 1) := by decide +kernel
theorem dX8_begin_105 : decode cX8_begin 105 = .ok (.getfield 47, 3) := by decide +kernel
theorem dX8_begin_108 : decode cX8_begin 108 = .ok (.getfield 152, 3) := by decide +kernel
theorem dX8_begin_111 : decode cX8_begin 111 = .ok (.ireturn, 1) := by decide +kernel
theorem dX8_finish_0 : decode cX8_finish 0 = .ok (.aload_n 0, 1) := by decide +kernel
theorem dX8_finish_1 : decode cX8_finish 1 = .ok (.invokevirtual 188, 3) := by decide +kernel
theorem dX8_finish_4 : decode cX8_finish 4 = .ok (.istore_n 1, 1) := by decide +kernel
theorem dX8_finish_5 : decode cX8_finish 5 = .ok (.iload_n 1, 1) := by decide +kernel
theorem dX8_finish_6 : decode cX8_finish 6 = .ok (.ifCond .eq 5, 3) := by decide +kernel
theorem dX8_finish_9 : decode cX8_finish 9 = .ok (.iload_n 1, 1) := by decide +kernel
theorem dX8_finish_10 : decode cX8_finish 10 = .ok (.ireturn, 1) := by decide +kernel
theorem dX8_finish_11 : decode cX8_finish 11 = .ok (.aload_n 0, 1) := by decide +kernel
theorem dX8_finish_12 : decode cX8_finish 12 = .ok (.getfield 44, 3) := by decide +kernel
theorem dX8_finish_15 : decode cX8_finish 15 = .ok (.astore_n 2, 1) := by decide +kernel
theorem dX8_finish_16 : decode cX8_finish 16 = .ok (.aload_n 0, 1) := by decide +kernel
theorem dX8_finish_17 : decode cX8_finish 17 = .ok (.aload_n 0, 1) := by decide +kernel
theorem dX8_finish_18 : decode cX8_finish 18 = .ok (.getfield 47, 3) := by decide +kernel
theorem dX8_finish_21 : decode cX8_finish 21 = .ok (.putfield 44, 3) := by decide +kernel
theorem dX8_finish_24 : decode cX8_finish 24 = .ok (.aload_n 0, 1) := by decide +kernel
theorem dX8_finish_25 : decode cX8_finish 25 = .ok (.aload_n 2, 1) := by decide +kernel
theorem dX8_finish_26 : decode cX8_finish 26 = .ok (.putfield 47, 3) := by decide +kernel
theorem dX8_finish_29 : decode cX8_finish 29 = .ok (.aload_n 0, 1) := by decide +kernel
theorem dX8_finish_30 : decode cX8_finish 30 = .ok (.dup, 1) := by decide +kernel
theorem dX8_finish_31 : decode cX8_finish 31 = .ok (.getfield 178, 3) := by decide +kernel
theorem dX8_finish_34 : decode cX8_finish 34 = .ok (.iconst 1, 1) := by decide +kernel
theorem dX8_finish_35 : decode cX8_finish 35 = .ok (.iadd, 1) := by decide +kernel
theorem dX8_finish_36 : decode cX8_finish 36 = .ok (.putfield 178, 3) := by decide +kernel
theorem dX8_finish_39 : decode cX8_finish 39 = .ok (.iconst 0, 1) := by decide +kernel
theorem dX8_finish_40 : decode cX8_finish 40 = .ok (.istore_n 3, 1) := by decide +kernel
theorem dX8_finish_41 : decode cX8_finish 41 = .ok (.iload_n 3, 1) := by decide +kernel
theorem dX8_finish_42 : decode cX8_finish 42 = .ok (.aload_n 0, 1) := by decide +kernel
theorem dX8_finish_43 : decode cX8_finish 43 = .ok (.getfield 19, 3) := by decide +kernel
theorem dX8_finish_46 : decode cX8_finish 46 = .ok (.getfield 107, 3) := by decide +kernel
theorem dX8_finish_49 : decode cX8_finish 49 = .ok (.if_icmp .ge 21, 3) := by decide +kernel
theorem dX8_finish_52 : decode cX8_finish 52 = .ok (.aload_n 0, 1) := by decide +kernel
theorem dX8_finish_53 : decode cX8_finish 53 = .ok (.getfield 19, 3) := by decide +kernel
theorem dX8_finish_56 : decode cX8_finish 56 = .ok (.getfield 119, 3) := by decide +kernel
theorem dX8_finish_59 : decode cX8_finish 59 = .ok (.iload_n 3, 1) := by decide +kernel
theorem dX8_finish_60 : decode cX8_finish 60 = .ok (.aaload, 1) := by decide +kernel
theorem dX8_finish_61 : decode cX8_finish 61 = .ok (.invokevirtual 191, 3) := by decide +kernel
theorem dX8_finish_64 : decode cX8_finish 64 = .ok (.iinc 3 1, 3) := by decide +kernel
theorem dX8_finish_67 : decode cX8_finish 67 = .ok (.goto (-26), 3) := by decide +kernel
theorem dX8_finish_70 : decode cX8_finish 70 = .ok (.aload_n 0, 1) := by decide +kernel
theorem dX8_finish_71 : decode cX8_finish 71 = .ok (.getfield 178, 3) := by decide +kernel
theorem dX8_finish_74 : decode cX8_finish 74 = .ok (.ireturn, 1) := by decide +kernel
theorem dX8_rollback_0 : decode cX8_rollback 0 = .ok (.aload_n 0, 1) := by decide +kernel
theorem dX8_rollback_1 : decode cX8_rollback 1 = .ok (.invokevirtual 188, 3) := by decide +kernel
theorem dX8_rollback_4 : decode cX8_rollback 4 = .ok (.istore_n 1, 1) := by decide +kernel
theorem dX8_rollback_5 : decode cX8_rollback 5 = .ok (.iload_n 1, 1) := by decide +kernel
theorem dX8_rollback_6 : decode cX8_rollback 6 = .ok (.ifCond .eq 5, 3) := by decide +kernel
theorem dX8_rollback_9 : decode cX8_rollback 9 = .ok (.iload_n 1, 1) := by decide +kernel
theorem dX8_rollback_10 : decode cX8_rollback 10 = .ok (.ireturn, 1) := by decide +kernel
theorem dX8_rollback_11 : decode cX8_rollback 11 = .ok (.iconst 0, 1) := by decide +kernel
theorem dX8_rollback_12 : decode cX8_rollback 12 = .ok (.istore_n 2, 1) := by decide +kernel
theorem dX8_rollback_13 : decode cX8_rollback 13 = .ok (.iload_n 2, 1) := by decide +kernel
theorem dX8_rollback_14 : decode cX8_rollback 14 = .ok (.aload_n 0, 1) := by decide +kernel
theorem dX8_rollback_15 : decode cX8_rollback 15 = .ok (.getfield 19, 3) := by decide +kernel
theorem dX8_rollback_18 : decode cX8_rollback 18 = .ok (.getfield 107, 3) := by decide +kernel
theorem dX8_rollback_21 : decode cX8_rollback 21 = .ok (.if_icmp .ge 21, 3) := by decide +kernel
theorem dX8_rollback_24 : decode cX8_rollback 24 = .ok (.aload_n 0, 1) := by decide +kernel
theorem dX8_rollback_25 : decode cX8_rollback 25 = .ok (.getfield 19, 3) := by decide +kernel
theorem dX8_rollback_28 : decode cX8_rollback 28 = .ok (.getfield 119, 3) := by decide +kernel
theorem dX8_rollback_31 : decode cX8_rollback 31 = .ok (.iload_n 2, 1) := by decide +kernel
theorem dX8_rollback_32 : decode cX8_rollback 32 = .ok (.aaload, 1) := by decide +kernel
theorem dX8_rollback_33 : decode cX8_rollback 33 = .ok (.invokevirtual 194, 3) := by decide +kernel
theorem dX8_rollback_36 : decode cX8_rollback 36 = .ok (.iinc 2 1, 3) := by decide +kernel
theorem dX8_rollback_39 : decode cX8_rollback 39 = .ok (.goto (-26), 3) := by decide +kernel
theorem dX8_rollback_42 : decode cX8_rollback 42 = .ok (.aload_n 0, 1) := by decide +kernel
theorem dX8_rollback_43 : decode cX8_rollback 43 = .ok (.getfield 178, 3) := by decide +kernel
theorem dX8_rollback_46 : decode cX8_rollback 46 = .ok (.ireturn, 1) := by decide +kernel
theorem dX8_backfill_0 : decode cX8_backfill 0 = .ok (.aload_n 0, 1) := by decide +kernel
theorem dX8_backfill_1 : decode cX8_backfill 1 = .ok (.getfield 10, 3) := by decide +kernel
theorem dX8_backfill_4 : decode cX8_backfill 4 = .ok (.invokevirtual 94, 3) := by decide +kernel
theorem dX8_backfill_7 : decode cX8_backfill 7 = .ok (.aload_n 0, 1) := by decide +kernel
theorem dX8_backfill_8 : decode cX8_backfill 8 = .ok (.getfield 10, 3) := by decide +kernel
theorem dX8_backfill_11 : decode cX8_backfill 11 = .ok (.getfield 97, 3) := by decide +kernel
theorem dX8_backfill_14 : decode cX8_backfill 14 = .ok (.ifCond .eq 6, 3) := by decide +kernel
theorem dX8_backfill_17 : decode cX8_backfill 17 = .ok (.bipush (-8), 2) := by decide +kernel
theorem dX8_backfill_19 : decode cX8_backfill 19 = .ok (.ireturn, 1) := by decide +kernel
theorem dX8_backfill_20 : decode cX8_backfill 20 = .ok (.iconst 0, 1) := by decide +kernel
theorem dX8_backfill_21 : decode cX8_backfill 21 = .ok (.istore_n 1, 1) := by decide +kernel
theorem dX8_backfill_22 : decode cX8_backfill 22 = .ok (.iconst 0, 1) := by decide +kernel
theorem dX8_backfill_23 : decode cX8_backfill 23 = .ok (.istore_n 2, 1) := by decide +kernel
theorem dX8_backfill_24 : decode cX8_backfill 24 = .ok (.iload_n 2, 1) := by decide +kernel
theorem dX8_backfill_25 : decode cX8_backfill 25 = .ok (.aload_n 0, 1) := by decide +kernel
theorem dX8_backfill_26 : decode cX8_backfill 26 = .ok (.getfield 19, 3) := by decide +kernel
theorem dX8_backfill_29 : decode cX8_backfill 29 = .ok (.getfield 107, 3) := by decide +kernel
theorem dX8_backfill_32 : decode cX8_backfill 32 = .ok (.if_icmp .ge 56, 3) := by decide +kernel
theorem dX8_backfill_35 : decode cX8_backfill 35 = .ok (.iload_n 1, 1) := by decide +kernel
theorem dX8_backfill_36 : decode cX8_backfill 36 = .ok (.iconst 4, 1) := by decide +kernel
theorem dX8_backfill_37 : decode cX8_backfill 37 = .ok (.if_icmp .ge 51, 3) := by decide +kernel
theorem dX8_backfill_40 : decode cX8_backfill 40 = .ok (.aload_n 0, 1) := by decide +kernel
theorem dX8_backfill_41 : decode cX8_backfill 41 = .ok (.getfield 19, 3) := by decide +kernel
theorem dX8_backfill_44 : decode cX8_backfill 44 = .ok (.getfield 119, 3) := by decide +kernel
theorem dX8_backfill_47 : decode cX8_backfill 47 = .ok (.iload_n 2, 1) := by decide +kernel
theorem dX8_backfill_48 : decode cX8_backfill 48 = .ok (.aaload, 1) := by decide +kernel
theorem dX8_backfill_49 : decode cX8_backfill 49 = .ok (.astore_n 3, 1) := by decide +kernel
theorem dX8_backfill_50 : decode cX8_backfill 50 = .ok (.aload_n 3, 1) := by decide +kernel
theorem dX8_backfill_51 : decode cX8_backfill 51 = .ok (.getfield 197, 3) := by decide +kernel
theorem dX8_backfill_54 : decode cX8_backfill 54 = .ok (.ifCond .eq 28, 3) := by decide +kernel
theorem dX8_backfill_57 : decode cX8_backfill 57 = .ok (.aload_n 0, 1) := by decide +kernel
theorem dX8_backfill_58 : decode cX8_backfill 58 = .ok (.getfield 10, 3) := by decide +kernel
theorem dX8_backfill_61 : decode cX8_backfill 61 = .ok (.aload_n 3, 1) := by decide +kernel
theorem dX8_backfill_62 : decode cX8_backfill 62 = .ok (.invokevirtual 123, 3) := by decide +kernel
theorem dX8_backfill_65 : decode cX8_backfill 65 = .ok (.invokevirtual 129, 3) := by decide +kernel
theorem dX8_backfill_68 : decode cX8_backfill 68 = .ok (.ifCond .ne 6, 3) := by decide +kernel
theorem dX8_backfill_71 : decode cX8_backfill 71 = .ok (.bipush (-9), 2) := by decide +kernel
theorem dX8_backfill_73 : decode cX8_backfill 73 = .ok (.ireturn, 1) := by decide +kernel
theorem dX8_backfill_74 : decode cX8_backfill 74 = .ok (.aload_n 3, 1) := by decide +kernel
theorem dX8_backfill_75 : decode cX8_backfill 75 = .ok (.iconst 0, 1) := by decide +kernel
theorem dX8_backfill_76 : decode cX8_backfill 76 = .ok (.putfield 197, 3) := by decide +kernel
theorem dX8_backfill_79 : decode cX8_backfill 79 = .ok (.iinc 1 1, 3) := by decide +kernel
theorem dX8_backfill_82 : decode cX8_backfill 82 = .ok (.iinc 2 1, 3) := by decide +kernel
theorem dX8_backfill_85 : decode cX8_backfill 85 = .ok (.goto (-61), 3) := by decide +kernel
theorem dX8_backfill_88 : decode cX8_backfill 88 = .ok (.iload_n 1, 1) := by decide +kernel
theorem dX8_backfill_89 : decode cX8_backfill 89 = .ok (.ifCond .le 16, 3) := by decide +kernel
theorem dX8_backfill_92 : decode cX8_backfill 92 = .ok (.aload_n 0, 1) := by decide +kernel
theorem dX8_backfill_93 : decode cX8_backfill 93 = .ok (.getfield 10, 3) := by decide +kernel
theorem dX8_backfill_96 : decode cX8_backfill 96 = .ok (.invokevirtual 108, 3) := by decide +kernel
theorem dX8_backfill_99 : decode cX8_backfill 99 = .ok (.ifCond .ne 6, 3) := by decide +kernel
theorem dX8_backfill_102 : decode cX8_backfill 102 = .ok (.bipush (-9), 2) := by decide +kernel
theorem dX8_backfill_104 : decode cX8_backfill 104 = .ok (.ireturn, 1) := by decide +kernel
theorem dX8_backfill_105 : decode cX8_backfill 105 = .ok (.iload_n 1, 1) := by decide +kernel
theorem dX8_backfill_106 : decode cX8_backfill 106 = .ok (.ireturn, 1) := by decide +kernel
theorem dX8_crash_0 : decode cX8_crash 0 = .ok (.iload_n 1, 1) := by decide +kernel
theorem dX8_crash_1 : decode cX8_crash 1 = .ok (.ifCond .lt 10, 3) := by decide +kernel
theorem dX8_crash_4 : decode cX8_crash 4 = .ok (.iload_n 1, 1) := by decide +kernel
theorem dX8_crash_5 : decode cX8_crash 5 = .ok (.sipush 1000, 3) := by decide +kernel
theorem dX8_crash_8 : decode cX8_crash 8 = .ok (.if_icmp .le 5, 3) := by decide +kernel
theorem dX8_crash_11 : decode cX8_crash 11 = .ok (.iconst (-1), 1) := by decide +kernel
theorem dX8_crash_12 : decode cX8_crash 12 = .ok (.ireturn, 1) := by decide +kernel
theorem dX8_crash_13 : decode cX8_crash 13 = .ok (.aload_n 0, 1) := by decide +kernel
theorem dX8_crash_14 : decode cX8_crash 14 = .ok (.getfield 10, 3) := by decide +kernel
theorem dX8_crash_17 : decode cX8_crash 17 = .ok (.iload_n 1, 1) := by decide +kernel
theorem dX8_crash_18 : decode cX8_crash 18 = .ok (.putfield 200, 3) := by decide +kernel
theorem dX8_crash_21 : decode cX8_crash 21 = .ok (.iconst 1, 1) := by decide +kernel
theorem dX8_crash_22 : decode cX8_crash 22 = .ok (.ireturn, 1) := by decide +kernel
theorem dX8_restart_0 : decode cX8_restart 0 = .ok (.aload_n 0, 1) := by decide +kernel
theorem dX8_restart_1 : decode cX8_restart 1 = .ok (.getfield 10, 3) := by decide +kernel
theorem dX8_restart_4 : decode cX8_restart 4 = .ok (.invokevirtual 94, 3) := by decide +kernel
theorem dX8_restart_7 : decode cX8_restart 7 = .ok (.aload_n 0, 1) := by decide +kernel
theorem dX8_restart_8 : decode cX8_restart 8 = .ok (.getfield 10, 3) := by decide +kernel
theorem dX8_restart_11 : decode cX8_restart 11 = .ok (.getfield 97, 3) := by decide +kernel
theorem dX8_restart_14 : decode cX8_restart 14 = .ok (.ifCond .ne 6, 3) := by decide +kernel
theorem dX8_restart_17 : decode cX8_restart 17 = .ok (.bipush (-2), 2) := by decide +kernel
theorem dX8_restart_19 : decode cX8_restart 19 = .ok (.ireturn, 1) := by decide +kernel
theorem dX8_restart_20 : decode cX8_restart 20 = .ok (.aload_n 0, 1) := by decide +kernel
theorem dX8_restart_21 : decode cX8_restart 21 = .ok (.getfield 10, 3) := by decide +kernel
theorem dX8_restart_24 : decode cX8_restart 24 = .ok (.getfield 203, 3) := by decide +kernel
theorem dX8_restart_27 : decode cX8_restart 27 = .ok (.ifCond .eq 16, 3) := by decide +kernel
theorem dX8_restart_30 : decode cX8_restart 30 = .ok (.aload_n 0, 1) := by decide +kernel
theorem dX8_restart_31 : decode cX8_restart 31 = .ok (.getfield 10, 3) := by decide +kernel
theorem dX8_restart_34 : decode cX8_restart 34 = .ok (.invokevirtual 116, 3) := by decide +kernel
theorem dX8_restart_37 : decode cX8_restart 37 = .ok (.ifCond .ne 6, 3) := by decide +kernel
theorem dX8_restart_40 : decode cX8_restart 40 = .ok (.bipush (-9), 2) := by decide +kernel
theorem dX8_restart_42 : decode cX8_restart 42 = .ok (.ireturn, 1) := by decide +kernel
theorem dX8_restart_43 : decode cX8_restart 43 = .ok (.aload_n 0, 1) := by decide +kernel
theorem dX8_restart_44 : decode cX8_restart 44 = .ok (.getfield 10, 3) := by decide +kernel
theorem dX8_restart_47 : decode cX8_restart 47 = .ok (.iconst 0, 1) := by decide +kernel
theorem dX8_restart_48 : decode cX8_restart 48 = .ok (.putfield 97, 3) := by decide +kernel
theorem dX8_restart_51 : decode cX8_restart 51 = .ok (.iconst 1, 1) := by decide +kernel
theorem dX8_restart_52 : decode cX8_restart 52 = .ok (.ireturn, 1) := by decide +kernel
theorem dX8_isDown_0 : decode cX8_isDown 0 = .ok (.aload_n 0, 1) := by decide +kernel
theorem dX8_isDown_1 : decode cX8_isDown 1 = .ok (.getfield 10, 3) := by decide +kernel
theorem dX8_isDown_4 : decode cX8_isDown 4 = .ok (.getfield 97, 3) := by decide +kernel
theorem dX8_isDown_7 : decode cX8_isDown 7 = .ok (.ireturn, 1) := by decide +kernel
theorem dX8_count_0 : decode cX8_count 0 = .ok (.iload_n 1, 1) := by decide +kernel
theorem dX8_count_1 : decode cX8_count 1 = .ok (.ifCond .lt 9, 3) := by decide +kernel
theorem dX8_count_4 : decode cX8_count 4 = .ok (.iload_n 1, 1) := by decide +kernel
theorem dX8_count_5 : decode cX8_count 5 = .ok (.bipush 9, 2) := by decide +kernel
theorem dX8_count_7 : decode cX8_count 7 = .ok (.if_icmp .le 5, 3) := by decide +kernel
theorem dX8_count_10 : decode cX8_count 10 = .ok (.iconst (-1), 1) := by decide +kernel
theorem dX8_count_11 : decode cX8_count 11 = .ok (.ireturn, 1) := by decide +kernel
theorem dX8_count_12 : decode cX8_count 12 = .ok (.iload_n 1, 1) := by decide +kernel
theorem dX8_count_13 : decode cX8_count 13 = .ok (.tableswitch 51 7 9 #[27, 35, 43], 27) := by decide +kernel
theorem dX8_count_40 : decode cX8_count 40 = .ok (.aload_n 0, 1) := by decide +kernel
theorem dX8_count_41 : decode cX8_count 41 = .ok (.getfield 10, 3) := by decide +kernel
theorem dX8_count_44 : decode cX8_count 44 = .ok (.getfield 206, 3) := by decide +kernel
theorem dX8_count_47 : decode cX8_count 47 = .ok (.ireturn, 1) := by decide +kernel
theorem dX8_count_48 : decode cX8_count 48 = .ok (.aload_n 0, 1) := by decide +kernel
theorem dX8_count_49 : decode cX8_count 49 = .ok (.getfield 53, 3) := by decide +kernel
theorem dX8_count_52 : decode cX8_count 52 = .ok (.getfield 67, 3) := by decide +kernel
theorem dX8_count_55 : decode cX8_count 55 = .ok (.ireturn, 1) := by decide +kernel
theorem dX8_count_56 : decode cX8_count 56 = .ok (.aload_n 0, 1) := by decide +kernel
theorem dX8_count_57 : decode cX8_count 57 = .ok (.getfield 10, 3) := by decide +kernel
theorem dX8_count_60 : decode cX8_count 60 = .ok (.getfield 209, 3) := by decide +kernel
theorem dX8_count_63 : decode cX8_count 63 = .ok (.ireturn, 1) := by decide +kernel
theorem dX8_count_64 : decode cX8_count 64 = .ok (.aload_n 0, 1) := by decide +kernel
theorem dX8_count_65 : decode cX8_count 65 = .ok (.getfield 10, 3) := by decide +kernel
theorem dX8_count_68 : decode cX8_count 68 = .ok (.getfield 97, 3) := by decide +kernel
theorem dX8_count_71 : decode cX8_count 71 = .ok (.ifCond .eq 8, 3) := by decide +kernel
theorem dX8_count_74 : decode cX8_count 74 = .ok (.bipush (-8), 2) := by decide +kernel
theorem dX8_count_76 : decode cX8_count 76 = .ok (.goto 8, 3) := by decide +kernel
theorem dX8_count_79 : decode cX8_count 79 = .ok (.aload_n 0, 1) := by decide +kernel
theorem dX8_count_80 : decode cX8_count 80 = .ok (.iload_n 1, 1) := by decide +kernel
theorem dX8_count_81 : decode cX8_count 81 = .ok (.invokevirtual 212, 3) := by decide +kernel
theorem dX8_count_84 : decode cX8_count 84 = .ok (.ireturn, 1) := by decide +kernel
theorem dX8_column_0 : decode cX8_column 0 = .ok (.aload_n 0, 1) := by decide +kernel
theorem dX8_column_1 : decode cX8_column 1 = .ok (.getfield 10, 3) := by decide +kernel
theorem dX8_column_4 : decode cX8_column 4 = .ok (.getfield 97, 3) := by decide +kernel
theorem dX8_column_7 : decode cX8_column 7 = .ok (.ifCond .eq 6, 3) := by decide +kernel
theorem dX8_column_10 : decode cX8_column 10 = .ok (.bipush (-8), 2) := by decide +kernel
theorem dX8_column_12 : decode cX8_column 12 = .ok (.ireturn, 1) := by decide +kernel
theorem dX8_column_13 : decode cX8_column 13 = .ok (.iload_n 2, 1) := by decide +kernel
theorem dX8_column_14 : decode cX8_column 14 = .ok (.ifCond .eq 13, 3) := by decide +kernel
theorem dX8_column_17 : decode cX8_column 17 = .ok (.aload_n 0, 1) := by decide +kernel
theorem dX8_column_18 : decode cX8_column 18 = .ok (.getfield 101, 3) := by decide +kernel
theorem dX8_column_21 : decode cX8_column 21 = .ok (.ifCond .ne 6, 3) := by decide +kernel
theorem dX8_column_24 : decode cX8_column 24 = .ok (.bipush (-2), 2) := by decide +kernel
theorem dX8_column_26 : decode cX8_column 26 = .ok (.ireturn, 1) := by decide +kernel
theorem dX8_column_27 : decode cX8_column 27 = .ok (.iload_n 2, 1) := by decide +kernel
theorem dX8_column_28 : decode cX8_column 28 = .ok (.ifCond .eq 10, 3) := by decide +kernel
theorem dX8_column_31 : decode cX8_column 31 = .ok (.aload_n 0, 1) := by decide +kernel
theorem dX8_column_32 : decode cX8_column 32 = .ok (.getfield 47, 3) := by decide +kernel
theorem dX8_column_35 : decode cX8_column 35 = .ok (.goto 7, 3) := by decide +kernel
theorem dX8_column_38 : decode cX8_column 38 = .ok (.aload_n 0, 1) := by decide +kernel
theorem dX8_column_39 : decode cX8_column 39 = .ok (.getfield 44, 3) := by decide +kernel
theorem dX8_column_42 : decode cX8_column 42 = .ok (.astore_n 3, 1) := by decide +kernel
theorem dX8_column_43 : decode cX8_column 43 = .ok (.iload_n 1, 1) := by decide +kernel
theorem dX8_column_44 : decode cX8_column 44 = .ok (.ifCond .lt 11, 3) := by decide +kernel
theorem dX8_column_47 : decode cX8_column 47 = .ok (.iload_n 1, 1) := by decide +kernel
theorem dX8_column_48 : decode cX8_column 48 = .ok (.aload_n 3, 1) := by decide +kernel
theorem dX8_column_49 : decode cX8_column 49 = .ok (.getfield 152, 3) := by decide +kernel
theorem dX8_column_52 : decode cX8_column 52 = .ok (.if_icmp .lt 5, 3) := by decide +kernel
theorem dX8_column_55 : decode cX8_column 55 = .ok (.iconst (-1), 1) := by decide +kernel
theorem dX8_column_56 : decode cX8_column 56 = .ok (.ireturn, 1) := by decide +kernel
theorem dX8_column_57 : decode cX8_column 57 = .ok (.bipush 8, 2) := by decide +kernel
theorem dX8_column_59 : decode cX8_column 59 = .ok (.aload_n 3, 1) := by decide +kernel
theorem dX8_column_60 : decode cX8_column 60 = .ok (.getfield 215, 3) := by decide +kernel
theorem dX8_column_63 : decode cX8_column 63 = .ok (.iload_n 1, 1) := by decide +kernel
theorem dX8_column_64 : decode cX8_column 64 = .ok (.iaload, 1) := by decide +kernel
theorem dX8_column_65 : decode cX8_column 65 = .ok (.imul, 1) := by decide +kernel
theorem dX8_column_66 : decode cX8_column 66 = .ok (.aload_n 3, 1) := by decide +kernel
theorem dX8_column_67 : decode cX8_column 67 = .ok (.getfield 160, 3) := by decide +kernel
theorem dX8_column_70 : decode cX8_column 70 = .ok (.iload_n 1, 1) := by decide +kernel
theorem dX8_column_71 : decode cX8_column 71 = .ok (.iaload, 1) := by decide +kernel
theorem dX8_column_72 : decode cX8_column 72 = .ok (.iadd, 1) := by decide +kernel
theorem dX8_column_73 : decode cX8_column 73 = .ok (.ireturn, 1) := by decide +kernel
theorem dX8_isName_0 : decode cX8_isName 0 = .ok (.iload_n 0, 1) := by decide +kernel
theorem dX8_isName_1 : decode cX8_isName 1 = .ok (.ifCond .lt 13, 3) := by decide +kernel
theorem dX8_isName_4 : decode cX8_isName 4 = .ok (.iload_n 0, 1) := by decide +kernel
theorem dX8_isName_5 : decode cX8_isName 5 = .ok (.bipush 63, 2) := by decide +kernel
theorem dX8_isName_7 : decode cX8_isName 7 = .ok (.if_icmp .gt 7, 3) := by decide +kernel
theorem dX8_isName_10 : decode cX8_isName 10 = .ok (.iconst 1, 1) := by decide +kernel
theorem dX8_isName_11 : decode cX8_isName 11 = .ok (.goto 4, 3) := by decide +kernel
theorem dX8_isName_14 : decode cX8_isName 14 = .ok (.iconst 0, 1) := by decide +kernel
theorem dX8_isName_15 : decode cX8_isName 15 = .ok (.ireturn, 1) := by decide +kernel
theorem dX8_isType_0 : decode cX8_isType 0 = .ok (.iload_n 0, 1) := by decide +kernel
theorem dX8_isType_1 : decode cX8_isType 1 = .ok (.ifCond .lt 12, 3) := by decide +kernel
theorem dX8_isType_4 : decode cX8_isType 4 = .ok (.iload_n 0, 1) := by decide +kernel
theorem dX8_isType_5 : decode cX8_isType 5 = .ok (.iconst 4, 1) := by decide +kernel
theorem dX8_isType_6 : decode cX8_isType 6 = .ok (.if_icmp .gt 7, 3) := by decide +kernel
theorem dX8_isType_9 : decode cX8_isType 9 = .ok (.iconst 1, 1) := by decide +kernel
theorem dX8_isType_10 : decode cX8_isType 10 = .ok (.goto 4, 3) := by decide +kernel
theorem dX8_isType_13 : decode cX8_isType 13 = .ok (.iconst 0, 1) := by decide +kernel
theorem dX8_isType_14 : decode cX8_isType 14 = .ok (.ireturn, 1) := by decide +kernel
theorem dX8_isCell_0 : decode cX8_isCell 0 = .ok (.iload_n 0, 1) := by decide +kernel
theorem dX8_isCell_1 : decode cX8_isCell 1 = .ok (.ifCond .lt 13, 3) := by decide +kernel
theorem dX8_isCell_4 : decode cX8_isCell 4 = .ok (.iload_n 0, 1) := by decide +kernel
theorem dX8_isCell_5 : decode cX8_isCell 5 = .ok (.bipush 8, 2) := by decide +kernel
theorem dX8_isCell_7 : decode cX8_isCell 7 = .ok (.if_icmp .ge 7, 3) := by decide +kernel
theorem dX8_isCell_10 : decode cX8_isCell 10 = .ok (.iconst 1, 1) := by decide +kernel
theorem dX8_isCell_11 : decode cX8_isCell 11 = .ok (.goto 4, 3) := by decide +kernel
theorem dX8_isCell_14 : decode cX8_isCell 14 = .ok (.iconst 0, 1) := by decide +kernel
theorem dX8_isCell_15 : decode cX8_isCell 15 = .ok (.ireturn, 1) := by decide +kernel
theorem dX8_joined_0 : decode cX8_joined 0 = .ok (.iload_n 0, 1) := by decide +kernel
theorem dX8_joined_1 : decode cX8_joined 1 = .ok (.i2l, 1) := by decide +kernel
theorem dX8_joined_2 : decode cX8_joined 2 = .ok (.bipush 32, 2) := by decide +kernel
theorem dX8_joined_4 : decode cX8_joined 4 = .ok (.lshl, 1) := by decide +kernel
theorem dX8_joined_5 : decode cX8_joined 5 = .ok (.iload_n 1, 1) := by decide +kernel
theorem dX8_joined_6 : decode cX8_joined 6 = .ok (.i2l, 1) := by decide +kernel
theorem dX8_joined_7 : decode cX8_joined 7 = .ok (.ldc2_w 218, 3) := by decide +kernel
theorem dX8_joined_10 : decode cX8_joined 10 = .ok (.land, 1) := by decide +kernel
theorem dX8_joined_11 : decode cX8_joined 11 = .ok (.lor, 1) := by decide +kernel
theorem dX8_joined_12 : decode cX8_joined 12 = .ok (.lreturn, 1) := by decide +kernel
theorem dX8_isSeenColumn_0 : decode cX8_isSeenColumn 0 = .ok (.aload_n 0, 1) := by decide +kernel
theorem dX8_isSeenColumn_1 : decode cX8_isSeenColumn 1 = .ok (.getfield 136, 3) := by decide +kernel
theorem dX8_isSeenColumn_4 : decode cX8_isSeenColumn 4 = .ok (.ifCond .eq 22, 3) := by decide +kernel
theorem dX8_isSeenColumn_7 : decode cX8_isSeenColumn 7 = .ok (.iload_n 1, 1) := by decide +kernel
theorem dX8_isSeenColumn_8 : decode cX8_isSeenColumn 8 = .ok (.ifCond .lt 18, 3) := by decide +kernel
theorem dX8_isSeenColumn_11 : decode cX8_isSeenColumn 11 = .ok (.iload_n 1, 1) := by decide +kernel
theorem dX8_isSeenColumn_12 : decode cX8_isSeenColumn 12 = .ok (.aload_n 0, 1) := by decide +kernel
theorem dX8_isSeenColumn_13 : decode cX8_isSeenColumn 13 = .ok (.getfield 40, 3) := by decide +kernel
theorem dX8_isSeenColumn_16 : decode cX8_isSeenColumn 16 = .ok (.getfield 152, 3) := by decide +kernel
theorem dX8_isSeenColumn_19 : decode cX8_isSeenColumn 19 = .ok (.if_icmp .ge 7, 3) := by decide +kernel
theorem dX8_isSeenColumn_22 : decode cX8_isSeenColumn 22 = .ok (.iconst 1, 1) := by decide +kernel
theorem dX8_isSeenColumn_23 : decode cX8_isSeenColumn 23 = .ok (.goto 4, 3) := by decide +kernel
theorem dX8_isSeenColumn_26 : decode cX8_isSeenColumn 26 = .ok (.iconst 0, 1) := by decide +kernel
theorem dX8_isSeenColumn_27 : decode cX8_isSeenColumn 27 = .ok (.ireturn, 1) := by decide +kernel
theorem dX8_putDraft_0 : decode cX8_putDraft 0 = .ok (.aload_n 0, 1) := by decide +kernel
theorem dX8_putDraft_1 : decode cX8_putDraft 1 = .ok (.getfield 19, 3) := by decide +kernel
theorem dX8_putDraft_4 : decode cX8_putDraft 4 = .ok (.iload_n 1, 1) := by decide +kernel
theorem dX8_putDraft_5 : decode cX8_putDraft 5 = .ok (.invokevirtual 104, 3) := by decide +kernel
theorem dX8_putDraft_8 : decode cX8_putDraft 8 = .ok (.istore_n 3, 1) := by decide +kernel
theorem dX8_putDraft_9 : decode cX8_putDraft 9 = .ok (.iload_n 3, 1) := by decide +kernel
theorem dX8_putDraft_10 : decode cX8_putDraft 10 = .ok (.ifCond .lt 15, 3) := by decide +kernel
theorem dX8_putDraft_13 : decode cX8_putDraft 13 = .ok (.aload_n 0, 1) := by decide +kernel
theorem dX8_putDraft_14 : decode cX8_putDraft 14 = .ok (.getfield 19, 3) := by decide +kernel
theorem dX8_putDraft_17 : decode cX8_putDraft 17 = .ok (.getfield 119, 3) := by decide +kernel
theorem dX8_putDraft_20 : decode cX8_putDraft 20 = .ok (.iload_n 3, 1) := by decide +kernel
theorem dX8_putDraft_21 : decode cX8_putDraft 21 = .ok (.aaload, 1) := by decide +kernel
theorem dX8_putDraft_22 : decode cX8_putDraft 22 = .ok (.goto 11, 3) := by decide +kernel
theorem dX8_putDraft_25 : decode cX8_putDraft 25 = .ok (.aload_n 0, 1) := by decide +kernel
theorem dX8_putDraft_26 : decode cX8_putDraft 26 = .ok (.getfield 19, 3) := by decide +kernel
theorem dX8_putDraft_29 : decode cX8_putDraft 29 = .ok (.iload_n 1, 1) := by decide +kernel
theorem dX8_putDraft_30 : decode cX8_putDraft 30 = .ok (.invokevirtual 220, 3) := by decide +kernel
theorem dX8_putDraft_33 : decode cX8_putDraft 33 = .ok (.astore 4, 2) := by decide +kernel
theorem dX8_putDraft_35 : decode cX8_putDraft 35 = .ok (.iload_n 2, 1) := by decide +kernel
theorem dX8_putDraft_36 : decode cX8_putDraft 36 = .ok (.ifCond .eq 46, 3) := by decide +kernel
theorem dX8_putDraft_39 : decode cX8_putDraft 39 = .ok (.aload_n 0, 1) := by decide +kernel
theorem dX8_putDraft_40 : decode cX8_putDraft 40 = .ok (.getfield 26, 3) := by decide +kernel
theorem dX8_putDraft_43 : decode cX8_putDraft 43 = .ok (.aload 4, 2) := by decide +kernel
theorem dX8_putDraft_45 : decode cX8_putDraft 45 = .ok (.getfield 139, 3) := by decide +kernel
theorem dX8_putDraft_48 : decode cX8_putDraft 48 = .ok (.aload_n 0, 1) := by decide +kernel
theorem dX8_putDraft_49 : decode cX8_putDraft 49 = .ok (.getfield 47, 3) := by decide +kernel
theorem dX8_putDraft_52 : decode cX8_putDraft 52 = .ok (.invokevirtual 224, 3) := by decide +kernel
theorem dX8_putDraft_55 : decode cX8_putDraft 55 = .ok (.aload_n 0, 1) := by decide +kernel
theorem dX8_putDraft_56 : decode cX8_putDraft 56 = .ok (.getfield 57, 3) := by decide +kernel
theorem dX8_putDraft_59 : decode cX8_putDraft 59 = .ok (.aload 4, 2) := by decide +kernel
theorem dX8_putDraft_61 : decode cX8_putDraft 61 = .ok (.getfield 139, 3) := by decide +kernel
theorem dX8_putDraft_64 : decode cX8_putDraft 64 = .ok (.aload 4, 2) := by decide +kernel
theorem dX8_putDraft_66 : decode cX8_putDraft 66 = .ok (.getfield 142, 3) := by decide +kernel
theorem dX8_putDraft_69 : decode cX8_putDraft 69 = .ok (.aload_n 0, 1) := by decide +kernel
theorem dX8_putDraft_70 : decode cX8_putDraft 70 = .ok (.getfield 44, 3) := by decide +kernel
theorem dX8_putDraft_73 : decode cX8_putDraft 73 = .ok (.getfield 152, 3) := by decide +kernel
theorem dX8_putDraft_76 : decode cX8_putDraft 76 = .ok (.invokevirtual 228, 3) := by decide +kernel
theorem dX8_putDraft_79 : decode cX8_putDraft 79 = .ok (.goto 43, 3) := by decide +kernel
theorem dX8_putDraft_82 : decode cX8_putDraft 82 = .ok (.aload_n 0, 1) := by decide +kernel
theorem dX8_putDraft_83 : decode cX8_putDraft 83 = .ok (.getfield 26, 3) := by decide +kernel
theorem dX8_putDraft_86 : decode cX8_putDraft 86 = .ok (.aload 4, 2) := by decide +kernel
theorem dX8_putDraft_88 : decode cX8_putDraft 88 = .ok (.getfield 142, 3) := by decide +kernel
theorem dX8_putDraft_91 : decode cX8_putDraft 91 = .ok (.aload_n 0, 1) := by decide +kernel
theorem dX8_putDraft_92 : decode cX8_putDraft 92 = .ok (.getfield 44, 3) := by decide +kernel
theorem dX8_putDraft_95 : decode cX8_putDraft 95 = .ok (.invokevirtual 224, 3) := by decide +kernel
theorem dX8_putDraft_98 : decode cX8_putDraft 98 = .ok (.aload_n 0, 1) := by decide +kernel
theorem dX8_putDraft_99 : decode cX8_putDraft 99 = .ok (.getfield 101, 3) := by decide +kernel
theorem dX8_putDraft_102 : decode cX8_putDraft 102 = .ok (.ifCond .eq 20, 3) := by decide +kernel
theorem dX8_putDraft_105 : decode cX8_putDraft 105 = .ok (.aload_n 0, 1) := by decide +kernel
theorem dX8_putDraft_106 : decode cX8_putDraft 106 = .ok (.getfield 57, 3) := by decide +kernel
theorem dX8_putDraft_109 : decode cX8_putDraft 109 = .ok (.aload 4, 2) := by decide +kernel
theorem dX8_putDraft_111 : decode cX8_putDraft 111 = .ok (.getfield 142, 3) := by decide +kernel
theorem dX8_putDraft_114 : decode cX8_putDraft 114 = .ok (.aload 4, 2) := by decide +kernel
theorem dX8_putDraft_116 : decode cX8_putDraft 116 = .ok (.getfield 139, 3) := by decide +kernel
theorem dX8_putDraft_119 : decode cX8_putDraft 119 = .ok (.invokevirtual 232, 3) := by decide +kernel
theorem dX8_putDraft_122 : decode cX8_putDraft 122 = .ok (.aload 4, 2) := by decide +kernel
theorem dX8_putDraft_124 : decode cX8_putDraft 124 = .ok (.invokevirtual 236, 3) := by decide +kernel
theorem dX8_putDraft_127 : decode cX8_putDraft 127 = .ok (.return_, 1) := by decide +kernel
theorem dX8_runPlan_0 : decode cX8_runPlan 0 = .ok (.aload_n 0, 1) := by decide +kernel
theorem dX8_runPlan_1 : decode cX8_runPlan 1 = .ok (.getfield 57, 3) := by decide +kernel
theorem dX8_runPlan_4 : decode cX8_runPlan 4 = .ok (.astore_n 1, 1) := by decide +kernel
theorem dX8_runPlan_5 : decode cX8_runPlan 5 = .ok (.aload_n 0, 1) := by decide +kernel
theorem dX8_runPlan_6 : decode cX8_runPlan 6 = .ok (.aload_n 0, 1) := by decide +kernel
theorem dX8_runPlan_7 : decode cX8_runPlan 7 = .ok (.getfield 53, 3) := by decide +kernel
theorem dX8_runPlan_10 : decode cX8_runPlan 10 = .ok (.putfield 57, 3) := by decide +kernel
theorem dX8_runPlan_13 : decode cX8_runPlan 13 = .ok (.aload_n 0, 1) := by decide +kernel
theorem dX8_runPlan_14 : decode cX8_runPlan 14 = .ok (.aload_n 1, 1) := by decide +kernel
theorem dX8_runPlan_15 : decode cX8_runPlan 15 = .ok (.putfield 53, 3) := by decide +kernel
theorem dX8_runPlan_18 : decode cX8_runPlan 18 = .ok (.aload_n 0, 1) := by decide +kernel
theorem dX8_runPlan_19 : decode cX8_runPlan 19 = .ok (.getfield 53, 3) := by decide +kernel
theorem dX8_runPlan_22 : decode cX8_runPlan 22 = .ok (.iconst 0, 1) := by decide +kernel
theorem dX8_runPlan_23 : decode cX8_runPlan 23 = .ok (.putfield 67, 3) := by decide +kernel
theorem dX8_runPlan_26 : decode cX8_runPlan 26 = .ok (.aload_n 0, 1) := by decide +kernel
theorem dX8_runPlan_27 : decode cX8_runPlan 27 = .ok (.iconst 1, 1) := by decide +kernel
theorem dX8_runPlan_28 : decode cX8_runPlan 28 = .ok (.putfield 101, 3) := by decide +kernel
theorem dX8_runPlan_31 : decode cX8_runPlan 31 = .ok (.iconst 0, 1) := by decide +kernel
theorem dX8_runPlan_32 : decode cX8_runPlan 32 = .ok (.istore_n 2, 1) := by decide +kernel
theorem dX8_runPlan_33 : decode cX8_runPlan 33 = .ok (.iload_n 2, 1) := by decide +kernel
theorem dX8_runPlan_34 : decode cX8_runPlan 34 = .ok (.aload_n 0, 1) := by decide +kernel
theorem dX8_runPlan_35 : decode cX8_runPlan 35 = .ok (.getfield 19, 3) := by decide +kernel
theorem dX8_runPlan_38 : decode cX8_runPlan 38 = .ok (.getfield 107, 3) := by decide +kernel
theorem dX8_runPlan_41 : decode cX8_runPlan 41 = .ok (.if_icmp .ge 38, 3) := by decide +kernel
theorem dX8_runPlan_44 : decode cX8_runPlan 44 = .ok (.aload_n 0, 1) := by decide +kernel
theorem dX8_runPlan_45 : decode cX8_runPlan 45 = .ok (.getfield 19, 3) := by decide +kernel
theorem dX8_runPlan_48 : decode cX8_runPlan 48 = .ok (.getfield 119, 3) := by decide +kernel
theorem dX8_runPlan_51 : decode cX8_runPlan 51 = .ok (.iload_n 2, 1) := by decide +kernel
theorem dX8_runPlan_52 : decode cX8_runPlan 52 = .ok (.aaload, 1) := by decide +kernel
theorem dX8_runPlan_53 : decode cX8_runPlan 53 = .ok (.astore_n 3, 1) := by decide +kernel
theorem dX8_runPlan_54 : decode cX8_runPlan 54 = .ok (.aload_n 0, 1) := by decide +kernel
theorem dX8_runPlan_55 : decode cX8_runPlan 55 = .ok (.getfield 57, 3) := by decide +kernel
theorem dX8_runPlan_58 : decode cX8_runPlan 58 = .ok (.aload_n 3, 1) := by decide +kernel
theorem dX8_runPlan_59 : decode cX8_runPlan 59 = .ok (.getfield 142, 3) := by decide +kernel
theorem dX8_runPlan_62 : decode cX8_runPlan 62 = .ok (.aload_n 3, 1) := by decide +kernel
theorem dX8_runPlan_63 : decode cX8_runPlan 63 = .ok (.getfield 139, 3) := by decide +kernel
theorem dX8_runPlan_66 : decode cX8_runPlan 66 = .ok (.invokevirtual 232, 3) := by decide +kernel
theorem dX8_runPlan_69 : decode cX8_runPlan 69 = .ok (.aload_n 3, 1) := by decide +kernel
theorem dX8_runPlan_70 : decode cX8_runPlan 70 = .ok (.invokevirtual 239, 3) := by decide +kernel
theorem dX8_runPlan_73 : decode cX8_runPlan 73 = .ok (.iinc 2 1, 3) := by decide +kernel
theorem dX8_runPlan_76 : decode cX8_runPlan 76 = .ok (.goto (-43), 3) := by decide +kernel
theorem dX8_runPlan_79 : decode cX8_runPlan 79 = .ok (.return_, 1) := by decide +kernel
theorem dX8_endRunning_0 : decode cX8_endRunning 0 = .ok (.aload_n 0, 1) := by decide +kernel
theorem dX8_endRunning_1 : decode cX8_endRunning 1 = .ok (.getfield 10, 3) := by decide +kernel
theorem dX8_endRunning_4 : decode cX8_endRunning 4 = .ok (.invokevirtual 94, 3) := by decide +kernel
theorem dX8_endRunning_7 : decode cX8_endRunning 7 = .ok (.aload_n 0, 1) := by decide +kernel
theorem dX8_endRunning_8 : decode cX8_endRunning 8 = .ok (.getfield 10, 3) := by decide +kernel
theorem dX8_endRunning_11 : decode cX8_endRunning 11 = .ok (.getfield 97, 3) := by decide +kernel
theorem dX8_endRunning_14 : decode cX8_endRunning 14 = .ok (.ifCond .eq 6, 3) := by decide +kernel
theorem dX8_endRunning_17 : decode cX8_endRunning 17 = .ok (.bipush (-8), 2) := by decide +kernel
theorem dX8_endRunning_19 : decode cX8_endRunning 19 = .ok (.ireturn, 1) := by decide +kernel
theorem dX8_endRunning_20 : decode cX8_endRunning 20 = .ok (.aload_n 0, 1) := by decide +kernel
theorem dX8_endRunning_21 : decode cX8_endRunning 21 = .ok (.getfield 101, 3) := by decide +kernel
theorem dX8_endRunning_24 : decode cX8_endRunning 24 = .ok (.ifCond .ne 6, 3) := by decide +kernel
theorem dX8_endRunning_27 : decode cX8_endRunning 27 = .ok (.bipush (-2), 2) := by decide +kernel
theorem dX8_endRunning_29 : decode cX8_endRunning 29 = .ok (.ireturn, 1) := by decide +kernel
theorem dX8_endRunning_30 : decode cX8_endRunning 30 = .ok (.aload_n 0, 1) := by decide +kernel
theorem dX8_endRunning_31 : decode cX8_endRunning 31 = .ok (.getfield 10, 3) := by decide +kernel
theorem dX8_endRunning_34 : decode cX8_endRunning 34 = .ok (.invokevirtual 108, 3) := by decide +kernel
theorem dX8_endRunning_37 : decode cX8_endRunning 37 = .ok (.ifCond .ne 6, 3) := by decide +kernel
theorem dX8_endRunning_40 : decode cX8_endRunning 40 = .ok (.bipush (-9), 2) := by decide +kernel
theorem dX8_endRunning_42 : decode cX8_endRunning 42 = .ok (.ireturn, 1) := by decide +kernel
theorem dX8_endRunning_43 : decode cX8_endRunning 43 = .ok (.aload_n 0, 1) := by decide +kernel
theorem dX8_endRunning_44 : decode cX8_endRunning 44 = .ok (.iconst 0, 1) := by decide +kernel
theorem dX8_endRunning_45 : decode cX8_endRunning 45 = .ok (.putfield 101, 3) := by decide +kernel
theorem dX8_endRunning_48 : decode cX8_endRunning 48 = .ok (.iconst 0, 1) := by decide +kernel
theorem dX8_endRunning_49 : decode cX8_endRunning 49 = .ok (.ireturn, 1) := by decide +kernel
theorem dX8_countWhenUp_0 : decode cX8_countWhenUp 0 = .ok (.iload_n 1, 1) := by decide +kernel
theorem dX8_countWhenUp_1 : decode cX8_countWhenUp 1 = .ok (.tableswitch 100 0 5 #[39, 44, 57, 65, 84, 92], 39) := by decide +kernel
theorem dX8_countWhenUp_40 : decode cX8_countWhenUp 40 = .ok (.aload_n 0, 1) := by decide +kernel
theorem dX8_countWhenUp_41 : decode cX8_countWhenUp 41 = .ok (.getfield 178, 3) := by decide +kernel
theorem dX8_countWhenUp_44 : decode cX8_countWhenUp 44 = .ok (.ireturn, 1) := by decide +kernel
theorem dX8_countWhenUp_45 : decode cX8_countWhenUp 45 = .ok (.aload_n 0, 1) := by decide +kernel
theorem dX8_countWhenUp_46 : decode cX8_countWhenUp 46 = .ok (.getfield 101, 3) := by decide +kernel
theorem dX8_countWhenUp_49 : decode cX8_countWhenUp 49 = .ok (.ifCond .eq 7, 3) := by decide +kernel
theorem dX8_countWhenUp_52 : decode cX8_countWhenUp 52 = .ok (.iconst 1, 1) := by decide +kernel
theorem dX8_countWhenUp_53 : decode cX8_countWhenUp 53 = .ok (.goto 4, 3) := by decide +kernel
theorem dX8_countWhenUp_56 : decode cX8_countWhenUp 56 = .ok (.iconst 0, 1) := by decide +kernel
theorem dX8_countWhenUp_57 : decode cX8_countWhenUp 57 = .ok (.ireturn, 1) := by decide +kernel
theorem dX8_countWhenUp_58 : decode cX8_countWhenUp 58 = .ok (.aload_n 0, 1) := by decide +kernel
theorem dX8_countWhenUp_59 : decode cX8_countWhenUp 59 = .ok (.getfield 44, 3) := by decide +kernel
theorem dX8_countWhenUp_62 : decode cX8_countWhenUp 62 = .ok (.getfield 152, 3) := by decide +kernel
theorem dX8_countWhenUp_65 : decode cX8_countWhenUp 65 = .ok (.ireturn, 1) := by decide +kernel
theorem dX8_countWhenUp_66 : decode cX8_countWhenUp 66 = .ok (.aload_n 0, 1) := by decide +kernel
theorem dX8_countWhenUp_67 : decode cX8_countWhenUp 67 = .ok (.getfield 101, 3) := by decide +kernel
theorem dX8_countWhenUp_70 : decode cX8_countWhenUp 70 = .ok (.ifCond .eq 13, 3) := by decide +kernel
theorem dX8_countWhenUp_73 : decode cX8_countWhenUp 73 = .ok (.aload_n 0, 1) := by decide +kernel
theorem dX8_countWhenUp_74 : decode cX8_countWhenUp 74 = .ok (.getfield 47, 3) := by decide +kernel
theorem dX8_countWhenUp_77 : decode cX8_countWhenUp 77 = .ok (.getfield 152, 3) := by decide +kernel
theorem dX8_countWhenUp_80 : decode cX8_countWhenUp 80 = .ok (.goto 4, 3) := by decide +kernel
theorem dX8_countWhenUp_83 : decode cX8_countWhenUp 83 = .ok (.iconst 0, 1) := by decide +kernel
theorem dX8_countWhenUp_84 : decode cX8_countWhenUp 84 = .ok (.ireturn, 1) := by decide +kernel
theorem dX8_countWhenUp_85 : decode cX8_countWhenUp 85 = .ok (.aload_n 0, 1) := by decide +kernel
theorem dX8_countWhenUp_86 : decode cX8_countWhenUp 86 = .ok (.getfield 19, 3) := by decide +kernel
theorem dX8_countWhenUp_89 : decode cX8_countWhenUp 89 = .ok (.getfield 107, 3) := by decide +kernel
theorem dX8_countWhenUp_92 : decode cX8_countWhenUp 92 = .ok (.ireturn, 1) := by decide +kernel
theorem dX8_countWhenUp_93 : decode cX8_countWhenUp 93 = .ok (.aload_n 0, 1) := by decide +kernel
theorem dX8_countWhenUp_94 : decode cX8_countWhenUp 94 = .ok (.getfield 19, 3) := by decide +kernel
theorem dX8_countWhenUp_97 : decode cX8_countWhenUp 97 = .ok (.invokevirtual 242, 3) := by decide +kernel
theorem dX8_countWhenUp_100 : decode cX8_countWhenUp 100 = .ok (.ireturn, 1) := by decide +kernel
theorem dX8_countWhenUp_101 : decode cX8_countWhenUp 101 = .ok (.aload_n 0, 1) := by decide +kernel
theorem dX8_countWhenUp_102 : decode cX8_countWhenUp 102 = .ok (.getfield 19, 3) := by decide +kernel
theorem dX8_countWhenUp_105 : decode cX8_countWhenUp 105 = .ok (.invokevirtual 175, 3) := by decide +kernel
theorem dX8_countWhenUp_108 : decode cX8_countWhenUp 108 = .ok (.ireturn, 1) := by decide +kernel
