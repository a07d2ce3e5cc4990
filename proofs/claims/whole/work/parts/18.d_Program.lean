theorem dX4_init_0 : decode cX4_init 0 = .ok (.aload_n 0, 1) := by decide +kernel
theorem dX4_init_1 : decode cX4_init 1 = .ok (.invokespecial 5, 3) := by decide +kernel
theorem dX4_init_4 : decode cX4_init 4 = .ok (.aload_n 0, 1) := by decide +kernel
theorem dX4_init_5 : decode cX4_init 5 = .ok (.sipush 240, 3) := by decide +kernel
theorem dX4_init_8 : decode cX4_init 8 = .ok (.newarray .int, 2) := by decide +kernel
theorem dX4_init_10 : decode cX4_init 10 = .ok (.putfield 13, 3) := by decide +kernel
theorem dX4_init_13 : decode cX4_init 13 = .ok (.aload_n 0, 1) := by decide +kernel
theorem dX4_init_14 : decode cX4_init 14 = .ok (.sipush 240, 3) := by decide +kernel
theorem dX4_init_17 : decode cX4_init 17 = .ok (.newarray .int, 2) := by decide +kernel
theorem dX4_init_19 : decode cX4_init 19 = .ok (.putfield 17, 3) := by decide +kernel
theorem dX4_init_22 : decode cX4_init 22 = .ok (.aload_n 0, 1) := by decide +kernel
theorem dX4_init_23 : decode cX4_init 23 = .ok (.sipush 240, 3) := by decide +kernel
theorem dX4_init_26 : decode cX4_init 26 = .ok (.newarray .int, 2) := by decide +kernel
theorem dX4_init_28 : decode cX4_init 28 = .ok (.putfield 20, 3) := by decide +kernel
theorem dX4_init_31 : decode cX4_init 31 = .ok (.aload_n 0, 1) := by decide +kernel
theorem dX4_init_32 : decode cX4_init 32 = .ok (.sipush 240, 3) := by decide +kernel
theorem dX4_init_35 : decode cX4_init 35 = .ok (.newarray .int, 2) := by decide +kernel
theorem dX4_init_37 : decode cX4_init 37 = .ok (.putfield 23, 3) := by decide +kernel
theorem dX4_init_40 : decode cX4_init 40 = .ok (.aload_n 0, 1) := by decide +kernel
theorem dX4_init_41 : decode cX4_init 41 = .ok (.sipush 720, 3) := by decide +kernel
theorem dX4_init_44 : decode cX4_init 44 = .ok (.newarray .int, 2) := by decide +kernel
theorem dX4_init_46 : decode cX4_init 46 = .ok (.putfield 26, 3) := by decide +kernel
theorem dX4_init_49 : decode cX4_init 49 = .ok (.aload_n 0, 1) := by decide +kernel
theorem dX4_init_50 : decode cX4_init 50 = .ok (.sipush 241, 3) := by decide +kernel
theorem dX4_init_53 : decode cX4_init 53 = .ok (.newarray .int, 2) := by decide +kernel
theorem dX4_init_55 : decode cX4_init 55 = .ok (.putfield 29, 3) := by decide +kernel
theorem dX4_init_58 : decode cX4_init 58 = .ok (.aload_n 0, 1) := by decide +kernel
theorem dX4_init_59 : decode cX4_init 59 = .ok (.iconst 0, 1) := by decide +kernel
theorem dX4_init_60 : decode cX4_init 60 = .ok (.putfield 32, 3) := by decide +kernel
theorem dX4_init_63 : decode cX4_init 63 = .ok (.aload_n 0, 1) := by decide +kernel
theorem dX4_init_64 : decode cX4_init 64 = .ok (.iconst 0, 1) := by decide +kernel
theorem dX4_init_65 : decode cX4_init 65 = .ok (.putfield 36, 3) := by decide +kernel
theorem dX4_init_68 : decode cX4_init 68 = .ok (.aload_n 0, 1) := by decide +kernel
theorem dX4_init_69 : decode cX4_init 69 = .ok (.bipush 10, 2) := by decide +kernel
theorem dX4_init_71 : decode cX4_init 71 = .ok (.newarray .int, 2) := by decide +kernel
theorem dX4_init_73 : decode cX4_init 73 = .ok (.putfield 39, 3) := by decide +kernel
theorem dX4_init_76 : decode cX4_init 76 = .ok (.aload_n 0, 1) := by decide +kernel
theorem dX4_init_77 : decode cX4_init 77 = .ok (.bipush 10, 2) := by decide +kernel
theorem dX4_init_79 : decode cX4_init 79 = .ok (.newarray .int, 2) := by decide +kernel
theorem dX4_init_81 : decode cX4_init 81 = .ok (.putfield 42, 3) := by decide +kernel
theorem dX4_init_84 : decode cX4_init 84 = .ok (.aload_n 0, 1) := by decide +kernel
theorem dX4_init_85 : decode cX4_init 85 = .ok (.bipush 10, 2) := by decide +kernel
theorem dX4_init_87 : decode cX4_init 87 = .ok (.newarray .int, 2) := by decide +kernel
theorem dX4_init_89 : decode cX4_init 89 = .ok (.putfield 45, 3) := by decide +kernel
theorem dX4_init_92 : decode cX4_init 92 = .ok (.aload_n 0, 1) := by decide +kernel
theorem dX4_init_93 : decode cX4_init 93 = .ok (.bipush 10, 2) := by decide +kernel
theorem dX4_init_95 : decode cX4_init 95 = .ok (.newarray .int, 2) := by decide +kernel
theorem dX4_init_97 : decode cX4_init 97 = .ok (.putfield 48, 3) := by decide +kernel
theorem dX4_init_100 : decode cX4_init 100 = .ok (.return_, 1) := by decide +kernel
theorem dX4_clear_0 : decode cX4_clear 0 = .ok (.aload_n 0, 1) := by decide +kernel
theorem dX4_clear_1 : decode cX4_clear 1 = .ok (.iconst 0, 1) := by decide +kernel
theorem dX4_clear_2 : decode cX4_clear 2 = .ok (.putfield 32, 3) := by decide +kernel
theorem dX4_clear_5 : decode cX4_clear 5 = .ok (.aload_n 0, 1) := by decide +kernel
theorem dX4_clear_6 : decode cX4_clear 6 = .ok (.iconst 0, 1) := by decide +kernel
theorem dX4_clear_7 : decode cX4_clear 7 = .ok (.putfield 36, 3) := by decide +kernel
theorem dX4_clear_10 : decode cX4_clear 10 = .ok (.return_, 1) := by decide +kernel
theorem dX4_addEntry_0 : decode cX4_addEntry 0 = .ok (.aload_n 0, 1) := by decide +kernel
theorem dX4_addEntry_1 : decode cX4_addEntry 1 = .ok (.getfield 32, 3) := by decide +kernel
theorem dX4_addEntry_4 : decode cX4_addEntry 4 = .ok (.sipush 240, 3) := by decide +kernel
theorem dX4_addEntry_7 : decode cX4_addEntry 7 = .ok (.if_icmp .lt 4, 3) := by decide +kernel
theorem dX4_addEntry_10 : decode cX4_addEntry 10 = .ok (.return_, 1) := by decide +kernel
theorem dX4_addEntry_11 : decode cX4_addEntry 11 = .ok (.aload_n 0, 1) := by decide +kernel
theorem dX4_addEntry_12 : decode cX4_addEntry 12 = .ok (.getfield 13, 3) := by decide +kernel
theorem dX4_addEntry_15 : decode cX4_addEntry 15 = .ok (.aload_n 0, 1) := by decide +kernel
theorem dX4_addEntry_16 : decode cX4_addEntry 16 = .ok (.getfield 32, 3) := by decide +kernel
theorem dX4_addEntry_19 : decode cX4_addEntry 19 = .ok (.iload_n 1, 1) := by decide +kernel
theorem dX4_addEntry_20 : decode cX4_addEntry 20 = .ok (.iastore, 1) := by decide +kernel
theorem dX4_addEntry_21 : decode cX4_addEntry 21 = .ok (.aload_n 0, 1) := by decide +kernel
theorem dX4_addEntry_22 : decode cX4_addEntry 22 = .ok (.getfield 20, 3) := by decide +kernel
theorem dX4_addEntry_25 : decode cX4_addEntry 25 = .ok (.aload_n 0, 1) := by decide +kernel
theorem dX4_addEntry_26 : decode cX4_addEntry 26 = .ok (.getfield 32, 3) := by decide +kernel
theorem dX4_addEntry_29 : decode cX4_addEntry 29 = .ok (.iload_n 2, 1) := by decide +kernel
theorem dX4_addEntry_30 : decode cX4_addEntry 30 = .ok (.iastore, 1) := by decide +kernel
theorem dX4_addEntry_31 : decode cX4_addEntry 31 = .ok (.aload_n 0, 1) := by decide +kernel
theorem dX4_addEntry_32 : decode cX4_addEntry 32 = .ok (.getfield 17, 3) := by decide +kernel
theorem dX4_addEntry_35 : decode cX4_addEntry 35 = .ok (.aload_n 0, 1) := by decide +kernel
theorem dX4_addEntry_36 : decode cX4_addEntry 36 = .ok (.getfield 32, 3) := by decide +kernel
theorem dX4_addEntry_39 : decode cX4_addEntry 39 = .ok (.iload_n 3, 1) := by decide +kernel
theorem dX4_addEntry_40 : decode cX4_addEntry 40 = .ok (.iastore, 1) := by decide +kernel
theorem dX4_addEntry_41 : decode cX4_addEntry 41 = .ok (.aload_n 0, 1) := by decide +kernel
theorem dX4_addEntry_42 : decode cX4_addEntry 42 = .ok (.getfield 23, 3) := by decide +kernel
theorem dX4_addEntry_45 : decode cX4_addEntry 45 = .ok (.aload_n 0, 1) := by decide +kernel
theorem dX4_addEntry_46 : decode cX4_addEntry 46 = .ok (.getfield 32, 3) := by decide +kernel
theorem dX4_addEntry_49 : decode cX4_addEntry 49 = .ok (.iconst 0, 1) := by decide +kernel
theorem dX4_addEntry_50 : decode cX4_addEntry 50 = .ok (.iastore, 1) := by decide +kernel
theorem dX4_addEntry_51 : decode cX4_addEntry 51 = .ok (.iload_n 1, 1) := by decide +kernel
theorem dX4_addEntry_52 : decode cX4_addEntry 52 = .ok (.ifCond .ne 13, 3) := by decide +kernel
theorem dX4_addEntry_55 : decode cX4_addEntry 55 = .ok (.aload_n 0, 1) := by decide +kernel
theorem dX4_addEntry_56 : decode cX4_addEntry 56 = .ok (.dup, 1) := by decide +kernel
theorem dX4_addEntry_57 : decode cX4_addEntry 57 = .ok (.getfield 36, 3) := by decide +kernel
theorem dX4_addEntry_60 : decode cX4_addEntry 60 = .ok (.iconst 1, 1) := by decide +kernel
theorem dX4_addEntry_61 : decode cX4_addEntry 61 = .ok (.iadd, 1) := by decide +kernel
theorem dX4_addEntry_62 : decode cX4_addEntry 62 = .ok (.putfield 36, 3) := by decide +kernel
theorem dX4_addEntry_65 : decode cX4_addEntry 65 = .ok (.aload_n 0, 1) := by decide +kernel
theorem dX4_addEntry_66 : decode cX4_addEntry 66 = .ok (.dup, 1) := by decide +kernel
theorem dX4_addEntry_67 : decode cX4_addEntry 67 = .ok (.getfield 32, 3) := by decide +kernel
theorem dX4_addEntry_70 : decode cX4_addEntry 70 = .ok (.iconst 1, 1) := by decide +kernel
theorem dX4_addEntry_71 : decode cX4_addEntry 71 = .ok (.iadd, 1) := by decide +kernel
theorem dX4_addEntry_72 : decode cX4_addEntry 72 = .ok (.putfield 32, 3) := by decide +kernel
theorem dX4_addEntry_75 : decode cX4_addEntry 75 = .ok (.aload_n 0, 1) := by decide +kernel
theorem dX4_addEntry_76 : decode cX4_addEntry 76 = .ok (.getfield 29, 3) := by decide +kernel
theorem dX4_addEntry_79 : decode cX4_addEntry 79 = .ok (.aload_n 0, 1) := by decide +kernel
theorem dX4_addEntry_80 : decode cX4_addEntry 80 = .ok (.getfield 36, 3) := by decide +kernel
theorem dX4_addEntry_83 : decode cX4_addEntry 83 = .ok (.aload_n 0, 1) := by decide +kernel
theorem dX4_addEntry_84 : decode cX4_addEntry 84 = .ok (.getfield 32, 3) := by decide +kernel
theorem dX4_addEntry_87 : decode cX4_addEntry 87 = .ok (.iastore, 1) := by decide +kernel
theorem dX4_addEntry_88 : decode cX4_addEntry 88 = .ok (.return_, 1) := by decide +kernel
theorem dX4_setLastKind_0 : decode cX4_setLastKind 0 = .ok (.aload_n 0, 1) := by decide +kernel
theorem dX4_setLastKind_1 : decode cX4_setLastKind 1 = .ok (.getfield 32, 3) := by decide +kernel
theorem dX4_setLastKind_4 : decode cX4_setLastKind 4 = .ok (.ifCond .le 15, 3) := by decide +kernel
theorem dX4_setLastKind_7 : decode cX4_setLastKind 7 = .ok (.aload_n 0, 1) := by decide +kernel
theorem dX4_setLastKind_8 : decode cX4_setLastKind 8 = .ok (.getfield 13, 3) := by decide +kernel
theorem dX4_setLastKind_11 : decode cX4_setLastKind 11 = .ok (.aload_n 0, 1) := by decide +kernel
theorem dX4_setLastKind_12 : decode cX4_setLastKind 12 = .ok (.getfield 32, 3) := by decide +kernel
theorem dX4_setLastKind_15 : decode cX4_setLastKind 15 = .ok (.iconst 1, 1) := by decide +kernel
theorem dX4_setLastKind_16 : decode cX4_setLastKind 16 = .ok (.isub, 1) := by decide +kernel
theorem dX4_setLastKind_17 : decode cX4_setLastKind 17 = .ok (.iload_n 1, 1) := by decide +kernel
theorem dX4_setLastKind_18 : decode cX4_setLastKind 18 = .ok (.iastore, 1) := by decide +kernel
theorem dX4_setLastKind_19 : decode cX4_setLastKind 19 = .ok (.return_, 1) := by decide +kernel
theorem dX4_addTerm_0 : decode cX4_addTerm 0 = .ok (.aload_n 0, 1) := by decide +kernel
theorem dX4_addTerm_1 : decode cX4_addTerm 1 = .ok (.getfield 32, 3) := by decide +kernel
theorem dX4_addTerm_4 : decode cX4_addTerm 4 = .ok (.iconst 1, 1) := by decide +kernel
theorem dX4_addTerm_5 : decode cX4_addTerm 5 = .ok (.isub, 1) := by decide +kernel
theorem dX4_addTerm_6 : decode cX4_addTerm 6 = .ok (.istore_n 2, 1) := by decide +kernel
theorem dX4_addTerm_7 : decode cX4_addTerm 7 = .ok (.iload_n 2, 1) := by decide +kernel
theorem dX4_addTerm_8 : decode cX4_addTerm 8 = .ok (.ifCond .lt 13, 3) := by decide +kernel
theorem dX4_addTerm_11 : decode cX4_addTerm 11 = .ok (.aload_n 0, 1) := by decide +kernel
theorem dX4_addTerm_12 : decode cX4_addTerm 12 = .ok (.getfield 23, 3) := by decide +kernel
theorem dX4_addTerm_15 : decode cX4_addTerm 15 = .ok (.iload_n 2, 1) := by decide +kernel
theorem dX4_addTerm_16 : decode cX4_addTerm 16 = .ok (.iaload, 1) := by decide +kernel
theorem dX4_addTerm_17 : decode cX4_addTerm 17 = .ok (.iconst 3, 1) := by decide +kernel
theorem dX4_addTerm_18 : decode cX4_addTerm 18 = .ok (.if_icmp .lt 4, 3) := by decide +kernel
theorem dX4_addTerm_21 : decode cX4_addTerm 21 = .ok (.return_, 1) := by decide +kernel
theorem dX4_addTerm_22 : decode cX4_addTerm 22 = .ok (.aload_n 0, 1) := by decide +kernel
theorem dX4_addTerm_23 : decode cX4_addTerm 23 = .ok (.getfield 26, 3) := by decide +kernel
theorem dX4_addTerm_26 : decode cX4_addTerm 26 = .ok (.iload_n 2, 1) := by decide +kernel
theorem dX4_addTerm_27 : decode cX4_addTerm 27 = .ok (.iconst 3, 1) := by decide +kernel
theorem dX4_addTerm_28 : decode cX4_addTerm 28 = .ok (.imul, 1) := by decide +kernel
theorem dX4_addTerm_29 : decode cX4_addTerm 29 = .ok (.aload_n 0, 1) := by decide +kernel
theorem dX4_addTerm_30 : decode cX4_addTerm 30 = .ok (.getfield 23, 3) := by decide +kernel
theorem dX4_addTerm_33 : decode cX4_addTerm 33 = .ok (.iload_n 2, 1) := by decide +kernel
theorem dX4_addTerm_34 : decode cX4_addTerm 34 = .ok (.iaload, 1) := by decide +kernel
theorem dX4_addTerm_35 : decode cX4_addTerm 35 = .ok (.iadd, 1) := by decide +kernel
theorem dX4_addTerm_36 : decode cX4_addTerm 36 = .ok (.iload_n 1, 1) := by decide +kernel
theorem dX4_addTerm_37 : decode cX4_addTerm 37 = .ok (.iastore, 1) := by decide +kernel
theorem dX4_addTerm_38 : decode cX4_addTerm 38 = .ok (.aload_n 0, 1) := by decide +kernel
theorem dX4_addTerm_39 : decode cX4_addTerm 39 = .ok (.getfield 23, 3) := by decide +kernel
theorem dX4_addTerm_42 : decode cX4_addTerm 42 = .ok (.iload_n 2, 1) := by decide +kernel
theorem dX4_addTerm_43 : decode cX4_addTerm 43 = .ok (.dup2, 1) := by decide +kernel
theorem dX4_addTerm_44 : decode cX4_addTerm 44 = .ok (.iaload, 1) := by decide +kernel
theorem dX4_addTerm_45 : decode cX4_addTerm 45 = .ok (.iconst 1, 1) := by decide +kernel
theorem dX4_addTerm_46 : decode cX4_addTerm 46 = .ok (.iadd, 1) := by decide +kernel
theorem dX4_addTerm_47 : decode cX4_addTerm 47 = .ok (.iastore, 1) := by decide +kernel
theorem dX4_addTerm_48 : decode cX4_addTerm 48 = .ok (.return_, 1) := by decide +kernel
theorem dX4_variables_0 : decode cX4_variables 0 = .ok (.iconst 0, 1) := by decide +kernel
theorem dX4_variables_1 : decode cX4_variables 1 = .ok (.istore_n 2, 1) := by decide +kernel
theorem dX4_variables_2 : decode cX4_variables 2 = .ok (.iconst 0, 1) := by decide +kernel
theorem dX4_variables_3 : decode cX4_variables 3 = .ok (.istore_n 3, 1) := by decide +kernel
theorem dX4_variables_4 : decode cX4_variables 4 = .ok (.iload_n 3, 1) := by decide +kernel
theorem dX4_variables_5 : decode cX4_variables 5 = .ok (.aload_n 0, 1) := by decide +kernel
theorem dX4_variables_6 : decode cX4_variables 6 = .ok (.getfield 23, 3) := by decide +kernel
theorem dX4_variables_9 : decode cX4_variables 9 = .ok (.iload_n 1, 1) := by decide +kernel
theorem dX4_variables_10 : decode cX4_variables 10 = .ok (.iaload, 1) := by decide +kernel
theorem dX4_variables_11 : decode cX4_variables 11 = .ok (.if_icmp .ge 38, 3) := by decide +kernel
theorem dX4_variables_14 : decode cX4_variables 14 = .ok (.aload_n 0, 1) := by decide +kernel
theorem dX4_variables_15 : decode cX4_variables 15 = .ok (.getfield 26, 3) := by decide +kernel
theorem dX4_variables_18 : decode cX4_variables 18 = .ok (.iload_n 1, 1) := by decide +kernel
theorem dX4_variables_19 : decode cX4_variables 19 = .ok (.iconst 3, 1) := by decide +kernel
theorem dX4_variables_20 : decode cX4_variables 20 = .ok (.imul, 1) := by decide +kernel
theorem dX4_variables_21 : decode cX4_variables 21 = .ok (.iload_n 3, 1) := by decide +kernel
theorem dX4_variables_22 : decode cX4_variables 22 = .ok (.iadd, 1) := by decide +kernel
theorem dX4_variables_23 : decode cX4_variables 23 = .ok (.iaload, 1) := by decide +kernel
theorem dX4_variables_24 : decode cX4_variables 24 = .ok (.istore 4, 2) := by decide +kernel
theorem dX4_variables_26 : decode cX4_variables 26 = .ok (.iload 4, 2) := by decide +kernel
theorem dX4_variables_28 : decode cX4_variables 28 = .ok (.bipush 12, 2) := by decide +kernel
theorem dX4_variables_30 : decode cX4_variables 30 = .ok (.if_icmp .lt 13, 3) := by decide +kernel
theorem dX4_variables_33 : decode cX4_variables 33 = .ok (.iload_n 2, 1) := by decide +kernel
theorem dX4_variables_34 : decode cX4_variables 34 = .ok (.iconst 1, 1) := by decide +kernel
theorem dX4_variables_35 : decode cX4_variables 35 = .ok (.iload 4, 2) := by decide +kernel
theorem dX4_variables_37 : decode cX4_variables 37 = .ok (.bipush 12, 2) := by decide +kernel
theorem dX4_variables_39 : decode cX4_variables 39 = .ok (.isub, 1) := by decide +kernel
theorem dX4_variables_40 : decode cX4_variables 40 = .ok (.ishl, 1) := by decide +kernel
theorem dX4_variables_41 : decode cX4_variables 41 = .ok (.ior, 1) := by decide +kernel
theorem dX4_variables_42 : decode cX4_variables 42 = .ok (.istore_n 2, 1) := by decide +kernel
theorem dX4_variables_43 : decode cX4_variables 43 = .ok (.iinc 3 1, 3) := by decide +kernel
theorem dX4_variables_46 : decode cX4_variables 46 = .ok (.goto (-42), 3) := by decide +kernel
theorem dX4_variables_49 : decode cX4_variables 49 = .ok (.iload_n 2, 1) := by decide +kernel
theorem dX4_variables_50 : decode cX4_variables 50 = .ok (.ireturn, 1) := by decide +kernel
theorem dX4_isAtom_0 : decode cX4_isAtom 0 = .ok (.aload_n 0, 1) := by decide +kernel
theorem dX4_isAtom_1 : decode cX4_isAtom 1 = .ok (.getfield 13, 3) := by decide +kernel
theorem dX4_isAtom_4 : decode cX4_isAtom 4 = .ok (.iload_n 1, 1) := by decide +kernel
theorem dX4_isAtom_5 : decode cX4_isAtom 5 = .ok (.iaload, 1) := by decide +kernel
theorem dX4_isAtom_6 : decode cX4_isAtom 6 = .ok (.iconst 2, 1) := by decide +kernel
theorem dX4_isAtom_7 : decode cX4_isAtom 7 = .ok (.if_icmp .gt 7, 3) := by decide +kernel
theorem dX4_isAtom_10 : decode cX4_isAtom 10 = .ok (.iconst 1, 1) := by decide +kernel
theorem dX4_isAtom_11 : decode cX4_isAtom 11 = .ok (.goto 4, 3) := by decide +kernel
theorem dX4_isAtom_14 : decode cX4_isAtom 14 = .ok (.iconst 0, 1) := by decide +kernel
theorem dX4_isAtom_15 : decode cX4_isAtom 15 = .ok (.ireturn, 1) := by decide +kernel
theorem dX4_describePredicates_0 : decode cX4_describePredicates 0 = .ok (.iconst 0, 1) := by decide +kernel
theorem dX4_describePredicates_1 : decode cX4_describePredicates 1 = .ok (.istore_n 1, 1) := by decide +kernel
theorem dX4_describePredicates_2 : decode cX4_describePredicates 2 = .ok (.iload_n 1, 1) := by decide +kernel
theorem dX4_describePredicates_3 : decode cX4_describePredicates 3 = .ok (.bipush 10, 2) := by decide +kernel
theorem dX4_describePredicates_5 : decode cX4_describePredicates 5 = .ok (.if_icmp .ge 32, 3) := by decide +kernel
theorem dX4_describePredicates_8 : decode cX4_describePredicates 8 = .ok (.aload_n 0, 1) := by decide +kernel
theorem dX4_describePredicates_9 : decode cX4_describePredicates 9 = .ok (.getfield 39, 3) := by decide +kernel
theorem dX4_describePredicates_12 : decode cX4_describePredicates 12 = .ok (.iload_n 1, 1) := by decide +kernel
theorem dX4_describePredicates_13 : decode cX4_describePredicates 13 = .ok (.iconst 0, 1) := by decide +kernel
theorem dX4_describePredicates_14 : decode cX4_describePredicates 14 = .ok (.iastore, 1) := by decide +kernel
theorem dX4_describePredicates_15 : decode cX4_describePredicates 15 = .ok (.aload_n 0, 1) := by decide +kernel
theorem dX4_describePredicates_16 : decode cX4_describePredicates 16 = .ok (.getfield 42, 3) := by decide +kernel
theorem dX4_describePredicates_19 : decode cX4_describePredicates 19 = .ok (.iload_n 1, 1) := by decide +kernel
theorem dX4_describePredicates_20 : decode cX4_describePredicates 20 = .ok (.iconst 0, 1) := by decide +kernel
theorem dX4_describePredicates_21 : decode cX4_describePredicates 21 = .ok (.iastore, 1) := by decide +kernel
theorem dX4_describePredicates_22 : decode cX4_describePredicates 22 = .ok (.aload_n 0, 1) := by decide +kernel
theorem dX4_describePredicates_23 : decode cX4_describePredicates 23 = .ok (.getfield 48, 3) := by decide +kernel
theorem dX4_describePredicates_26 : decode cX4_describePredicates 26 = .ok (.iload_n 1, 1) := by decide +kernel
theorem dX4_describePredicates_27 : decode cX4_describePredicates 27 = .ok (.iconst 1, 1) := by decide +kernel
theorem dX4_describePredicates_28 : decode cX4_describePredicates 28 = .ok (.iload_n 1, 1) := by decide +kernel
theorem dX4_describePredicates_29 : decode cX4_describePredicates 29 = .ok (.ishl, 1) := by decide +kernel
theorem dX4_describePredicates_30 : decode cX4_describePredicates 30 = .ok (.iastore, 1) := by decide +kernel
theorem dX4_describePredicates_31 : decode cX4_describePredicates 31 = .ok (.iinc 1 1, 3) := by decide +kernel
theorem dX4_describePredicates_34 : decode cX4_describePredicates 34 = .ok (.goto (-32), 3) := by decide +kernel
theorem dX4_describePredicates_37 : decode cX4_describePredicates 37 = .ok (.iconst 0, 1) := by decide +kernel
theorem dX4_describePredicates_38 : decode cX4_describePredicates 38 = .ok (.istore_n 1, 1) := by decide +kernel
theorem dX4_describePredicates_39 : decode cX4_describePredicates 39 = .ok (.iload_n 1, 1) := by decide +kernel
theorem dX4_describePredicates_40 : decode cX4_describePredicates 40 = .ok (.aload_n 0, 1) := by decide +kernel
theorem dX4_describePredicates_41 : decode cX4_describePredicates 41 = .ok (.getfield 32, 3) := by decide +kernel
theorem dX4_describePredicates_44 : decode cX4_describePredicates 44 = .ok (.if_icmp .ge 22, 3) := by decide +kernel
theorem dX4_describePredicates_47 : decode cX4_describePredicates 47 = .ok (.aload_n 0, 1) := by decide +kernel
theorem dX4_describePredicates_48 : decode cX4_describePredicates 48 = .ok (.iload_n 1, 1) := by decide +kernel
theorem dX4_describePredicates_49 : decode cX4_describePredicates 49 = .ok (.invokevirtual 51, 3) := by decide +kernel
theorem dX4_describePredicates_52 : decode cX4_describePredicates 52 = .ok (.ifCond .eq 8, 3) := by decide +kernel
theorem dX4_describePredicates_55 : decode cX4_describePredicates 55 = .ok (.aload_n 0, 1) := by decide +kernel
theorem dX4_describePredicates_56 : decode cX4_describePredicates 56 = .ok (.iload_n 1, 1) := by decide +kernel
theorem dX4_describePredicates_57 : decode cX4_describePredicates 57 = .ok (.invokevirtual 55, 3) := by decide +kernel
theorem dX4_describePredicates_60 : decode cX4_describePredicates 60 = .ok (.iinc 1 1, 3) := by decide +kernel
theorem dX4_describePredicates_63 : decode cX4_describePredicates 63 = .ok (.goto (-24), 3) := by decide +kernel
theorem dX4_describePredicates_66 : decode cX4_describePredicates 66 = .ok (.aload_n 0, 1) := by decide +kernel
theorem dX4_describePredicates_67 : decode cX4_describePredicates 67 = .ok (.invokevirtual 59, 3) := by decide +kernel
theorem dX4_describePredicates_70 : decode cX4_describePredicates 70 = .ok (.return_, 1) := by decide +kernel
theorem dX4_describeAtom_0 : decode cX4_describeAtom 0 = .ok (.aload_n 0, 1) := by decide +kernel
theorem dX4_describeAtom_1 : decode cX4_describeAtom 1 = .ok (.getfield 20, 3) := by decide +kernel
theorem dX4_describeAtom_4 : decode cX4_describeAtom 4 = .ok (.iload_n 1, 1) := by decide +kernel
theorem dX4_describeAtom_5 : decode cX4_describeAtom 5 = .ok (.iaload, 1) := by decide +kernel
theorem dX4_describeAtom_6 : decode cX4_describeAtom 6 = .ok (.istore_n 2, 1) := by decide +kernel
theorem dX4_describeAtom_7 : decode cX4_describeAtom 7 = .ok (.aload_n 0, 1) := by decide +kernel
theorem dX4_describeAtom_8 : decode cX4_describeAtom 8 = .ok (.getfield 39, 3) := by decide +kernel
theorem dX4_describeAtom_11 : decode cX4_describeAtom 11 = .ok (.iload_n 2, 1) := by decide +kernel
theorem dX4_describeAtom_12 : decode cX4_describeAtom 12 = .ok (.iaload, 1) := by decide +kernel
theorem dX4_describeAtom_13 : decode cX4_describeAtom 13 = .ok (.ifCond .ne 22, 3) := by decide +kernel
theorem dX4_describeAtom_16 : decode cX4_describeAtom 16 = .ok (.aload_n 0, 1) := by decide +kernel
theorem dX4_describeAtom_17 : decode cX4_describeAtom 17 = .ok (.getfield 39, 3) := by decide +kernel
theorem dX4_describeAtom_20 : decode cX4_describeAtom 20 = .ok (.iload_n 2, 1) := by decide +kernel
theorem dX4_describeAtom_21 : decode cX4_describeAtom 21 = .ok (.iconst 1, 1) := by decide +kernel
theorem dX4_describeAtom_22 : decode cX4_describeAtom 22 = .ok (.iastore, 1) := by decide +kernel
theorem dX4_describeAtom_23 : decode cX4_describeAtom 23 = .ok (.aload_n 0, 1) := by decide +kernel
theorem dX4_describeAtom_24 : decode cX4_describeAtom 24 = .ok (.getfield 42, 3) := by decide +kernel
theorem dX4_describeAtom_27 : decode cX4_describeAtom 27 = .ok (.iload_n 2, 1) := by decide +kernel
theorem dX4_describeAtom_28 : decode cX4_describeAtom 28 = .ok (.aload_n 0, 1) := by decide +kernel
theorem dX4_describeAtom_29 : decode cX4_describeAtom 29 = .ok (.getfield 23, 3) := by decide +kernel
theorem dX4_describeAtom_32 : decode cX4_describeAtom 32 = .ok (.iload_n 1, 1) := by decide +kernel
theorem dX4_describeAtom_33 : decode cX4_describeAtom 33 = .ok (.iaload, 1) := by decide +kernel
theorem dX4_describeAtom_34 : decode cX4_describeAtom 34 = .ok (.iastore, 1) := by decide +kernel
theorem dX4_describeAtom_35 : decode cX4_describeAtom 35 = .ok (.aload_n 0, 1) := by decide +kernel
theorem dX4_describeAtom_36 : decode cX4_describeAtom 36 = .ok (.getfield 13, 3) := by decide +kernel
theorem dX4_describeAtom_39 : decode cX4_describeAtom 39 = .ok (.iload_n 1, 1) := by decide +kernel
theorem dX4_describeAtom_40 : decode cX4_describeAtom 40 = .ok (.iaload, 1) := by decide +kernel
theorem dX4_describeAtom_41 : decode cX4_describeAtom 41 = .ok (.ifCond .ne 10, 3) := by decide +kernel
theorem dX4_describeAtom_44 : decode cX4_describeAtom 44 = .ok (.aload_n 0, 1) := by decide +kernel
theorem dX4_describeAtom_45 : decode cX4_describeAtom 45 = .ok (.getfield 39, 3) := by decide +kernel
theorem dX4_describeAtom_48 : decode cX4_describeAtom 48 = .ok (.iload_n 2, 1) := by decide +kernel
theorem dX4_describeAtom_49 : decode cX4_describeAtom 49 = .ok (.iconst 2, 1) := by decide +kernel
theorem dX4_describeAtom_50 : decode cX4_describeAtom 50 = .ok (.iastore, 1) := by decide +kernel
theorem dX4_describeAtom_51 : decode cX4_describeAtom 51 = .ok (.return_, 1) := by decide +kernel
theorem dX4_closeReach_0 : decode cX4_closeReach 0 = .ok (.iconst 0, 1) := by decide +kernel
theorem dX4_closeReach_1 : decode cX4_closeReach 1 = .ok (.istore_n 1, 1) := by decide +kernel
theorem dX4_closeReach_2 : decode cX4_closeReach 2 = .ok (.iload_n 1, 1) := by decide +kernel
theorem dX4_closeReach_3 : decode cX4_closeReach 3 = .ok (.aload_n 0, 1) := by decide +kernel
theorem dX4_closeReach_4 : decode cX4_closeReach 4 = .ok (.getfield 36, 3) := by decide +kernel
theorem dX4_closeReach_7 : decode cX4_closeReach 7 = .ok (.if_icmp .ge 68, 3) := by decide +kernel
theorem dX4_closeReach_10 : decode cX4_closeReach 10 = .ok (.aload_n 0, 1) := by decide +kernel
theorem dX4_closeReach_11 : decode cX4_closeReach 11 = .ok (.getfield 29, 3) := by decide +kernel
theorem dX4_closeReach_14 : decode cX4_closeReach 14 = .ok (.iload_n 1, 1) := by decide +kernel
theorem dX4_closeReach_15 : decode cX4_closeReach 15 = .ok (.iaload, 1) := by decide +kernel
theorem dX4_closeReach_16 : decode cX4_closeReach 16 = .ok (.istore_n 2, 1) := by decide +kernel
theorem dX4_closeReach_17 : decode cX4_closeReach 17 = .ok (.iload_n 2, 1) := by decide +kernel
theorem dX4_closeReach_18 : decode cX4_closeReach 18 = .ok (.iconst 1, 1) := by decide +kernel
theorem dX4_closeReach_19 : decode cX4_closeReach 19 = .ok (.iadd, 1) := by decide +kernel
theorem dX4_closeReach_20 : decode cX4_closeReach 20 = .ok (.istore_n 3, 1) := by decide +kernel
theorem dX4_closeReach_21 : decode cX4_closeReach 21 = .ok (.iload_n 3, 1) := by decide +kernel
theorem dX4_closeReach_22 : decode cX4_closeReach 22 = .ok (.aload_n 0, 1) := by decide +kernel
theorem dX4_closeReach_23 : decode cX4_closeReach 23 = .ok (.getfield 29, 3) := by decide +kernel
theorem dX4_closeReach_26 : decode cX4_closeReach 26 = .ok (.iload_n 1, 1) := by decide +kernel
theorem dX4_closeReach_27 : decode cX4_closeReach 27 = .ok (.iconst 1, 1) := by decide +kernel
theorem dX4_closeReach_28 : decode cX4_closeReach 28 = .ok (.iadd, 1) := by decide +kernel
theorem dX4_closeReach_29 : decode cX4_closeReach 29 = .ok (.iaload, 1) := by decide +kernel
theorem dX4_closeReach_30 : decode cX4_closeReach 30 = .ok (.if_icmp .ge 39, 3) := by decide +kernel
theorem dX4_closeReach_33 : decode cX4_closeReach 33 = .ok (.aload_n 0, 1) := by decide +kernel
theorem dX4_closeReach_34 : decode cX4_closeReach 34 = .ok (.iload_n 3, 1) := by decide +kernel
theorem dX4_closeReach_35 : decode cX4_closeReach 35 = .ok (.invokevirtual 51, 3) := by decide +kernel
theorem dX4_closeReach_38 : decode cX4_closeReach 38 = .ok (.ifCond .eq 25, 3) := by decide +kernel
theorem dX4_closeReach_41 : decode cX4_closeReach 41 = .ok (.aload_n 0, 1) := by decide +kernel
theorem dX4_closeReach_42 : decode cX4_closeReach 42 = .ok (.getfield 48, 3) := by decide +kernel
theorem dX4_closeReach_45 : decode cX4_closeReach 45 = .ok (.aload_n 0, 1) := by decide +kernel
theorem dX4_closeReach_46 : decode cX4_closeReach 46 = .ok (.getfield 20, 3) := by decide +kernel
theorem dX4_closeReach_49 : decode cX4_closeReach 49 = .ok (.iload_n 2, 1) := by decide +kernel
theorem dX4_closeReach_50 : decode cX4_closeReach 50 = .ok (.iaload, 1) := by decide +kernel
theorem dX4_closeReach_51 : decode cX4_closeReach 51 = .ok (.dup2, 1) := by decide +kernel
theorem dX4_closeReach_52 : decode cX4_closeReach 52 = .ok (.iaload, 1) := by decide +kernel
theorem dX4_closeReach_53 : decode cX4_closeReach 53 = .ok (.iconst 1, 1) := by decide +kernel
theorem dX4_closeReach_54 : decode cX4_closeReach 54 = .ok (.aload_n 0, 1) := by decide +kernel
theorem dX4_closeReach_55 : decode cX4_closeReach 55 = .ok (.getfield 20, 3) := by decide +kernel
theorem dX4_closeReach_58 : decode cX4_closeReach 58 = .ok (.iload_n 3, 1) := by decide +kernel
theorem dX4_closeReach_59 : decode cX4_closeReach 59 = .ok (.iaload, 1) := by decide +kernel
theorem dX4_closeReach_60 : decode cX4_closeReach 60 = .ok (.ishl, 1) := by decide +kernel
theorem dX4_closeReach_61 : decode cX4_closeReach 61 = .ok (.ior, 1) := by decide +kernel
theorem dX4_closeReach_62 : decode cX4_closeReach 62 = .ok (.iastore, 1) := by decide +kernel
theorem dX4_closeReach_63 : decode cX4_closeReach 63 = .ok (.iinc 3 1, 3) := by decide +kernel
theorem dX4_closeReach_66 : decode cX4_closeReach 66 = .ok (.goto (-45), 3) := by decide +kernel
theorem dX4_closeReach_69 : decode cX4_closeReach 69 = .ok (.iinc 1 1, 3) := by decide +kernel
theorem dX4_closeReach_72 : decode cX4_closeReach 72 = .ok (.goto (-70), 3) := by decide +kernel
theorem dX4_closeReach_75 : decode cX4_closeReach 75 = .ok (.iconst 0, 1) := by decide +kernel
theorem dX4_closeReach_76 : decode cX4_closeReach 76 = .ok (.istore_n 1, 1) := by decide +kernel
theorem dX4_closeReach_77 : decode cX4_closeReach 77 = .ok (.iload_n 1, 1) := by decide +kernel
theorem dX4_closeReach_78 : decode cX4_closeReach 78 = .ok (.bipush 10, 2) := by decide +kernel
theorem dX4_closeReach_80 : decode cX4_closeReach 80 = .ok (.if_icmp .ge 51, 3) := by decide +kernel
theorem dX4_closeReach_83 : decode cX4_closeReach 83 = .ok (.iconst 0, 1) := by decide +kernel
theorem dX4_closeReach_84 : decode cX4_closeReach 84 = .ok (.istore_n 2, 1) := by decide +kernel
theorem dX4_closeReach_85 : decode cX4_closeReach 85 = .ok (.iload_n 2, 1) := by decide +kernel
theorem dX4_closeReach_86 : decode cX4_closeReach 86 = .ok (.bipush 10, 2) := by decide +kernel
theorem dX4_closeReach_88 : decode cX4_closeReach 88 = .ok (.if_icmp .ge 37, 3) := by decide +kernel
theorem dX4_closeReach_91 : decode cX4_closeReach 91 = .ok (.aload_n 0, 1) := by decide +kernel
theorem dX4_closeReach_92 : decode cX4_closeReach 92 = .ok (.getfield 48, 3) := by decide +kernel
theorem dX4_closeReach_95 : decode cX4_closeReach 95 = .ok (.iload_n 2, 1) := by decide +kernel
theorem dX4_closeReach_96 : decode cX4_closeReach 96 = .ok (.iaload, 1) := by decide +kernel
theorem dX4_closeReach_97 : decode cX4_closeReach 97 = .ok (.iload_n 1, 1) := by decide +kernel
theorem dX4_closeReach_98 : decode cX4_closeReach 98 = .ok (.ishr, 1) := by decide +kernel
theorem dX4_closeReach_99 : decode cX4_closeReach 99 = .ok (.iconst 1, 1) := by decide +kernel
theorem dX4_closeReach_100 : decode cX4_closeReach 100 = .ok (.iand, 1) := by decide +kernel
theorem dX4_closeReach_101 : decode cX4_closeReach 101 = .ok (.ifCond .eq 18, 3) := by decide +kernel
theorem dX4_closeReach_104 : decode cX4_closeReach 104 = .ok (.aload_n 0, 1) := by decide +kernel
theorem dX4_closeReach_105 : decode cX4_closeReach 105 = .ok (.getfield 48, 3) := by decide +kernel
theorem dX4_closeReach_108 : decode cX4_closeReach 108 = .ok (.iload_n 2, 1) := by decide +kernel
theorem dX4_closeReach_109 : decode cX4_closeReach 109 = .ok (.dup2, 1) := by decide +kernel
theorem dX4_closeReach_110 : decode cX4_closeReach 110 = .ok (.iaload, 1) := by decide +kernel
theorem dX4_closeReach_111 : decode cX4_closeReach 111 = .ok (.aload_n 0, 1) := by decide +kernel
theorem dX4_closeReach_112 : decode cX4_closeReach 112 = .ok (.getfield 48, 3) := by decide +kernel
theorem dX4_closeReach_115 : decode cX4_closeReach 115 = .ok (.iload_n 1, 1) := by decide +kernel
theorem dX4_closeReach_116 : decode cX4_closeReach 116 = .ok (.iaload, 1) := by decide +kernel
theorem dX4_closeReach_117 : decode cX4_closeReach 117 = .ok (.ior, 1) := by decide +kernel
theorem dX4_closeReach_118 : decode cX4_closeReach 118 = .ok (.iastore, 1) := by decide +kernel
theorem dX4_closeReach_119 : decode cX4_closeReach 119 = .ok (.iinc 2 1, 3) := by decide +kernel
theorem dX4_closeReach_122 : decode cX4_closeReach 122 = .ok (.goto (-37), 3) := by decide +kernel
theorem dX4_closeReach_125 : decode cX4_closeReach 125 = .ok (.iinc 1 1, 3) := by decide +kernel
theorem dX4_closeReach_128 : decode cX4_closeReach 128 = .ok (.goto (-51), 3) := by decide +kernel
theorem dX4_closeReach_131 : decode cX4_closeReach 131 = .ok (.return_, 1) := by decide +kernel
theorem dX4_rankStrata_0 : decode cX4_rankStrata 0 = .ok (.iconst 0, 1) := by decide +kernel
theorem dX4_rankStrata_1 : decode cX4_rankStrata 1 = .ok (.istore_n 1, 1) := by decide +kernel
theorem dX4_rankStrata_2 : decode cX4_rankStrata 2 = .ok (.iload_n 1, 1) := by decide +kernel
theorem dX4_rankStrata_3 : decode cX4_rankStrata 3 = .ok (.bipush 10, 2) := by decide +kernel
theorem dX4_rankStrata_5 : decode cX4_rankStrata 5 = .ok (.if_icmp .ge 30, 3) := by decide +kernel
theorem dX4_rankStrata_8 : decode cX4_rankStrata 8 = .ok (.aload_n 0, 1) := by decide +kernel
theorem dX4_rankStrata_9 : decode cX4_rankStrata 9 = .ok (.getfield 45, 3) := by decide +kernel
theorem dX4_rankStrata_12 : decode cX4_rankStrata 12 = .ok (.iload_n 1, 1) := by decide +kernel
theorem dX4_rankStrata_13 : decode cX4_rankStrata 13 = .ok (.aload_n 0, 1) := by decide +kernel
theorem dX4_rankStrata_14 : decode cX4_rankStrata 14 = .ok (.getfield 39, 3) := by decide +kernel
theorem dX4_rankStrata_17 : decode cX4_rankStrata 17 = .ok (.iload_n 1, 1) := by decide +kernel
theorem dX4_rankStrata_18 : decode cX4_rankStrata 18 = .ok (.iaload, 1) := by decide +kernel
theorem dX4_rankStrata_19 : decode cX4_rankStrata 19 = .ok (.iconst 2, 1) := by decide +kernel
theorem dX4_rankStrata_20 : decode cX4_rankStrata 20 = .ok (.if_icmp .ne 7, 3) := by decide +kernel
theorem dX4_rankStrata_23 : decode cX4_rankStrata 23 = .ok (.iconst 1, 1) := by decide +kernel
theorem dX4_rankStrata_24 : decode cX4_rankStrata 24 = .ok (.goto 4, 3) := by decide +kernel
theorem dX4_rankStrata_27 : decode cX4_rankStrata 27 = .ok (.iconst 0, 1) := by decide +kernel
theorem dX4_rankStrata_28 : decode cX4_rankStrata 28 = .ok (.iastore, 1) := by decide +kernel
theorem dX4_rankStrata_29 : decode cX4_rankStrata 29 = .ok (.iinc 1 1, 3) := by decide +kernel
theorem dX4_rankStrata_32 : decode cX4_rankStrata 32 = .ok (.goto (-30), 3) := by decide +kernel
theorem dX4_rankStrata_35 : decode cX4_rankStrata 35 = .ok (.iconst 0, 1) := by decide +kernel
theorem dX4_rankStrata_36 : decode cX4_rankStrata 36 = .ok (.istore_n 1, 1) := by decide +kernel
theorem dX4_rankStrata_37 : decode cX4_rankStrata 37 = .ok (.iload_n 1, 1) := by decide +kernel
theorem dX4_rankStrata_38 : decode cX4_rankStrata 38 = .ok (.bipush 10, 2) := by decide +kernel
theorem dX4_rankStrata_40 : decode cX4_rankStrata 40 = .ok (.if_icmp .ge 30, 3) := by decide +kernel
theorem dX4_rankStrata_43 : decode cX4_rankStrata 43 = .ok (.iconst 0, 1) := by decide +kernel
theorem dX4_rankStrata_44 : decode cX4_rankStrata 44 = .ok (.istore_n 2, 1) := by decide +kernel
theorem dX4_rankStrata_45 : decode cX4_rankStrata 45 = .ok (.iload_n 2, 1) := by decide +kernel
theorem dX4_rankStrata_46 : decode cX4_rankStrata 46 = .ok (.aload_n 0, 1) := by decide +kernel
theorem dX4_rankStrata_47 : decode cX4_rankStrata 47 = .ok (.getfield 36, 3) := by decide +kernel
theorem dX4_rankStrata_50 : decode cX4_rankStrata 50 = .ok (.if_icmp .ge 14, 3) := by decide +kernel
theorem dX4_rankStrata_53 : decode cX4_rankStrata 53 = .ok (.aload_n 0, 1) := by decide +kernel
theorem dX4_rankStrata_54 : decode cX4_rankStrata 54 = .ok (.iload_n 2, 1) := by decide +kernel
theorem dX4_rankStrata_55 : decode cX4_rankStrata 55 = .ok (.invokevirtual 62, 3) := by decide +kernel
theorem dX4_rankStrata_58 : decode cX4_rankStrata 58 = .ok (.iinc 2 1, 3) := by decide +kernel
theorem dX4_rankStrata_61 : decode cX4_rankStrata 61 = .ok (.goto (-16), 3) := by decide +kernel
theorem dX4_rankStrata_64 : decode cX4_rankStrata 64 = .ok (.iinc 1 1, 3) := by decide +kernel
theorem dX4_rankStrata_67 : decode cX4_rankStrata 67 = .ok (.goto (-30), 3) := by decide +kernel
theorem dX4_rankStrata_70 : decode cX4_rankStrata 70 = .ok (.return_, 1) := by decide +kernel
theorem dX4_raiseHead_0 : decode cX4_raiseHead 0 = .ok (.aload_n 0, 1) := by decide +kernel
theorem dX4_raiseHead_1 : decode cX4_raiseHead 1 = .ok (.getfield 20, 3) := by decide +kernel
theorem dX4_raiseHead_4 : decode cX4_raiseHead 4 = .ok (.aload_n 0, 1) := by decide +kernel
theorem dX4_raiseHead_5 : decode cX4_raiseHead 5 = .ok (.getfield 29, 3) := by decide +kernel
theorem dX4_raiseHead_8 : decode cX4_raiseHead 8 = .ok (.iload_n 1, 1) := by decide +kernel
theorem dX4_raiseHead_9 : decode cX4_raiseHead 9 = .ok (.iaload, 1) := by decide +kernel
theorem dX4_raiseHead_10 : decode cX4_raiseHead 10 = .ok (.iaload, 1) := by decide +kernel
theorem dX4_raiseHead_11 : decode cX4_raiseHead 11 = .ok (.istore_n 2, 1) := by decide +kernel
theorem dX4_raiseHead_12 : decode cX4_raiseHead 12 = .ok (.aload_n 0, 1) := by decide +kernel
theorem dX4_raiseHead_13 : decode cX4_raiseHead 13 = .ok (.getfield 29, 3) := by decide +kernel
theorem dX4_raiseHead_16 : decode cX4_raiseHead 16 = .ok (.iload_n 1, 1) := by decide +kernel
theorem dX4_raiseHead_17 : decode cX4_raiseHead 17 = .ok (.iaload, 1) := by decide +kernel
theorem dX4_raiseHead_18 : decode cX4_raiseHead 18 = .ok (.iconst 1, 1) := by decide +kernel
theorem dX4_raiseHead_19 : decode cX4_raiseHead 19 = .ok (.iadd, 1) := by decide +kernel
theorem dX4_raiseHead_20 : decode cX4_raiseHead 20 = .ok (.istore_n 3, 1) := by decide +kernel
theorem dX4_raiseHead_21 : decode cX4_raiseHead 21 = .ok (.iload_n 3, 1) := by decide +kernel
theorem dX4_raiseHead_22 : decode cX4_raiseHead 22 = .ok (.aload_n 0, 1) := by decide +kernel
theorem dX4_raiseHead_23 : decode cX4_raiseHead 23 = .ok (.getfield 29, 3) := by decide +kernel
theorem dX4_raiseHead_26 : decode cX4_raiseHead 26 = .ok (.iload_n 1, 1) := by decide +kernel
theorem dX4_raiseHead_27 : decode cX4_raiseHead 27 = .ok (.iconst 1, 1) := by decide +kernel
theorem dX4_raiseHead_28 : decode cX4_raiseHead 28 = .ok (.iadd, 1) := by decide +kernel
theorem dX4_raiseHead_29 : decode cX4_raiseHead 29 = .ok (.iaload, 1) := by decide +kernel
theorem dX4_raiseHead_30 : decode cX4_raiseHead 30 = .ok (.if_icmp .ge 63, 3) := by decide +kernel
theorem dX4_raiseHead_33 : decode cX4_raiseHead 33 = .ok (.aload_n 0, 1) := by decide +kernel
theorem dX4_raiseHead_34 : decode cX4_raiseHead 34 = .ok (.iload_n 3, 1) := by decide +kernel
theorem dX4_raiseHead_35 : decode cX4_raiseHead 35 = .ok (.invokevirtual 51, 3) := by decide +kernel
theorem dX4_raiseHead_38 : decode cX4_raiseHead 38 = .ok (.ifCond .eq 49, 3) := by decide +kernel
theorem dX4_raiseHead_41 : decode cX4_raiseHead 41 = .ok (.aload_n 0, 1) := by decide +kernel
theorem dX4_raiseHead_42 : decode cX4_raiseHead 42 = .ok (.getfield 45, 3) := by decide +kernel
theorem dX4_raiseHead_45 : decode cX4_raiseHead 45 = .ok (.aload_n 0, 1) := by decide +kernel
theorem dX4_raiseHead_46 : decode cX4_raiseHead 46 = .ok (.getfield 20, 3) := by decide +kernel
theorem dX4_raiseHead_49 : decode cX4_raiseHead 49 = .ok (.iload_n 3, 1) := by decide +kernel
theorem dX4_raiseHead_50 : decode cX4_raiseHead 50 = .ok (.iaload, 1) := by decide +kernel
theorem dX4_raiseHead_51 : decode cX4_raiseHead 51 = .ok (.iaload, 1) := by decide +kernel
theorem dX4_raiseHead_52 : decode cX4_raiseHead 52 = .ok (.aload_n 0, 1) := by decide +kernel
theorem dX4_raiseHead_53 : decode cX4_raiseHead 53 = .ok (.getfield 13, 3) := by decide +kernel
theorem dX4_raiseHead_56 : decode cX4_raiseHead 56 = .ok (.iload_n 3, 1) := by decide +kernel
theorem dX4_raiseHead_57 : decode cX4_raiseHead 57 = .ok (.iaload, 1) := by decide +kernel
theorem dX4_raiseHead_58 : decode cX4_raiseHead 58 = .ok (.iconst 2, 1) := by decide +kernel
theorem dX4_raiseHead_59 : decode cX4_raiseHead 59 = .ok (.if_icmp .ne 7, 3) := by decide +kernel
theorem dX4_raiseHead_62 : decode cX4_raiseHead 62 = .ok (.iconst 1, 1) := by decide +kernel
theorem dX4_raiseHead_63 : decode cX4_raiseHead 63 = .ok (.goto 4, 3) := by decide +kernel
theorem dX4_raiseHead_66 : decode cX4_raiseHead 66 = .ok (.iconst 0, 1) := by decide +kernel
theorem dX4_raiseHead_67 : decode cX4_raiseHead 67 = .ok (.iadd, 1) := by decide +kernel
theorem dX4_raiseHead_68 : decode cX4_raiseHead 68 = .ok (.istore 4, 2) := by decide +kernel
theorem dX4_raiseHead_70 : decode cX4_raiseHead 70 = .ok (.aload_n 0, 1) := by decide +kernel
theorem dX4_raiseHead_71 : decode cX4_raiseHead 71 = .ok (.getfield 45, 3) := by decide +kernel
theorem dX4_raiseHead_74 : decode cX4_raiseHead 74 = .ok (.iload_n 2, 1) := by decide +kernel
theorem dX4_raiseHead_75 : decode cX4_raiseHead 75 = .ok (.aload_n 0, 1) := by decide +kernel
theorem dX4_raiseHead_76 : decode cX4_raiseHead 76 = .ok (.getfield 45, 3) := by decide +kernel
theorem dX4_raiseHead_79 : decode cX4_raiseHead 79 = .ok (.iload_n 2, 1) := by decide +kernel
theorem dX4_raiseHead_80 : decode cX4_raiseHead 80 = .ok (.iaload, 1) := by decide +kernel
theorem dX4_raiseHead_81 : decode cX4_raiseHead 81 = .ok (.iload 4, 2) := by decide +kernel
theorem dX4_raiseHead_83 : decode cX4_raiseHead 83 = .ok (.invokestatic 65, 3) := by decide +kernel
theorem dX4_raiseHead_86 : decode cX4_raiseHead 86 = .ok (.iastore, 1) := by decide +kernel
theorem dX4_raiseHead_87 : decode cX4_raiseHead 87 = .ok (.iinc 3 1, 3) := by decide +kernel
theorem dX4_raiseHead_90 : decode cX4_raiseHead 90 = .ok (.goto (-69), 3) := by decide +kernel
theorem dX4_raiseHead_93 : decode cX4_raiseHead 93 = .ok (.return_, 1) := by decide +kernel
theorem dX4_sortOf_0 : decode cX4_sortOf 0 = .ok (.iload_n 1, 1) := by decide +kernel
theorem dX4_sortOf_1 : decode cX4_sortOf 1 = .ok (.ifCond .lt 18, 3) := by decide +kernel
theorem dX4_sortOf_4 : decode cX4_sortOf 4 = .ok (.iload_n 1, 1) := by decide +kernel
theorem dX4_sortOf_5 : decode cX4_sortOf 5 = .ok (.bipush 10, 2) := by decide +kernel
theorem dX4_sortOf_7 : decode cX4_sortOf 7 = .ok (.if_icmp .ge 12, 3) := by decide +kernel
theorem dX4_sortOf_10 : decode cX4_sortOf 10 = .ok (.aload_n 0, 1) := by decide +kernel
theorem dX4_sortOf_11 : decode cX4_sortOf 11 = .ok (.getfield 39, 3) := by decide +kernel
theorem dX4_sortOf_14 : decode cX4_sortOf 14 = .ok (.iload_n 1, 1) := by decide +kernel
theorem dX4_sortOf_15 : decode cX4_sortOf 15 = .ok (.iaload, 1) := by decide +kernel
theorem dX4_sortOf_16 : decode cX4_sortOf 16 = .ok (.goto 4, 3) := by decide +kernel
theorem dX4_sortOf_19 : decode cX4_sortOf 19 = .ok (.iconst 0, 1) := by decide +kernel
theorem dX4_sortOf_20 : decode cX4_sortOf 20 = .ok (.ireturn, 1) := by decide +kernel
theorem dX4_number_0 : decode cX4_number 0 = .ok (.aload_n 0, 1) := by decide +kernel
theorem dX4_number_1 : decode cX4_number 1 = .ok (.iload_n 1, 1) := by decide +kernel
theorem dX4_number_2 : decode cX4_number 2 = .ok (.invokevirtual 71, 3) := by decide +kernel
theorem dX4_number_5 : decode cX4_number 5 = .ok (.ifCond .ne 5, 3) := by decide +kernel
theorem dX4_number_8 : decode cX4_number 8 = .ok (.iconst (-1), 1) := by decide +kernel
theorem dX4_number_9 : decode cX4_number 9 = .ok (.ireturn, 1) := by decide +kernel
theorem dX4_number_10 : decode cX4_number 10 = .ok (.aload_n 0, 1) := by decide +kernel
theorem dX4_number_11 : decode cX4_number 11 = .ok (.getfield 42, 3) := by decide +kernel
theorem dX4_number_14 : decode cX4_number 14 = .ok (.iload_n 1, 1) := by decide +kernel
theorem dX4_number_15 : decode cX4_number 15 = .ok (.iaload, 1) := by decide +kernel
theorem dX4_number_16 : decode cX4_number 16 = .ok (.istore 5, 2) := by decide +kernel
theorem dX4_number_18 : decode cX4_number 18 = .ok (.iload 5, 2) := by decide +kernel
theorem dX4_number_20 : decode cX4_number 20 = .ok (.ifCond .le 10, 3) := by decide +kernel
theorem dX4_number_23 : decode cX4_number 23 = .ok (.iload_n 2, 1) := by decide +kernel
theorem dX4_number_24 : decode cX4_number 24 = .ok (.invokestatic 75, 3) := by decide +kernel
theorem dX4_number_27 : decode cX4_number 27 = .ok (.ifCond .eq 30, 3) := by decide +kernel
theorem dX4_number_30 : decode cX4_number 30 = .ok (.iload 5, 2) := by decide +kernel
theorem dX4_number_32 : decode cX4_number 32 = .ok (.iconst 1, 1) := by decide +kernel
theorem dX4_number_33 : decode cX4_number 33 = .ok (.if_icmp .le 10, 3) := by decide +kernel
theorem dX4_number_36 : decode cX4_number 36 = .ok (.iload_n 3, 1) := by decide +kernel
theorem dX4_number_37 : decode cX4_number 37 = .ok (.invokestatic 75, 3) := by decide +kernel
theorem dX4_number_40 : decode cX4_number 40 = .ok (.ifCond .eq 17, 3) := by decide +kernel
theorem dX4_number_43 : decode cX4_number 43 = .ok (.iload 5, 2) := by decide +kernel
theorem dX4_number_45 : decode cX4_number 45 = .ok (.iconst 2, 1) := by decide +kernel
theorem dX4_number_46 : decode cX4_number 46 = .ok (.if_icmp .le 13, 3) := by decide +kernel
theorem dX4_number_49 : decode cX4_number 49 = .ok (.iload 4, 2) := by decide +kernel
theorem dX4_number_51 : decode cX4_number 51 = .ok (.invokestatic 75, 3) := by decide +kernel
theorem dX4_number_54 : decode cX4_number 54 = .ok (.ifCond .ne 5, 3) := by decide +kernel
theorem dX4_number_57 : decode cX4_number 57 = .ok (.iconst (-1), 1) := by decide +kernel
theorem dX4_number_58 : decode cX4_number 58 = .ok (.ireturn, 1) := by decide +kernel
theorem dX4_number_59 : decode cX4_number 59 = .ok (.iload 5, 2) := by decide +kernel
theorem dX4_number_61 : decode cX4_number 61 = .ok (.tableswitch 38 0 2 #[27, 29, 31], 27) := by decide +kernel
theorem dX4_number_88 : decode cX4_number 88 = .ok (.iconst 0, 1) := by decide +kernel
theorem dX4_number_89 : decode cX4_number 89 = .ok (.ireturn, 1) := by decide +kernel
theorem dX4_number_90 : decode cX4_number 90 = .ok (.iload_n 2, 1) := by decide +kernel
theorem dX4_number_91 : decode cX4_number 91 = .ok (.ireturn, 1) := by decide +kernel
theorem dX4_number_92 : decode cX4_number 92 = .ok (.bipush 12, 2) := by decide +kernel
theorem dX4_number_94 : decode cX4_number 94 = .ok (.iload_n 2, 1) := by decide +kernel
theorem dX4_number_95 : decode cX4_number 95 = .ok (.imul, 1) := by decide +kernel
theorem dX4_number_96 : decode cX4_number 96 = .ok (.iload_n 3, 1) := by decide +kernel
theorem dX4_number_97 : decode cX4_number 97 = .ok (.iadd, 1) := by decide +kernel
theorem dX4_number_98 : decode cX4_number 98 = .ok (.ireturn, 1) := by decide +kernel
theorem dX4_number_99 : decode cX4_number 99 = .ok (.bipush 12, 2) := by decide +kernel
theorem dX4_number_101 : decode cX4_number 101 = .ok (.iload_n 2, 1) := by decide +kernel
theorem dX4_number_102 : decode cX4_number 102 = .ok (.imul, 1) := by decide +kernel
theorem dX4_number_103 : decode cX4_number 103 = .ok (.iload_n 3, 1) := by decide +kernel
theorem dX4_number_104 : decode cX4_number 104 = .ok (.iadd, 1) := by decide +kernel
theorem dX4_number_105 : decode cX4_number 105 = .ok (.bipush 12, 2) := by decide +kernel
theorem dX4_number_107 : decode cX4_number 107 = .ok (.imul, 1) := by decide +kernel
theorem dX4_number_108 : decode cX4_number 108 = .ok (.iload 4, 2) := by decide +kernel
theorem dX4_number_110 : decode cX4_number 110 = .ok (.iadd, 1) := by decide +kernel
theorem dX4_number_111 : decode cX4_number 111 = .ok (.ireturn, 1) := by decide +kernel
theorem dX4_isConstant_0 : decode cX4_isConstant 0 = .ok (.iload_n 0, 1) := by decide +kernel
theorem dX4_isConstant_1 : decode cX4_isConstant 1 = .ok (.ifCond .lt 13, 3) := by decide +kernel
theorem dX4_isConstant_4 : decode cX4_isConstant 4 = .ok (.iload_n 0, 1) := by decide +kernel
theorem dX4_isConstant_5 : decode cX4_isConstant 5 = .ok (.bipush 12, 2) := by decide +kernel
theorem dX4_isConstant_7 : decode cX4_isConstant 7 = .ok (.if_icmp .ge 7, 3) := by decide +kernel
theorem dX4_isConstant_10 : decode cX4_isConstant 10 = .ok (.iconst 1, 1) := by decide +kernel
theorem dX4_isConstant_11 : decode cX4_isConstant 11 = .ok (.goto 4, 3) := by decide +kernel
theorem dX4_isConstant_14 : decode cX4_isConstant 14 = .ok (.iconst 0, 1) := by decide +kernel
theorem dX4_isConstant_15 : decode cX4_isConstant 15 = .ok (.ireturn, 1) := by decide +kernel
theorem dX4_dependents_0 : decode cX4_dependents 0 = .ok (.iconst 0, 1) := by decide +kernel
theorem dX4_dependents_1 : decode cX4_dependents 1 = .ok (.istore_n 2, 1) := by decide +kernel
theorem dX4_dependents_2 : decode cX4_dependents 2 = .ok (.iconst 0, 1) := by decide +kernel
theorem dX4_dependents_3 : decode cX4_dependents 3 = .ok (.istore_n 3, 1) := by decide +kernel
theorem dX4_dependents_4 : decode cX4_dependents 4 = .ok (.iload_n 3, 1) := by decide +kernel
theorem dX4_dependents_5 : decode cX4_dependents 5 = .ok (.bipush 10, 2) := by decide +kernel
theorem dX4_dependents_7 : decode cX4_dependents 7 = .ok (.if_icmp .ge 36, 3) := by decide +kernel
theorem dX4_dependents_10 : decode cX4_dependents 10 = .ok (.aload_n 0, 1) := by decide +kernel
theorem dX4_dependents_11 : decode cX4_dependents 11 = .ok (.getfield 39, 3) := by decide +kernel
theorem dX4_dependents_14 : decode cX4_dependents 14 = .ok (.iload_n 3, 1) := by decide +kernel
theorem dX4_dependents_15 : decode cX4_dependents 15 = .ok (.iaload, 1) := by decide +kernel
theorem dX4_dependents_16 : decode cX4_dependents 16 = .ok (.iconst 2, 1) := by decide +kernel
theorem dX4_dependents_17 : decode cX4_dependents 17 = .ok (.if_icmp .ne 20, 3) := by decide +kernel
theorem dX4_dependents_20 : decode cX4_dependents 20 = .ok (.aload_n 0, 1) := by decide +kernel
theorem dX4_dependents_21 : decode cX4_dependents 21 = .ok (.getfield 48, 3) := by decide +kernel
theorem dX4_dependents_24 : decode cX4_dependents 24 = .ok (.iload_n 3, 1) := by decide +kernel
theorem dX4_dependents_25 : decode cX4_dependents 25 = .ok (.iaload, 1) := by decide +kernel
theorem dX4_dependents_26 : decode cX4_dependents 26 = .ok (.iload_n 1, 1) := by decide +kernel
theorem dX4_dependents_27 : decode cX4_dependents 27 = .ok (.iand, 1) := by decide +kernel
theorem dX4_dependents_28 : decode cX4_dependents 28 = .ok (.ifCond .eq 9, 3) := by decide +kernel
theorem dX4_dependents_31 : decode cX4_dependents 31 = .ok (.iload_n 2, 1) := by decide +kernel
theorem dX4_dependents_32 : decode cX4_dependents 32 = .ok (.iconst 1, 1) := by decide +kernel
theorem dX4_dependents_33 : decode cX4_dependents 33 = .ok (.iload_n 3, 1) := by decide +kernel
theorem dX4_dependents_34 : decode cX4_dependents 34 = .ok (.ishl, 1) := by decide +kernel
theorem dX4_dependents_35 : decode cX4_dependents 35 = .ok (.ior, 1) := by decide +kernel
theorem dX4_dependents_36 : decode cX4_dependents 36 = .ok (.istore_n 2, 1) := by decide +kernel
theorem dX4_dependents_37 : decode cX4_dependents 37 = .ok (.iinc 3 1, 3) := by decide +kernel
theorem dX4_dependents_40 : decode cX4_dependents 40 = .ok (.goto (-36), 3) := by decide +kernel
theorem dX4_dependents_43 : decode cX4_dependents 43 = .ok (.iload_n 2, 1) := by decide +kernel
theorem dX4_dependents_44 : decode cX4_dependents 44 = .ok (.ireturn, 1) := by decide +kernel
