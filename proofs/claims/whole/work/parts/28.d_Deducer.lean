theorem dX0_init_0 : decode cX0_init 0 = .ok (.aload_n 0, 1) := by decide +kernel
theorem dX0_init_1 : decode cX0_init 1 = .ok (.invokespecial 3, 3) := by decide +kernel
theorem dX0_init_4 : decode cX0_init 4 = .ok (.aload_n 0, 1) := by decide +kernel
theorem dX0_init_5 : decode cX0_init 5 = .ok (.new 9, 3) := by decide +kernel
theorem dX0_init_8 : decode cX0_init 8 = .ok (.dup, 1) := by decide +kernel
theorem dX0_init_9 : decode cX0_init 9 = .ok (.invokespecial 11, 3) := by decide +kernel
theorem dX0_init_12 : decode cX0_init 12 = .ok (.putfield 12, 3) := by decide +kernel
theorem dX0_init_15 : decode cX0_init 15 = .ok (.aload_n 0, 1) := by decide +kernel
theorem dX0_init_16 : decode cX0_init 16 = .ok (.new 9, 3) := by decide +kernel
theorem dX0_init_19 : decode cX0_init 19 = .ok (.dup, 1) := by decide +kernel
theorem dX0_init_20 : decode cX0_init 20 = .ok (.invokespecial 11, 3) := by decide +kernel
theorem dX0_init_23 : decode cX0_init 23 = .ok (.putfield 18, 3) := by decide +kernel
theorem dX0_init_26 : decode cX0_init 26 = .ok (.aload_n 0, 1) := by decide +kernel
theorem dX0_init_27 : decode cX0_init 27 = .ok (.aload_n 1, 1) := by decide +kernel
theorem dX0_init_28 : decode cX0_init 28 = .ok (.putfield 21, 3) := by decide +kernel
theorem dX0_init_31 : decode cX0_init 31 = .ok (.aload_n 0, 1) := by decide +kernel
theorem dX0_init_32 : decode cX0_init 32 = .ok (.aload_n 2, 1) := by decide +kernel
theorem dX0_init_33 : decode cX0_init 33 = .ok (.putfield 25, 3) := by decide +kernel
theorem dX0_init_36 : decode cX0_init 36 = .ok (.aload_n 0, 1) := by decide +kernel
theorem dX0_init_37 : decode cX0_init 37 = .ok (.new 28, 3) := by decide +kernel
theorem dX0_init_40 : decode cX0_init 40 = .ok (.dup, 1) := by decide +kernel
theorem dX0_init_41 : decode cX0_init 41 = .ok (.aload_n 1, 1) := by decide +kernel
theorem dX0_init_42 : decode cX0_init 42 = .ok (.aload_n 2, 1) := by decide +kernel
theorem dX0_init_43 : decode cX0_init 43 = .ok (.aload_n 0, 1) := by decide +kernel
theorem dX0_init_44 : decode cX0_init 44 = .ok (.getfield 12, 3) := by decide +kernel
theorem dX0_init_47 : decode cX0_init 47 = .ok (.aload_n 0, 1) := by decide +kernel
theorem dX0_init_48 : decode cX0_init 48 = .ok (.getfield 18, 3) := by decide +kernel
theorem dX0_init_51 : decode cX0_init 51 = .ok (.invokespecial 30, 3) := by decide +kernel
theorem dX0_init_54 : decode cX0_init 54 = .ok (.putfield 33, 3) := by decide +kernel
theorem dX0_init_57 : decode cX0_init 57 = .ok (.return_, 1) := by decide +kernel
theorem dX0_use_0 : decode cX0_use 0 = .ok (.aload_n 0, 1) := by decide +kernel
theorem dX0_use_1 : decode cX0_use 1 = .ok (.aload_n 1, 1) := by decide +kernel
theorem dX0_use_2 : decode cX0_use 2 = .ok (.putfield 21, 3) := by decide +kernel
theorem dX0_use_5 : decode cX0_use 5 = .ok (.aload_n 0, 1) := by decide +kernel
theorem dX0_use_6 : decode cX0_use 6 = .ok (.getfield 33, 3) := by decide +kernel
theorem dX0_use_9 : decode cX0_use 9 = .ok (.aload_n 1, 1) := by decide +kernel
theorem dX0_use_10 : decode cX0_use 10 = .ok (.invokevirtual 37, 3) := by decide +kernel
theorem dX0_use_13 : decode cX0_use 13 = .ok (.return_, 1) := by decide +kernel
theorem dX0_countDerivations_0 : decode cX0_countDerivations 0 = .ok (.iconst 0, 1) := by decide +kernel
theorem dX0_countDerivations_1 : decode cX0_countDerivations 1 = .ok (.istore_n 3, 1) := by decide +kernel
theorem dX0_countDerivations_2 : decode cX0_countDerivations 2 = .ok (.iconst 0, 1) := by decide +kernel
theorem dX0_countDerivations_3 : decode cX0_countDerivations 3 = .ok (.istore 4, 2) := by decide +kernel
theorem dX0_countDerivations_5 : decode cX0_countDerivations 5 = .ok (.iload 4, 2) := by decide +kernel
theorem dX0_countDerivations_7 : decode cX0_countDerivations 7 = .ok (.aload_n 0, 1) := by decide +kernel
theorem dX0_countDerivations_8 : decode cX0_countDerivations 8 = .ok (.getfield 21, 3) := by decide +kernel
theorem dX0_countDerivations_11 : decode cX0_countDerivations 11 = .ok (.getfield 41, 3) := by decide +kernel
theorem dX0_countDerivations_14 : decode cX0_countDerivations 14 = .ok (.if_icmp .ge 44, 3) := by decide +kernel
theorem dX0_countDerivations_17 : decode cX0_countDerivations 17 = .ok (.aload_n 0, 1) := by decide +kernel
theorem dX0_countDerivations_18 : decode cX0_countDerivations 18 = .ok (.getfield 21, 3) := by decide +kernel
theorem dX0_countDerivations_21 : decode cX0_countDerivations 21 = .ok (.getfield 47, 3) := by decide +kernel
theorem dX0_countDerivations_24 : decode cX0_countDerivations 24 = .ok (.aload_n 0, 1) := by decide +kernel
theorem dX0_countDerivations_25 : decode cX0_countDerivations 25 = .ok (.getfield 21, 3) := by decide +kernel
theorem dX0_countDerivations_28 : decode cX0_countDerivations 28 = .ok (.getfield 51, 3) := by decide +kernel
theorem dX0_countDerivations_31 : decode cX0_countDerivations 31 = .ok (.iload 4, 2) := by decide +kernel
theorem dX0_countDerivations_33 : decode cX0_countDerivations 33 = .ok (.iaload, 1) := by decide +kernel
theorem dX0_countDerivations_34 : decode cX0_countDerivations 34 = .ok (.iaload, 1) := by decide +kernel
theorem dX0_countDerivations_35 : decode cX0_countDerivations 35 = .ok (.iload_n 1, 1) := by decide +kernel
theorem dX0_countDerivations_36 : decode cX0_countDerivations 36 = .ok (.if_icmp .ne 16, 3) := by decide +kernel
theorem dX0_countDerivations_39 : decode cX0_countDerivations 39 = .ok (.iload_n 3, 1) := by decide +kernel
theorem dX0_countDerivations_40 : decode cX0_countDerivations 40 = .ok (.aload_n 0, 1) := by decide +kernel
theorem dX0_countDerivations_41 : decode cX0_countDerivations 41 = .ok (.getfield 33, 3) := by decide +kernel
theorem dX0_countDerivations_44 : decode cX0_countDerivations 44 = .ok (.iload 4, 2) := by decide +kernel
theorem dX0_countDerivations_46 : decode cX0_countDerivations 46 = .ok (.iload_n 2, 1) := by decide +kernel
theorem dX0_countDerivations_47 : decode cX0_countDerivations 47 = .ok (.invokevirtual 54, 3) := by decide +kernel
theorem dX0_countDerivations_50 : decode cX0_countDerivations 50 = .ok (.iadd, 1) := by decide +kernel
theorem dX0_countDerivations_51 : decode cX0_countDerivations 51 = .ok (.istore_n 3, 1) := by decide +kernel
theorem dX0_countDerivations_52 : decode cX0_countDerivations 52 = .ok (.iinc 4 1, 3) := by decide +kernel
theorem dX0_countDerivations_55 : decode cX0_countDerivations 55 = .ok (.goto (-50), 3) := by decide +kernel
theorem dX0_countDerivations_58 : decode cX0_countDerivations 58 = .ok (.iload_n 3, 1) := by decide +kernel
theorem dX0_countDerivations_59 : decode cX0_countDerivations 59 = .ok (.ireturn, 1) := by decide +kernel
theorem dX0_refresh_0 : decode cX0_refresh 0 = .ok (.aload_n 0, 1) := by decide +kernel
theorem dX0_refresh_1 : decode cX0_refresh 1 = .ok (.getfield 21, 3) := by decide +kernel
theorem dX0_refresh_4 : decode cX0_refresh 4 = .ok (.iload_n 1, 1) := by decide +kernel
theorem dX0_refresh_5 : decode cX0_refresh 5 = .ok (.invokevirtual 58, 3) := by decide +kernel
theorem dX0_refresh_8 : decode cX0_refresh 8 = .ok (.istore_n 2, 1) := by decide +kernel
theorem dX0_refresh_9 : decode cX0_refresh 9 = .ok (.iconst 0, 1) := by decide +kernel
theorem dX0_refresh_10 : decode cX0_refresh 10 = .ok (.istore_n 3, 1) := by decide +kernel
theorem dX0_refresh_11 : decode cX0_refresh 11 = .ok (.iload_n 3, 1) := by decide +kernel
theorem dX0_refresh_12 : decode cX0_refresh 12 = .ok (.bipush 10, 2) := by decide +kernel
theorem dX0_refresh_14 : decode cX0_refresh 14 = .ok (.if_icmp .ge 25, 3) := by decide +kernel
theorem dX0_refresh_17 : decode cX0_refresh 17 = .ok (.iload_n 2, 1) := by decide +kernel
theorem dX0_refresh_18 : decode cX0_refresh 18 = .ok (.iload_n 3, 1) := by decide +kernel
theorem dX0_refresh_19 : decode cX0_refresh 19 = .ok (.ishr, 1) := by decide +kernel
theorem dX0_refresh_20 : decode cX0_refresh 20 = .ok (.iconst 1, 1) := by decide +kernel
theorem dX0_refresh_21 : decode cX0_refresh 21 = .ok (.iand, 1) := by decide +kernel
theorem dX0_refresh_22 : decode cX0_refresh 22 = .ok (.ifCond .eq 11, 3) := by decide +kernel
theorem dX0_refresh_25 : decode cX0_refresh 25 = .ok (.aload_n 0, 1) := by decide +kernel
theorem dX0_refresh_26 : decode cX0_refresh 26 = .ok (.getfield 25, 3) := by decide +kernel
theorem dX0_refresh_29 : decode cX0_refresh 29 = .ok (.iload_n 3, 1) := by decide +kernel
theorem dX0_refresh_30 : decode cX0_refresh 30 = .ok (.invokevirtual 62, 3) := by decide +kernel
theorem dX0_refresh_33 : decode cX0_refresh 33 = .ok (.iinc 3 1, 3) := by decide +kernel
theorem dX0_refresh_36 : decode cX0_refresh 36 = .ok (.goto (-25), 3) := by decide +kernel
theorem dX0_refresh_39 : decode cX0_refresh 39 = .ok (.iconst 1, 1) := by decide +kernel
theorem dX0_refresh_40 : decode cX0_refresh 40 = .ok (.istore_n 3, 1) := by decide +kernel
theorem dX0_refresh_41 : decode cX0_refresh 41 = .ok (.iload_n 3, 1) := by decide +kernel
theorem dX0_refresh_42 : decode cX0_refresh 42 = .ok (.bipush 10, 2) := by decide +kernel
theorem dX0_refresh_44 : decode cX0_refresh 44 = .ok (.if_icmp .gt 33, 3) := by decide +kernel
theorem dX0_refresh_47 : decode cX0_refresh 47 = .ok (.iload_n 2, 1) := by decide +kernel
theorem dX0_refresh_48 : decode cX0_refresh 48 = .ok (.ifCond .eq 29, 3) := by decide +kernel
theorem dX0_refresh_51 : decode cX0_refresh 51 = .ok (.iload_n 2, 1) := by decide +kernel
theorem dX0_refresh_52 : decode cX0_refresh 52 = .ok (.aload_n 0, 1) := by decide +kernel
theorem dX0_refresh_53 : decode cX0_refresh 53 = .ok (.iload_n 3, 1) := by decide +kernel
theorem dX0_refresh_54 : decode cX0_refresh 54 = .ok (.invokevirtual 66, 3) := by decide +kernel
theorem dX0_refresh_57 : decode cX0_refresh 57 = .ok (.iand, 1) := by decide +kernel
theorem dX0_refresh_58 : decode cX0_refresh 58 = .ok (.istore 4, 2) := by decide +kernel
theorem dX0_refresh_60 : decode cX0_refresh 60 = .ok (.iload 4, 2) := by decide +kernel
theorem dX0_refresh_62 : decode cX0_refresh 62 = .ok (.ifCond .eq 9, 3) := by decide +kernel
theorem dX0_refresh_65 : decode cX0_refresh 65 = .ok (.aload_n 0, 1) := by decide +kernel
theorem dX0_refresh_66 : decode cX0_refresh 66 = .ok (.iload 4, 2) := by decide +kernel
theorem dX0_refresh_68 : decode cX0_refresh 68 = .ok (.invokevirtual 69, 3) := by decide +kernel
theorem dX0_refresh_71 : decode cX0_refresh 71 = .ok (.iinc 3 1, 3) := by decide +kernel
theorem dX0_refresh_74 : decode cX0_refresh 74 = .ok (.goto (-33), 3) := by decide +kernel
theorem dX0_refresh_77 : decode cX0_refresh 77 = .ok (.return_, 1) := by decide +kernel
theorem dX0_membersOf_0 : decode cX0_membersOf 0 = .ok (.iconst 0, 1) := by decide +kernel
theorem dX0_membersOf_1 : decode cX0_membersOf 1 = .ok (.istore_n 2, 1) := by decide +kernel
theorem dX0_membersOf_2 : decode cX0_membersOf 2 = .ok (.iconst 0, 1) := by decide +kernel
theorem dX0_membersOf_3 : decode cX0_membersOf 3 = .ok (.istore_n 3, 1) := by decide +kernel
theorem dX0_membersOf_4 : decode cX0_membersOf 4 = .ok (.iload_n 3, 1) := by decide +kernel
theorem dX0_membersOf_5 : decode cX0_membersOf 5 = .ok (.bipush 10, 2) := by decide +kernel
theorem dX0_membersOf_7 : decode cX0_membersOf 7 = .ok (.if_icmp .ge 28, 3) := by decide +kernel
theorem dX0_membersOf_10 : decode cX0_membersOf 10 = .ok (.aload_n 0, 1) := by decide +kernel
theorem dX0_membersOf_11 : decode cX0_membersOf 11 = .ok (.getfield 21, 3) := by decide +kernel
theorem dX0_membersOf_14 : decode cX0_membersOf 14 = .ok (.getfield 72, 3) := by decide +kernel
theorem dX0_membersOf_17 : decode cX0_membersOf 17 = .ok (.iload_n 3, 1) := by decide +kernel
theorem dX0_membersOf_18 : decode cX0_membersOf 18 = .ok (.iaload, 1) := by decide +kernel
theorem dX0_membersOf_19 : decode cX0_membersOf 19 = .ok (.iload_n 1, 1) := by decide +kernel
theorem dX0_membersOf_20 : decode cX0_membersOf 20 = .ok (.if_icmp .ne 9, 3) := by decide +kernel
theorem dX0_membersOf_23 : decode cX0_membersOf 23 = .ok (.iload_n 2, 1) := by decide +kernel
theorem dX0_membersOf_24 : decode cX0_membersOf 24 = .ok (.iconst 1, 1) := by decide +kernel
theorem dX0_membersOf_25 : decode cX0_membersOf 25 = .ok (.iload_n 3, 1) := by decide +kernel
theorem dX0_membersOf_26 : decode cX0_membersOf 26 = .ok (.ishl, 1) := by decide +kernel
theorem dX0_membersOf_27 : decode cX0_membersOf 27 = .ok (.ior, 1) := by decide +kernel
theorem dX0_membersOf_28 : decode cX0_membersOf 28 = .ok (.istore_n 2, 1) := by decide +kernel
theorem dX0_membersOf_29 : decode cX0_membersOf 29 = .ok (.iinc 3 1, 3) := by decide +kernel
theorem dX0_membersOf_32 : decode cX0_membersOf 32 = .ok (.goto (-28), 3) := by decide +kernel
theorem dX0_membersOf_35 : decode cX0_membersOf 35 = .ok (.iload_n 2, 1) := by decide +kernel
theorem dX0_membersOf_36 : decode cX0_membersOf 36 = .ok (.ireturn, 1) := by decide +kernel
theorem dX0_fillStratum_0 : decode cX0_fillStratum 0 = .ok (.iconst 0, 1) := by decide +kernel
theorem dX0_fillStratum_1 : decode cX0_fillStratum 1 = .ok (.istore_n 2, 1) := by decide +kernel
theorem dX0_fillStratum_2 : decode cX0_fillStratum 2 = .ok (.iload_n 2, 1) := by decide +kernel
theorem dX0_fillStratum_3 : decode cX0_fillStratum 3 = .ok (.aload_n 0, 1) := by decide +kernel
theorem dX0_fillStratum_4 : decode cX0_fillStratum 4 = .ok (.getfield 21, 3) := by decide +kernel
theorem dX0_fillStratum_7 : decode cX0_fillStratum 7 = .ok (.getfield 41, 3) := by decide +kernel
theorem dX0_fillStratum_10 : decode cX0_fillStratum 10 = .ok (.if_icmp .ge 27, 3) := by decide +kernel
theorem dX0_fillStratum_13 : decode cX0_fillStratum 13 = .ok (.aload_n 0, 1) := by decide +kernel
theorem dX0_fillStratum_14 : decode cX0_fillStratum 14 = .ok (.iload_n 1, 1) := by decide +kernel
theorem dX0_fillStratum_15 : decode cX0_fillStratum 15 = .ok (.iload_n 2, 1) := by decide +kernel
theorem dX0_fillStratum_16 : decode cX0_fillStratum 16 = .ok (.invokevirtual 75, 3) := by decide +kernel
theorem dX0_fillStratum_19 : decode cX0_fillStratum 19 = .ok (.ifCond .eq 12, 3) := by decide +kernel
theorem dX0_fillStratum_22 : decode cX0_fillStratum 22 = .ok (.aload_n 0, 1) := by decide +kernel
theorem dX0_fillStratum_23 : decode cX0_fillStratum 23 = .ok (.getfield 33, 3) := by decide +kernel
theorem dX0_fillStratum_26 : decode cX0_fillStratum 26 = .ok (.iload_n 2, 1) := by decide +kernel
theorem dX0_fillStratum_27 : decode cX0_fillStratum 27 = .ok (.iconst (-1), 1) := by decide +kernel
theorem dX0_fillStratum_28 : decode cX0_fillStratum 28 = .ok (.invokevirtual 79, 3) := by decide +kernel
theorem dX0_fillStratum_31 : decode cX0_fillStratum 31 = .ok (.iinc 2 1, 3) := by decide +kernel
theorem dX0_fillStratum_34 : decode cX0_fillStratum 34 = .ok (.goto (-32), 3) := by decide +kernel
theorem dX0_fillStratum_37 : decode cX0_fillStratum 37 = .ok (.iconst 0, 1) := by decide +kernel
theorem dX0_fillStratum_38 : decode cX0_fillStratum 38 = .ok (.istore_n 2, 1) := by decide +kernel
theorem dX0_fillStratum_39 : decode cX0_fillStratum 39 = .ok (.iload_n 2, 1) := by decide +kernel
theorem dX0_fillStratum_40 : decode cX0_fillStratum 40 = .ok (.sipush 17280, 3) := by decide +kernel
theorem dX0_fillStratum_43 : decode cX0_fillStratum 43 = .ok (.if_icmp .ge 51, 3) := by decide +kernel
theorem dX0_fillStratum_46 : decode cX0_fillStratum 46 = .ok (.aload_n 0, 1) := by decide +kernel
theorem dX0_fillStratum_47 : decode cX0_fillStratum 47 = .ok (.iload_n 1, 1) := by decide +kernel
theorem dX0_fillStratum_48 : decode cX0_fillStratum 48 = .ok (.invokevirtual 83, 3) := by decide +kernel
theorem dX0_fillStratum_51 : decode cX0_fillStratum 51 = .ok (.ifCond .eq 43, 3) := by decide +kernel
theorem dX0_fillStratum_54 : decode cX0_fillStratum 54 = .ok (.iconst 0, 1) := by decide +kernel
theorem dX0_fillStratum_55 : decode cX0_fillStratum 55 = .ok (.istore_n 3, 1) := by decide +kernel
theorem dX0_fillStratum_56 : decode cX0_fillStratum 56 = .ok (.iload_n 3, 1) := by decide +kernel
theorem dX0_fillStratum_57 : decode cX0_fillStratum 57 = .ok (.aload_n 0, 1) := by decide +kernel
theorem dX0_fillStratum_58 : decode cX0_fillStratum 58 = .ok (.getfield 21, 3) := by decide +kernel
theorem dX0_fillStratum_61 : decode cX0_fillStratum 61 = .ok (.getfield 41, 3) := by decide +kernel
theorem dX0_fillStratum_64 : decode cX0_fillStratum 64 = .ok (.if_icmp .ge 24, 3) := by decide +kernel
theorem dX0_fillStratum_67 : decode cX0_fillStratum 67 = .ok (.aload_n 0, 1) := by decide +kernel
theorem dX0_fillStratum_68 : decode cX0_fillStratum 68 = .ok (.iload_n 1, 1) := by decide +kernel
theorem dX0_fillStratum_69 : decode cX0_fillStratum 69 = .ok (.iload_n 3, 1) := by decide +kernel
theorem dX0_fillStratum_70 : decode cX0_fillStratum 70 = .ok (.invokevirtual 75, 3) := by decide +kernel
theorem dX0_fillStratum_73 : decode cX0_fillStratum 73 = .ok (.ifCond .eq 9, 3) := by decide +kernel
theorem dX0_fillStratum_76 : decode cX0_fillStratum 76 = .ok (.aload_n 0, 1) := by decide +kernel
theorem dX0_fillStratum_77 : decode cX0_fillStratum 77 = .ok (.iload_n 1, 1) := by decide +kernel
theorem dX0_fillStratum_78 : decode cX0_fillStratum 78 = .ok (.iload_n 3, 1) := by decide +kernel
theorem dX0_fillStratum_79 : decode cX0_fillStratum 79 = .ok (.invokevirtual 87, 3) := by decide +kernel
theorem dX0_fillStratum_82 : decode cX0_fillStratum 82 = .ok (.iinc 3 1, 3) := by decide +kernel
theorem dX0_fillStratum_85 : decode cX0_fillStratum 85 = .ok (.goto (-29), 3) := by decide +kernel
theorem dX0_fillStratum_88 : decode cX0_fillStratum 88 = .ok (.iinc 2 1, 3) := by decide +kernel
theorem dX0_fillStratum_91 : decode cX0_fillStratum 91 = .ok (.goto (-52), 3) := by decide +kernel
theorem dX0_fillStratum_94 : decode cX0_fillStratum 94 = .ok (.return_, 1) := by decide +kernel
theorem dX0_isHeadAmong_0 : decode cX0_isHeadAmong 0 = .ok (.iload_n 1, 1) := by decide +kernel
theorem dX0_isHeadAmong_1 : decode cX0_isHeadAmong 1 = .ok (.aload_n 0, 1) := by decide +kernel
theorem dX0_isHeadAmong_2 : decode cX0_isHeadAmong 2 = .ok (.getfield 21, 3) := by decide +kernel
theorem dX0_isHeadAmong_5 : decode cX0_isHeadAmong 5 = .ok (.getfield 47, 3) := by decide +kernel
theorem dX0_isHeadAmong_8 : decode cX0_isHeadAmong 8 = .ok (.aload_n 0, 1) := by decide +kernel
theorem dX0_isHeadAmong_9 : decode cX0_isHeadAmong 9 = .ok (.getfield 21, 3) := by decide +kernel
theorem dX0_isHeadAmong_12 : decode cX0_isHeadAmong 12 = .ok (.getfield 51, 3) := by decide +kernel
theorem dX0_isHeadAmong_15 : decode cX0_isHeadAmong 15 = .ok (.iload_n 2, 1) := by decide +kernel
theorem dX0_isHeadAmong_16 : decode cX0_isHeadAmong 16 = .ok (.iaload, 1) := by decide +kernel
theorem dX0_isHeadAmong_17 : decode cX0_isHeadAmong 17 = .ok (.iaload, 1) := by decide +kernel
theorem dX0_isHeadAmong_18 : decode cX0_isHeadAmong 18 = .ok (.ishr, 1) := by decide +kernel
theorem dX0_isHeadAmong_19 : decode cX0_isHeadAmong 19 = .ok (.iconst 1, 1) := by decide +kernel
theorem dX0_isHeadAmong_20 : decode cX0_isHeadAmong 20 = .ok (.iand, 1) := by decide +kernel
theorem dX0_isHeadAmong_21 : decode cX0_isHeadAmong 21 = .ok (.ifCond .eq 7, 3) := by decide +kernel
theorem dX0_isHeadAmong_24 : decode cX0_isHeadAmong 24 = .ok (.iconst 1, 1) := by decide +kernel
theorem dX0_isHeadAmong_25 : decode cX0_isHeadAmong 25 = .ok (.goto 4, 3) := by decide +kernel
theorem dX0_isHeadAmong_28 : decode cX0_isHeadAmong 28 = .ok (.iconst 0, 1) := by decide +kernel
theorem dX0_isHeadAmong_29 : decode cX0_isHeadAmong 29 = .ok (.ireturn, 1) := by decide +kernel
theorem dX0_collectFromLatest_0 : decode cX0_collectFromLatest 0 = .ok (.aload_n 0, 1) := by decide +kernel
theorem dX0_collectFromLatest_1 : decode cX0_collectFromLatest 1 = .ok (.getfield 21, 3) := by decide +kernel
theorem dX0_collectFromLatest_4 : decode cX0_collectFromLatest 4 = .ok (.getfield 51, 3) := by decide +kernel
theorem dX0_collectFromLatest_7 : decode cX0_collectFromLatest 7 = .ok (.iload_n 2, 1) := by decide +kernel
theorem dX0_collectFromLatest_8 : decode cX0_collectFromLatest 8 = .ok (.iaload, 1) := by decide +kernel
theorem dX0_collectFromLatest_9 : decode cX0_collectFromLatest 9 = .ok (.iconst 1, 1) := by decide +kernel
theorem dX0_collectFromLatest_10 : decode cX0_collectFromLatest 10 = .ok (.iadd, 1) := by decide +kernel
theorem dX0_collectFromLatest_11 : decode cX0_collectFromLatest 11 = .ok (.istore_n 3, 1) := by decide +kernel
theorem dX0_collectFromLatest_12 : decode cX0_collectFromLatest 12 = .ok (.iload_n 3, 1) := by decide +kernel
theorem dX0_collectFromLatest_13 : decode cX0_collectFromLatest 13 = .ok (.aload_n 0, 1) := by decide +kernel
theorem dX0_collectFromLatest_14 : decode cX0_collectFromLatest 14 = .ok (.getfield 21, 3) := by decide +kernel
theorem dX0_collectFromLatest_17 : decode cX0_collectFromLatest 17 = .ok (.getfield 51, 3) := by decide +kernel
theorem dX0_collectFromLatest_20 : decode cX0_collectFromLatest 20 = .ok (.iload_n 2, 1) := by decide +kernel
theorem dX0_collectFromLatest_21 : decode cX0_collectFromLatest 21 = .ok (.iconst 1, 1) := by decide +kernel
theorem dX0_collectFromLatest_22 : decode cX0_collectFromLatest 22 = .ok (.iadd, 1) := by decide +kernel
theorem dX0_collectFromLatest_23 : decode cX0_collectFromLatest 23 = .ok (.iaload, 1) := by decide +kernel
theorem dX0_collectFromLatest_24 : decode cX0_collectFromLatest 24 = .ok (.if_icmp .ge 47, 3) := by decide +kernel
theorem dX0_collectFromLatest_27 : decode cX0_collectFromLatest 27 = .ok (.aload_n 0, 1) := by decide +kernel
theorem dX0_collectFromLatest_28 : decode cX0_collectFromLatest 28 = .ok (.getfield 21, 3) := by decide +kernel
theorem dX0_collectFromLatest_31 : decode cX0_collectFromLatest 31 = .ok (.getfield 90, 3) := by decide +kernel
theorem dX0_collectFromLatest_34 : decode cX0_collectFromLatest 34 = .ok (.iload_n 3, 1) := by decide +kernel
theorem dX0_collectFromLatest_35 : decode cX0_collectFromLatest 35 = .ok (.iaload, 1) := by decide +kernel
theorem dX0_collectFromLatest_36 : decode cX0_collectFromLatest 36 = .ok (.iconst 1, 1) := by decide +kernel
theorem dX0_collectFromLatest_37 : decode cX0_collectFromLatest 37 = .ok (.if_icmp .ne 28, 3) := by decide +kernel
theorem dX0_collectFromLatest_40 : decode cX0_collectFromLatest 40 = .ok (.iload_n 1, 1) := by decide +kernel
theorem dX0_collectFromLatest_41 : decode cX0_collectFromLatest 41 = .ok (.aload_n 0, 1) := by decide +kernel
theorem dX0_collectFromLatest_42 : decode cX0_collectFromLatest 42 = .ok (.getfield 21, 3) := by decide +kernel
theorem dX0_collectFromLatest_45 : decode cX0_collectFromLatest 45 = .ok (.getfield 47, 3) := by decide +kernel
theorem dX0_collectFromLatest_48 : decode cX0_collectFromLatest 48 = .ok (.iload_n 3, 1) := by decide +kernel
theorem dX0_collectFromLatest_49 : decode cX0_collectFromLatest 49 = .ok (.iaload, 1) := by decide +kernel
theorem dX0_collectFromLatest_50 : decode cX0_collectFromLatest 50 = .ok (.ishr, 1) := by decide +kernel
theorem dX0_collectFromLatest_51 : decode cX0_collectFromLatest 51 = .ok (.iconst 1, 1) := by decide +kernel
theorem dX0_collectFromLatest_52 : decode cX0_collectFromLatest 52 = .ok (.iand, 1) := by decide +kernel
theorem dX0_collectFromLatest_53 : decode cX0_collectFromLatest 53 = .ok (.ifCond .eq 12, 3) := by decide +kernel
theorem dX0_collectFromLatest_56 : decode cX0_collectFromLatest 56 = .ok (.aload_n 0, 1) := by decide +kernel
theorem dX0_collectFromLatest_57 : decode cX0_collectFromLatest 57 = .ok (.getfield 33, 3) := by decide +kernel
theorem dX0_collectFromLatest_60 : decode cX0_collectFromLatest 60 = .ok (.iload_n 2, 1) := by decide +kernel
theorem dX0_collectFromLatest_61 : decode cX0_collectFromLatest 61 = .ok (.iload_n 3, 1) := by decide +kernel
theorem dX0_collectFromLatest_62 : decode cX0_collectFromLatest 62 = .ok (.invokevirtual 79, 3) := by decide +kernel
theorem dX0_collectFromLatest_65 : decode cX0_collectFromLatest 65 = .ok (.iinc 3 1, 3) := by decide +kernel
theorem dX0_collectFromLatest_68 : decode cX0_collectFromLatest 68 = .ok (.goto (-56), 3) := by decide +kernel
theorem dX0_collectFromLatest_71 : decode cX0_collectFromLatest 71 = .ok (.return_, 1) := by decide +kernel
theorem dX0_takeFresh_0 : decode cX0_takeFresh 0 = .ok (.iconst 0, 1) := by decide +kernel
theorem dX0_takeFresh_1 : decode cX0_takeFresh 1 = .ok (.istore_n 2, 1) := by decide +kernel
theorem dX0_takeFresh_2 : decode cX0_takeFresh 2 = .ok (.iconst 0, 1) := by decide +kernel
theorem dX0_takeFresh_3 : decode cX0_takeFresh 3 = .ok (.istore_n 3, 1) := by decide +kernel
theorem dX0_takeFresh_4 : decode cX0_takeFresh 4 = .ok (.iload_n 3, 1) := by decide +kernel
theorem dX0_takeFresh_5 : decode cX0_takeFresh 5 = .ok (.bipush 10, 2) := by decide +kernel
theorem dX0_takeFresh_7 : decode cX0_takeFresh 7 = .ok (.if_icmp .ge 68, 3) := by decide +kernel
theorem dX0_takeFresh_10 : decode cX0_takeFresh 10 = .ok (.iload_n 1, 1) := by decide +kernel
theorem dX0_takeFresh_11 : decode cX0_takeFresh 11 = .ok (.iload_n 3, 1) := by decide +kernel
theorem dX0_takeFresh_12 : decode cX0_takeFresh 12 = .ok (.ishr, 1) := by decide +kernel
theorem dX0_takeFresh_13 : decode cX0_takeFresh 13 = .ok (.iconst 1, 1) := by decide +kernel
theorem dX0_takeFresh_14 : decode cX0_takeFresh 14 = .ok (.iand, 1) := by decide +kernel
theorem dX0_takeFresh_15 : decode cX0_takeFresh 15 = .ok (.ifCond .eq 54, 3) := by decide +kernel
theorem dX0_takeFresh_18 : decode cX0_takeFresh 18 = .ok (.iload_n 2, 1) := by decide +kernel
theorem dX0_takeFresh_19 : decode cX0_takeFresh 19 = .ok (.aload_n 0, 1) := by decide +kernel
theorem dX0_takeFresh_20 : decode cX0_takeFresh 20 = .ok (.getfield 12, 3) := by decide +kernel
theorem dX0_takeFresh_23 : decode cX0_takeFresh 23 = .ok (.iload_n 3, 1) := by decide +kernel
theorem dX0_takeFresh_24 : decode cX0_takeFresh 24 = .ok (.invokevirtual 93, 3) := by decide +kernel
theorem dX0_takeFresh_27 : decode cX0_takeFresh 27 = .ok (.ifCond .le 7, 3) := by decide +kernel
theorem dX0_takeFresh_30 : decode cX0_takeFresh 30 = .ok (.iconst 1, 1) := by decide +kernel
theorem dX0_takeFresh_31 : decode cX0_takeFresh 31 = .ok (.goto 4, 3) := by decide +kernel
theorem dX0_takeFresh_34 : decode cX0_takeFresh 34 = .ok (.iconst 0, 1) := by decide +kernel
theorem dX0_takeFresh_35 : decode cX0_takeFresh 35 = .ok (.ior, 1) := by decide +kernel
theorem dX0_takeFresh_36 : decode cX0_takeFresh 36 = .ok (.istore_n 2, 1) := by decide +kernel
theorem dX0_takeFresh_37 : decode cX0_takeFresh 37 = .ok (.aload_n 0, 1) := by decide +kernel
theorem dX0_takeFresh_38 : decode cX0_takeFresh 38 = .ok (.getfield 18, 3) := by decide +kernel
theorem dX0_takeFresh_41 : decode cX0_takeFresh 41 = .ok (.aload_n 0, 1) := by decide +kernel
theorem dX0_takeFresh_42 : decode cX0_takeFresh 42 = .ok (.getfield 12, 3) := by decide +kernel
theorem dX0_takeFresh_45 : decode cX0_takeFresh 45 = .ok (.iload_n 3, 1) := by decide +kernel
theorem dX0_takeFresh_46 : decode cX0_takeFresh 46 = .ok (.invokevirtual 96, 3) := by decide +kernel
theorem dX0_takeFresh_49 : decode cX0_takeFresh 49 = .ok (.aload_n 0, 1) := by decide +kernel
theorem dX0_takeFresh_50 : decode cX0_takeFresh 50 = .ok (.getfield 25, 3) := by decide +kernel
theorem dX0_takeFresh_53 : decode cX0_takeFresh 53 = .ok (.aload_n 0, 1) := by decide +kernel
theorem dX0_takeFresh_54 : decode cX0_takeFresh 54 = .ok (.getfield 12, 3) := by decide +kernel
theorem dX0_takeFresh_57 : decode cX0_takeFresh 57 = .ok (.iload_n 3, 1) := by decide +kernel
theorem dX0_takeFresh_58 : decode cX0_takeFresh 58 = .ok (.invokevirtual 100, 3) := by decide +kernel
theorem dX0_takeFresh_61 : decode cX0_takeFresh 61 = .ok (.aload_n 0, 1) := by decide +kernel
theorem dX0_takeFresh_62 : decode cX0_takeFresh 62 = .ok (.getfield 12, 3) := by decide +kernel
theorem dX0_takeFresh_65 : decode cX0_takeFresh 65 = .ok (.iload_n 3, 1) := by decide +kernel
theorem dX0_takeFresh_66 : decode cX0_takeFresh 66 = .ok (.invokevirtual 62, 3) := by decide +kernel
theorem dX0_takeFresh_69 : decode cX0_takeFresh 69 = .ok (.iinc 3 1, 3) := by decide +kernel
theorem dX0_takeFresh_72 : decode cX0_takeFresh 72 = .ok (.goto (-68), 3) := by decide +kernel
theorem dX0_takeFresh_75 : decode cX0_takeFresh 75 = .ok (.iload_n 2, 1) := by decide +kernel
theorem dX0_takeFresh_76 : decode cX0_takeFresh 76 = .ok (.ireturn, 1) := by decide +kernel
