theorem dX6_init_0 : decode cX6_init 0 = .ok (.aload_n 0, 1) := by decide +kernel
theorem dX6_init_1 : decode cX6_init 1 = .ok (.invokespecial 3, 3) := by decide +kernel
theorem dX6_init_4 : decode cX6_init 4 = .ok (.aload_n 0, 1) := by decide +kernel
theorem dX6_init_5 : decode cX6_init 5 = .ok (.bipush 38, 2) := by decide +kernel
theorem dX6_init_7 : decode cX6_init 7 = .ok (.newarray .int, 2) := by decide +kernel
theorem dX6_init_9 : decode cX6_init 9 = .ok (.putfield 9, 3) := by decide +kernel
theorem dX6_init_12 : decode cX6_init 12 = .ok (.aload_n 0, 1) := by decide +kernel
theorem dX6_init_13 : decode cX6_init 13 = .ok (.iconst 5, 1) := by decide +kernel
theorem dX6_init_14 : decode cX6_init 14 = .ok (.newarray .int, 2) := by decide +kernel
theorem dX6_init_16 : decode cX6_init 16 = .ok (.putfield 15, 3) := by decide +kernel
theorem dX6_init_19 : decode cX6_init 19 = .ok (.aload_n 0, 1) := by decide +kernel
theorem dX6_init_20 : decode cX6_init 20 = .ok (.iconst 0, 1) := by decide +kernel
theorem dX6_init_21 : decode cX6_init 21 = .ok (.putfield 18, 3) := by decide +kernel
theorem dX6_init_24 : decode cX6_init 24 = .ok (.aload_n 0, 1) := by decide +kernel
theorem dX6_init_25 : decode cX6_init 25 = .ok (.iconst 0, 1) := by decide +kernel
theorem dX6_init_26 : decode cX6_init 26 = .ok (.putfield 22, 3) := by decide +kernel
theorem dX6_init_29 : decode cX6_init 29 = .ok (.aload_n 0, 1) := by decide +kernel
theorem dX6_init_30 : decode cX6_init 30 = .ok (.iconst 0, 1) := by decide +kernel
theorem dX6_init_31 : decode cX6_init 31 = .ok (.putfield 25, 3) := by decide +kernel
theorem dX6_init_34 : decode cX6_init 34 = .ok (.aload_n 0, 1) := by decide +kernel
theorem dX6_init_35 : decode cX6_init 35 = .ok (.iconst (-1), 1) := by decide +kernel
theorem dX6_init_36 : decode cX6_init 36 = .ok (.putfield 28, 3) := by decide +kernel
theorem dX6_init_39 : decode cX6_init 39 = .ok (.aload_n 0, 1) := by decide +kernel
theorem dX6_init_40 : decode cX6_init 40 = .ok (.iconst 0, 1) := by decide +kernel
theorem dX6_init_41 : decode cX6_init 41 = .ok (.putfield 31, 3) := by decide +kernel
theorem dX6_init_44 : decode cX6_init 44 = .ok (.aload_n 0, 1) := by decide +kernel
theorem dX6_init_45 : decode cX6_init 45 = .ok (.iconst 0, 1) := by decide +kernel
theorem dX6_init_46 : decode cX6_init 46 = .ok (.putfield 35, 3) := by decide +kernel
theorem dX6_init_49 : decode cX6_init 49 = .ok (.aload_n 0, 1) := by decide +kernel
theorem dX6_init_50 : decode cX6_init 50 = .ok (.aload_n 1, 1) := by decide +kernel
theorem dX6_init_51 : decode cX6_init 51 = .ok (.putfield 38, 3) := by decide +kernel
theorem dX6_init_54 : decode cX6_init 54 = .ok (.aload_n 0, 1) := by decide +kernel
theorem dX6_init_55 : decode cX6_init 55 = .ok (.aload_n 2, 1) := by decide +kernel
theorem dX6_init_56 : decode cX6_init 56 = .ok (.putfield 42, 3) := by decide +kernel
theorem dX6_init_59 : decode cX6_init 59 = .ok (.aload_n 0, 1) := by decide +kernel
theorem dX6_init_60 : decode cX6_init 60 = .ok (.aload_n 3, 1) := by decide +kernel
theorem dX6_init_61 : decode cX6_init 61 = .ok (.putfield 46, 3) := by decide +kernel
theorem dX6_init_64 : decode cX6_init 64 = .ok (.aload_n 0, 1) := by decide +kernel
theorem dX6_init_65 : decode cX6_init 65 = .ok (.aload 4, 2) := by decide +kernel
theorem dX6_init_67 : decode cX6_init 67 = .ok (.putfield 49, 3) := by decide +kernel
theorem dX6_init_70 : decode cX6_init 70 = .ok (.iconst 0, 1) := by decide +kernel
theorem dX6_init_71 : decode cX6_init 71 = .ok (.istore 5, 2) := by decide +kernel
theorem dX6_init_73 : decode cX6_init 73 = .ok (.iload 5, 2) := by decide +kernel
theorem dX6_init_75 : decode cX6_init 75 = .ok (.aload_n 0, 1) := by decide +kernel
theorem dX6_init_76 : decode cX6_init 76 = .ok (.getfield 9, 3) := by decide +kernel
theorem dX6_init_79 : decode cX6_init 79 = .ok (.arraylength, 1) := by decide +kernel
theorem dX6_init_80 : decode cX6_init 80 = .ok (.if_icmp .ge 29, 3) := by decide +kernel
theorem dX6_init_83 : decode cX6_init 83 = .ok (.aload_n 0, 1) := by decide +kernel
theorem dX6_init_84 : decode cX6_init 84 = .ok (.getfield 9, 3) := by decide +kernel
theorem dX6_init_87 : decode cX6_init 87 = .ok (.iload 5, 2) := by decide +kernel
theorem dX6_init_89 : decode cX6_init 89 = .ok (.iload 5, 2) := by decide +kernel
theorem dX6_init_91 : decode cX6_init 91 = .ok (.bipush 12, 2) := by decide +kernel
theorem dX6_init_93 : decode cX6_init 93 = .ok (.if_icmp .ge 8, 3) := by decide +kernel
theorem dX6_init_96 : decode cX6_init 96 = .ok (.iload 5, 2) := by decide +kernel
theorem dX6_init_98 : decode cX6_init 98 = .ok (.goto 4, 3) := by decide +kernel
theorem dX6_init_101 : decode cX6_init 101 = .ok (.iconst (-1), 1) := by decide +kernel
theorem dX6_init_102 : decode cX6_init 102 = .ok (.iastore, 1) := by decide +kernel
theorem dX6_init_103 : decode cX6_init 103 = .ok (.iinc 5 1, 3) := by decide +kernel
theorem dX6_init_106 : decode cX6_init 106 = .ok (.goto (-33), 3) := by decide +kernel
theorem dX6_init_109 : decode cX6_init 109 = .ok (.return_, 1) := by decide +kernel
theorem dX6_use_0 : decode cX6_use 0 = .ok (.aload_n 0, 1) := by decide +kernel
theorem dX6_use_1 : decode cX6_use 1 = .ok (.aload_n 1, 1) := by decide +kernel
theorem dX6_use_2 : decode cX6_use 2 = .ok (.putfield 38, 3) := by decide +kernel
theorem dX6_use_5 : decode cX6_use 5 = .ok (.return_, 1) := by decide +kernel
theorem dX6_collect_0 : decode cX6_collect 0 = .ok (.aload_n 0, 1) := by decide +kernel
theorem dX6_collect_1 : decode cX6_collect 1 = .ok (.iload_n 1, 1) := by decide +kernel
theorem dX6_collect_2 : decode cX6_collect 2 = .ok (.iload_n 2, 1) := by decide +kernel
theorem dX6_collect_3 : decode cX6_collect 3 = .ok (.invokevirtual 52, 3) := by decide +kernel
theorem dX6_collect_6 : decode cX6_collect 6 = .ok (.aload_n 0, 1) := by decide +kernel
theorem dX6_collect_7 : decode cX6_collect 7 = .ok (.invokevirtual 56, 3) := by decide +kernel
theorem dX6_collect_10 : decode cX6_collect 10 = .ok (.ifCond .eq 4, 3) := by decide +kernel
theorem dX6_collect_13 : decode cX6_collect 13 = .ok (.return_, 1) := by decide +kernel
theorem dX6_collect_14 : decode cX6_collect 14 = .ok (.aload_n 0, 1) := by decide +kernel
theorem dX6_collect_15 : decode cX6_collect 15 = .ok (.iconst 0, 1) := by decide +kernel
theorem dX6_collect_16 : decode cX6_collect 16 = .ok (.putfield 31, 3) := by decide +kernel
theorem dX6_collect_19 : decode cX6_collect 19 = .ok (.aload_n 0, 1) := by decide +kernel
theorem dX6_collect_20 : decode cX6_collect 20 = .ok (.iconst 0, 1) := by decide +kernel
theorem dX6_collect_21 : decode cX6_collect 21 = .ok (.invokevirtual 60, 3) := by decide +kernel
theorem dX6_collect_24 : decode cX6_collect 24 = .ok (.aload_n 0, 1) := by decide +kernel
theorem dX6_collect_25 : decode cX6_collect 25 = .ok (.iconst 0, 1) := by decide +kernel
theorem dX6_collect_26 : decode cX6_collect 26 = .ok (.invokevirtual 64, 3) := by decide +kernel
theorem dX6_collect_29 : decode cX6_collect 29 = .ok (.return_, 1) := by decide +kernel
theorem dX6_countSolutions_0 : decode cX6_countSolutions 0 = .ok (.aload_n 0, 1) := by decide +kernel
theorem dX6_countSolutions_1 : decode cX6_countSolutions 1 = .ok (.iload_n 1, 1) := by decide +kernel
theorem dX6_countSolutions_2 : decode cX6_countSolutions 2 = .ok (.iconst (-1), 1) := by decide +kernel
theorem dX6_countSolutions_3 : decode cX6_countSolutions 3 = .ok (.invokevirtual 52, 3) := by decide +kernel
theorem dX6_countSolutions_6 : decode cX6_countSolutions 6 = .ok (.aload_n 0, 1) := by decide +kernel
theorem dX6_countSolutions_7 : decode cX6_countSolutions 7 = .ok (.iconst 1, 1) := by decide +kernel
theorem dX6_countSolutions_8 : decode cX6_countSolutions 8 = .ok (.putfield 31, 3) := by decide +kernel
theorem dX6_countSolutions_11 : decode cX6_countSolutions 11 = .ok (.aload_n 0, 1) := by decide +kernel
theorem dX6_countSolutions_12 : decode cX6_countSolutions 12 = .ok (.iconst 0, 1) := by decide +kernel
theorem dX6_countSolutions_13 : decode cX6_countSolutions 13 = .ok (.putfield 35, 3) := by decide +kernel
theorem dX6_countSolutions_16 : decode cX6_countSolutions 16 = .ok (.aload_n 0, 1) := by decide +kernel
theorem dX6_countSolutions_17 : decode cX6_countSolutions 17 = .ok (.invokevirtual 56, 3) := by decide +kernel
theorem dX6_countSolutions_20 : decode cX6_countSolutions 20 = .ok (.ifCond .ne 31, 3) := by decide +kernel
theorem dX6_countSolutions_23 : decode cX6_countSolutions 23 = .ok (.aload_n 0, 1) := by decide +kernel
theorem dX6_countSolutions_24 : decode cX6_countSolutions 24 = .ok (.iload_n 2, 1) := by decide +kernel
theorem dX6_countSolutions_25 : decode cX6_countSolutions 25 = .ok (.invokevirtual 67, 3) := by decide +kernel
theorem dX6_countSolutions_28 : decode cX6_countSolutions 28 = .ok (.ifCond .eq 23, 3) := by decide +kernel
theorem dX6_countSolutions_31 : decode cX6_countSolutions 31 = .ok (.aload_n 0, 1) := by decide +kernel
theorem dX6_countSolutions_32 : decode cX6_countSolutions 32 = .ok (.aload_n 0, 1) := by decide +kernel
theorem dX6_countSolutions_33 : decode cX6_countSolutions 33 = .ok (.getfield 38, 3) := by decide +kernel
theorem dX6_countSolutions_36 : decode cX6_countSolutions 36 = .ok (.aload_n 0, 1) := by decide +kernel
theorem dX6_countSolutions_37 : decode cX6_countSolutions 37 = .ok (.getfield 22, 3) := by decide +kernel
theorem dX6_countSolutions_40 : decode cX6_countSolutions 40 = .ok (.invokevirtual 71, 3) := by decide +kernel
theorem dX6_countSolutions_43 : decode cX6_countSolutions 43 = .ok (.invokevirtual 60, 3) := by decide +kernel
theorem dX6_countSolutions_46 : decode cX6_countSolutions 46 = .ok (.aload_n 0, 1) := by decide +kernel
theorem dX6_countSolutions_47 : decode cX6_countSolutions 47 = .ok (.iconst 0, 1) := by decide +kernel
theorem dX6_countSolutions_48 : decode cX6_countSolutions 48 = .ok (.invokevirtual 64, 3) := by decide +kernel
theorem dX6_countSolutions_51 : decode cX6_countSolutions 51 = .ok (.bipush 12, 2) := by decide +kernel
theorem dX6_countSolutions_53 : decode cX6_countSolutions 53 = .ok (.istore_n 3, 1) := by decide +kernel
theorem dX6_countSolutions_54 : decode cX6_countSolutions 54 = .ok (.iload_n 3, 1) := by decide +kernel
theorem dX6_countSolutions_55 : decode cX6_countSolutions 55 = .ok (.aload_n 0, 1) := by decide +kernel
theorem dX6_countSolutions_56 : decode cX6_countSolutions 56 = .ok (.getfield 9, 3) := by decide +kernel
theorem dX6_countSolutions_59 : decode cX6_countSolutions 59 = .ok (.arraylength, 1) := by decide +kernel
theorem dX6_countSolutions_60 : decode cX6_countSolutions 60 = .ok (.if_icmp .ge 16, 3) := by decide +kernel
theorem dX6_countSolutions_63 : decode cX6_countSolutions 63 = .ok (.aload_n 0, 1) := by decide +kernel
theorem dX6_countSolutions_64 : decode cX6_countSolutions 64 = .ok (.getfield 9, 3) := by decide +kernel
theorem dX6_countSolutions_67 : decode cX6_countSolutions 67 = .ok (.iload_n 3, 1) := by decide +kernel
theorem dX6_countSolutions_68 : decode cX6_countSolutions 68 = .ok (.iconst (-1), 1) := by decide +kernel
theorem dX6_countSolutions_69 : decode cX6_countSolutions 69 = .ok (.iastore, 1) := by decide +kernel
theorem dX6_countSolutions_70 : decode cX6_countSolutions 70 = .ok (.iinc 3 1, 3) := by decide +kernel
theorem dX6_countSolutions_73 : decode cX6_countSolutions 73 = .ok (.goto (-19), 3) := by decide +kernel
theorem dX6_countSolutions_76 : decode cX6_countSolutions 76 = .ok (.aload_n 0, 1) := by decide +kernel
theorem dX6_countSolutions_77 : decode cX6_countSolutions 77 = .ok (.getfield 35, 3) := by decide +kernel
theorem dX6_countSolutions_80 : decode cX6_countSolutions 80 = .ok (.ireturn, 1) := by decide +kernel
theorem dX6_open_0 : decode cX6_open 0 = .ok (.aload_n 0, 1) := by decide +kernel
theorem dX6_open_1 : decode cX6_open 1 = .ok (.aload_n 0, 1) := by decide +kernel
theorem dX6_open_2 : decode cX6_open 2 = .ok (.getfield 38, 3) := by decide +kernel
theorem dX6_open_5 : decode cX6_open 5 = .ok (.getfield 77, 3) := by decide +kernel
theorem dX6_open_8 : decode cX6_open 8 = .ok (.iload_n 1, 1) := by decide +kernel
theorem dX6_open_9 : decode cX6_open 9 = .ok (.iaload, 1) := by decide +kernel
theorem dX6_open_10 : decode cX6_open 10 = .ok (.putfield 22, 3) := by decide +kernel
theorem dX6_open_13 : decode cX6_open 13 = .ok (.aload_n 0, 1) := by decide +kernel
theorem dX6_open_14 : decode cX6_open 14 = .ok (.aload_n 0, 1) := by decide +kernel
theorem dX6_open_15 : decode cX6_open 15 = .ok (.getfield 38, 3) := by decide +kernel
theorem dX6_open_18 : decode cX6_open 18 = .ok (.getfield 77, 3) := by decide +kernel
theorem dX6_open_21 : decode cX6_open 21 = .ok (.iload_n 1, 1) := by decide +kernel
theorem dX6_open_22 : decode cX6_open 22 = .ok (.iconst 1, 1) := by decide +kernel
theorem dX6_open_23 : decode cX6_open 23 = .ok (.iadd, 1) := by decide +kernel
theorem dX6_open_24 : decode cX6_open 24 = .ok (.iaload, 1) := by decide +kernel
theorem dX6_open_25 : decode cX6_open 25 = .ok (.putfield 25, 3) := by decide +kernel
theorem dX6_open_28 : decode cX6_open 28 = .ok (.aload_n 0, 1) := by decide +kernel
theorem dX6_open_29 : decode cX6_open 29 = .ok (.iload_n 2, 1) := by decide +kernel
theorem dX6_open_30 : decode cX6_open 30 = .ok (.putfield 28, 3) := by decide +kernel
theorem dX6_open_33 : decode cX6_open 33 = .ok (.return_, 1) := by decide +kernel
theorem dX6_isHopeless_0 : decode cX6_isHopeless 0 = .ok (.aload_n 0, 1) := by decide +kernel
theorem dX6_isHopeless_1 : decode cX6_isHopeless 1 = .ok (.getfield 22, 3) := by decide +kernel
theorem dX6_isHopeless_4 : decode cX6_isHopeless 4 = .ok (.iconst 1, 1) := by decide +kernel
theorem dX6_isHopeless_5 : decode cX6_isHopeless 5 = .ok (.iadd, 1) := by decide +kernel
theorem dX6_isHopeless_6 : decode cX6_isHopeless 6 = .ok (.istore_n 1, 1) := by decide +kernel
theorem dX6_isHopeless_7 : decode cX6_isHopeless 7 = .ok (.iload_n 1, 1) := by decide +kernel
theorem dX6_isHopeless_8 : decode cX6_isHopeless 8 = .ok (.aload_n 0, 1) := by decide +kernel
theorem dX6_isHopeless_9 : decode cX6_isHopeless 9 = .ok (.getfield 25, 3) := by decide +kernel
theorem dX6_isHopeless_12 : decode cX6_isHopeless 12 = .ok (.if_icmp .ge 44, 3) := by decide +kernel
theorem dX6_isHopeless_15 : decode cX6_isHopeless 15 = .ok (.aload_n 0, 1) := by decide +kernel
theorem dX6_isHopeless_16 : decode cX6_isHopeless 16 = .ok (.getfield 38, 3) := by decide +kernel
theorem dX6_isHopeless_19 : decode cX6_isHopeless 19 = .ok (.getfield 80, 3) := by decide +kernel
theorem dX6_isHopeless_22 : decode cX6_isHopeless 22 = .ok (.iload_n 1, 1) := by decide +kernel
theorem dX6_isHopeless_23 : decode cX6_isHopeless 23 = .ok (.iaload, 1) := by decide +kernel
theorem dX6_isHopeless_24 : decode cX6_isHopeless 24 = .ok (.iconst 1, 1) := by decide +kernel
theorem dX6_isHopeless_25 : decode cX6_isHopeless 25 = .ok (.if_icmp .ne 25, 3) := by decide +kernel
theorem dX6_isHopeless_28 : decode cX6_isHopeless 28 = .ok (.aload_n 0, 1) := by decide +kernel
theorem dX6_isHopeless_29 : decode cX6_isHopeless 29 = .ok (.iload_n 1, 1) := by decide +kernel
theorem dX6_isHopeless_30 : decode cX6_isHopeless 30 = .ok (.invokevirtual 83, 3) := by decide +kernel
theorem dX6_isHopeless_33 : decode cX6_isHopeless 33 = .ok (.aload_n 0, 1) := by decide +kernel
theorem dX6_isHopeless_34 : decode cX6_isHopeless 34 = .ok (.getfield 38, 3) := by decide +kernel
theorem dX6_isHopeless_37 : decode cX6_isHopeless 37 = .ok (.getfield 87, 3) := by decide +kernel
theorem dX6_isHopeless_40 : decode cX6_isHopeless 40 = .ok (.iload_n 1, 1) := by decide +kernel
theorem dX6_isHopeless_41 : decode cX6_isHopeless 41 = .ok (.iaload, 1) := by decide +kernel
theorem dX6_isHopeless_42 : decode cX6_isHopeless 42 = .ok (.invokevirtual 90, 3) := by decide +kernel
theorem dX6_isHopeless_45 : decode cX6_isHopeless 45 = .ok (.ifCond .ne 5, 3) := by decide +kernel
theorem dX6_isHopeless_48 : decode cX6_isHopeless 48 = .ok (.iconst 1, 1) := by decide +kernel
theorem dX6_isHopeless_49 : decode cX6_isHopeless 49 = .ok (.ireturn, 1) := by decide +kernel
theorem dX6_isHopeless_50 : decode cX6_isHopeless 50 = .ok (.iinc 1 1, 3) := by decide +kernel
theorem dX6_isHopeless_53 : decode cX6_isHopeless 53 = .ok (.goto (-46), 3) := by decide +kernel
theorem dX6_isHopeless_56 : decode cX6_isHopeless 56 = .ok (.iconst 0, 1) := by decide +kernel
theorem dX6_isHopeless_57 : decode cX6_isHopeless 57 = .ok (.ireturn, 1) := by decide +kernel
theorem dX6_sourceOf_0 : decode cX6_sourceOf 0 = .ok (.iload_n 1, 1) := by decide +kernel
theorem dX6_sourceOf_1 : decode cX6_sourceOf 1 = .ok (.aload_n 0, 1) := by decide +kernel
theorem dX6_sourceOf_2 : decode cX6_sourceOf 2 = .ok (.getfield 28, 3) := by decide +kernel
theorem dX6_sourceOf_5 : decode cX6_sourceOf 5 = .ok (.if_icmp .ne 10, 3) := by decide +kernel
theorem dX6_sourceOf_8 : decode cX6_sourceOf 8 = .ok (.aload_n 0, 1) := by decide +kernel
theorem dX6_sourceOf_9 : decode cX6_sourceOf 9 = .ok (.getfield 49, 3) := by decide +kernel
theorem dX6_sourceOf_12 : decode cX6_sourceOf 12 = .ok (.goto 7, 3) := by decide +kernel
theorem dX6_sourceOf_15 : decode cX6_sourceOf 15 = .ok (.aload_n 0, 1) := by decide +kernel
theorem dX6_sourceOf_16 : decode cX6_sourceOf 16 = .ok (.getfield 42, 3) := by decide +kernel
theorem dX6_sourceOf_19 : decode cX6_sourceOf 19 = .ok (.areturn, 1) := by decide +kernel
theorem dX6_bindHead_0 : decode cX6_bindHead 0 = .ok (.iload_n 1, 1) := by decide +kernel
theorem dX6_bindHead_1 : decode cX6_bindHead 1 = .ok (.istore_n 2, 1) := by decide +kernel
theorem dX6_bindHead_2 : decode cX6_bindHead 2 = .ok (.aload_n 0, 1) := by decide +kernel
theorem dX6_bindHead_3 : decode cX6_bindHead 3 = .ok (.getfield 38, 3) := by decide +kernel
theorem dX6_bindHead_6 : decode cX6_bindHead 6 = .ok (.getfield 95, 3) := by decide +kernel
theorem dX6_bindHead_9 : decode cX6_bindHead 9 = .ok (.aload_n 0, 1) := by decide +kernel
theorem dX6_bindHead_10 : decode cX6_bindHead 10 = .ok (.getfield 22, 3) := by decide +kernel
theorem dX6_bindHead_13 : decode cX6_bindHead 13 = .ok (.iaload, 1) := by decide +kernel
theorem dX6_bindHead_14 : decode cX6_bindHead 14 = .ok (.iconst 1, 1) := by decide +kernel
theorem dX6_bindHead_15 : decode cX6_bindHead 15 = .ok (.isub, 1) := by decide +kernel
theorem dX6_bindHead_16 : decode cX6_bindHead 16 = .ok (.istore_n 3, 1) := by decide +kernel
theorem dX6_bindHead_17 : decode cX6_bindHead 17 = .ok (.iload_n 3, 1) := by decide +kernel
theorem dX6_bindHead_18 : decode cX6_bindHead 18 = .ok (.ifCond .lt 72, 3) := by decide +kernel
theorem dX6_bindHead_21 : decode cX6_bindHead 21 = .ok (.aload_n 0, 1) := by decide +kernel
theorem dX6_bindHead_22 : decode cX6_bindHead 22 = .ok (.getfield 38, 3) := by decide +kernel
theorem dX6_bindHead_25 : decode cX6_bindHead 25 = .ok (.getfield 98, 3) := by decide +kernel
theorem dX6_bindHead_28 : decode cX6_bindHead 28 = .ok (.aload_n 0, 1) := by decide +kernel
theorem dX6_bindHead_29 : decode cX6_bindHead 29 = .ok (.getfield 22, 3) := by decide +kernel
theorem dX6_bindHead_32 : decode cX6_bindHead 32 = .ok (.iconst 3, 1) := by decide +kernel
theorem dX6_bindHead_33 : decode cX6_bindHead 33 = .ok (.imul, 1) := by decide +kernel
theorem dX6_bindHead_34 : decode cX6_bindHead 34 = .ok (.iload_n 3, 1) := by decide +kernel
theorem dX6_bindHead_35 : decode cX6_bindHead 35 = .ok (.iadd, 1) := by decide +kernel
theorem dX6_bindHead_36 : decode cX6_bindHead 36 = .ok (.iaload, 1) := by decide +kernel
theorem dX6_bindHead_37 : decode cX6_bindHead 37 = .ok (.istore 4, 2) := by decide +kernel
theorem dX6_bindHead_39 : decode cX6_bindHead 39 = .ok (.iload_n 2, 1) := by decide +kernel
theorem dX6_bindHead_40 : decode cX6_bindHead 40 = .ok (.bipush 12, 2) := by decide +kernel
theorem dX6_bindHead_42 : decode cX6_bindHead 42 = .ok (.irem, 1) := by decide +kernel
theorem dX6_bindHead_43 : decode cX6_bindHead 43 = .ok (.istore 5, 2) := by decide +kernel
theorem dX6_bindHead_45 : decode cX6_bindHead 45 = .ok (.aload_n 0, 1) := by decide +kernel
theorem dX6_bindHead_46 : decode cX6_bindHead 46 = .ok (.getfield 9, 3) := by decide +kernel
theorem dX6_bindHead_49 : decode cX6_bindHead 49 = .ok (.iload 4, 2) := by decide +kernel
theorem dX6_bindHead_51 : decode cX6_bindHead 51 = .ok (.iaload, 1) := by decide +kernel
theorem dX6_bindHead_52 : decode cX6_bindHead 52 = .ok (.iconst (-1), 1) := by decide +kernel
theorem dX6_bindHead_53 : decode cX6_bindHead 53 = .ok (.if_icmp .eq 17, 3) := by decide +kernel
theorem dX6_bindHead_56 : decode cX6_bindHead 56 = .ok (.aload_n 0, 1) := by decide +kernel
theorem dX6_bindHead_57 : decode cX6_bindHead 57 = .ok (.getfield 9, 3) := by decide +kernel
theorem dX6_bindHead_60 : decode cX6_bindHead 60 = .ok (.iload 4, 2) := by decide +kernel
theorem dX6_bindHead_62 : decode cX6_bindHead 62 = .ok (.iaload, 1) := by decide +kernel
theorem dX6_bindHead_63 : decode cX6_bindHead 63 = .ok (.iload 5, 2) := by decide +kernel
theorem dX6_bindHead_65 : decode cX6_bindHead 65 = .ok (.if_icmp .eq 5, 3) := by decide +kernel
theorem dX6_bindHead_68 : decode cX6_bindHead 68 = .ok (.iconst 0, 1) := by decide +kernel
theorem dX6_bindHead_69 : decode cX6_bindHead 69 = .ok (.ireturn, 1) := by decide +kernel
theorem dX6_bindHead_70 : decode cX6_bindHead 70 = .ok (.aload_n 0, 1) := by decide +kernel
theorem dX6_bindHead_71 : decode cX6_bindHead 71 = .ok (.getfield 9, 3) := by decide +kernel
theorem dX6_bindHead_74 : decode cX6_bindHead 74 = .ok (.iload 4, 2) := by decide +kernel
theorem dX6_bindHead_76 : decode cX6_bindHead 76 = .ok (.iload 5, 2) := by decide +kernel
theorem dX6_bindHead_78 : decode cX6_bindHead 78 = .ok (.iastore, 1) := by decide +kernel
theorem dX6_bindHead_79 : decode cX6_bindHead 79 = .ok (.iload_n 2, 1) := by decide +kernel
theorem dX6_bindHead_80 : decode cX6_bindHead 80 = .ok (.bipush 12, 2) := by decide +kernel
theorem dX6_bindHead_82 : decode cX6_bindHead 82 = .ok (.idiv, 1) := by decide +kernel
theorem dX6_bindHead_83 : decode cX6_bindHead 83 = .ok (.istore_n 2, 1) := by decide +kernel
theorem dX6_bindHead_84 : decode cX6_bindHead 84 = .ok (.iinc 3 (-1), 3) := by decide +kernel
theorem dX6_bindHead_87 : decode cX6_bindHead 87 = .ok (.goto (-70), 3) := by decide +kernel
theorem dX6_bindHead_90 : decode cX6_bindHead 90 = .ok (.iconst 1, 1) := by decide +kernel
theorem dX6_bindHead_91 : decode cX6_bindHead 91 = .ok (.ireturn, 1) := by decide +kernel
theorem dX6_makePlan_0 : decode cX6_makePlan 0 = .ok (.iload_n 1, 1) := by decide +kernel
theorem dX6_makePlan_1 : decode cX6_makePlan 1 = .ok (.istore_n 2, 1) := by decide +kernel
theorem dX6_makePlan_2 : decode cX6_makePlan 2 = .ok (.iconst 0, 1) := by decide +kernel
theorem dX6_makePlan_3 : decode cX6_makePlan 3 = .ok (.istore_n 3, 1) := by decide +kernel
theorem dX6_makePlan_4 : decode cX6_makePlan 4 = .ok (.aload_n 0, 1) := by decide +kernel
theorem dX6_makePlan_5 : decode cX6_makePlan 5 = .ok (.iconst 0, 1) := by decide +kernel
theorem dX6_makePlan_6 : decode cX6_makePlan 6 = .ok (.putfield 18, 3) := by decide +kernel
theorem dX6_makePlan_9 : decode cX6_makePlan 9 = .ok (.aload_n 0, 1) := by decide +kernel
theorem dX6_makePlan_10 : decode cX6_makePlan 10 = .ok (.getfield 28, 3) := by decide +kernel
theorem dX6_makePlan_13 : decode cX6_makePlan 13 = .ok (.iconst (-1), 1) := by decide +kernel
theorem dX6_makePlan_14 : decode cX6_makePlan 14 = .ok (.if_icmp .eq 10, 3) := by decide +kernel
theorem dX6_makePlan_17 : decode cX6_makePlan 17 = .ok (.aload_n 0, 1) := by decide +kernel
theorem dX6_makePlan_18 : decode cX6_makePlan 18 = .ok (.getfield 28, 3) := by decide +kernel
theorem dX6_makePlan_21 : decode cX6_makePlan 21 = .ok (.goto 9, 3) := by decide +kernel
theorem dX6_makePlan_24 : decode cX6_makePlan 24 = .ok (.aload_n 0, 1) := by decide +kernel
theorem dX6_makePlan_25 : decode cX6_makePlan 25 = .ok (.iload_n 3, 1) := by decide +kernel
theorem dX6_makePlan_26 : decode cX6_makePlan 26 = .ok (.iload_n 2, 1) := by decide +kernel
theorem dX6_makePlan_27 : decode cX6_makePlan 27 = .ok (.invokevirtual 101, 3) := by decide +kernel
theorem dX6_makePlan_30 : decode cX6_makePlan 30 = .ok (.istore 4, 2) := by decide +kernel
theorem dX6_makePlan_32 : decode cX6_makePlan 32 = .ok (.iload 4, 2) := by decide +kernel
theorem dX6_makePlan_34 : decode cX6_makePlan 34 = .ok (.iconst (-1), 1) := by decide +kernel
theorem dX6_makePlan_35 : decode cX6_makePlan 35 = .ok (.if_icmp .eq 67, 3) := by decide +kernel
theorem dX6_makePlan_38 : decode cX6_makePlan 38 = .ok (.aload_n 0, 1) := by decide +kernel
theorem dX6_makePlan_39 : decode cX6_makePlan 39 = .ok (.getfield 18, 3) := by decide +kernel
theorem dX6_makePlan_42 : decode cX6_makePlan 42 = .ok (.iconst 5, 1) := by decide +kernel
theorem dX6_makePlan_43 : decode cX6_makePlan 43 = .ok (.if_icmp .ge 59, 3) := by decide +kernel
theorem dX6_makePlan_46 : decode cX6_makePlan 46 = .ok (.aload_n 0, 1) := by decide +kernel
theorem dX6_makePlan_47 : decode cX6_makePlan 47 = .ok (.getfield 15, 3) := by decide +kernel
theorem dX6_makePlan_50 : decode cX6_makePlan 50 = .ok (.aload_n 0, 1) := by decide +kernel
theorem dX6_makePlan_51 : decode cX6_makePlan 51 = .ok (.getfield 18, 3) := by decide +kernel
theorem dX6_makePlan_54 : decode cX6_makePlan 54 = .ok (.iload 4, 2) := by decide +kernel
theorem dX6_makePlan_56 : decode cX6_makePlan 56 = .ok (.iastore, 1) := by decide +kernel
theorem dX6_makePlan_57 : decode cX6_makePlan 57 = .ok (.aload_n 0, 1) := by decide +kernel
theorem dX6_makePlan_58 : decode cX6_makePlan 58 = .ok (.dup, 1) := by decide +kernel
theorem dX6_makePlan_59 : decode cX6_makePlan 59 = .ok (.getfield 18, 3) := by decide +kernel
theorem dX6_makePlan_62 : decode cX6_makePlan 62 = .ok (.iconst 1, 1) := by decide +kernel
theorem dX6_makePlan_63 : decode cX6_makePlan 63 = .ok (.iadd, 1) := by decide +kernel
theorem dX6_makePlan_64 : decode cX6_makePlan 64 = .ok (.putfield 18, 3) := by decide +kernel
theorem dX6_makePlan_67 : decode cX6_makePlan 67 = .ok (.iload_n 3, 1) := by decide +kernel
theorem dX6_makePlan_68 : decode cX6_makePlan 68 = .ok (.iconst 1, 1) := by decide +kernel
theorem dX6_makePlan_69 : decode cX6_makePlan 69 = .ok (.iload 4, 2) := by decide +kernel
theorem dX6_makePlan_71 : decode cX6_makePlan 71 = .ok (.aload_n 0, 1) := by decide +kernel
theorem dX6_makePlan_72 : decode cX6_makePlan 72 = .ok (.getfield 22, 3) := by decide +kernel
theorem dX6_makePlan_75 : decode cX6_makePlan 75 = .ok (.isub, 1) := by decide +kernel
theorem dX6_makePlan_76 : decode cX6_makePlan 76 = .ok (.ishl, 1) := by decide +kernel
theorem dX6_makePlan_77 : decode cX6_makePlan 77 = .ok (.ior, 1) := by decide +kernel
theorem dX6_makePlan_78 : decode cX6_makePlan 78 = .ok (.istore_n 3, 1) := by decide +kernel
theorem dX6_makePlan_79 : decode cX6_makePlan 79 = .ok (.iload_n 2, 1) := by decide +kernel
theorem dX6_makePlan_80 : decode cX6_makePlan 80 = .ok (.aload_n 0, 1) := by decide +kernel
theorem dX6_makePlan_81 : decode cX6_makePlan 81 = .ok (.getfield 38, 3) := by decide +kernel
theorem dX6_makePlan_84 : decode cX6_makePlan 84 = .ok (.iload 4, 2) := by decide +kernel
theorem dX6_makePlan_86 : decode cX6_makePlan 86 = .ok (.invokevirtual 71, 3) := by decide +kernel
theorem dX6_makePlan_89 : decode cX6_makePlan 89 = .ok (.ior, 1) := by decide +kernel
theorem dX6_makePlan_90 : decode cX6_makePlan 90 = .ok (.istore_n 2, 1) := by decide +kernel
theorem dX6_makePlan_91 : decode cX6_makePlan 91 = .ok (.aload_n 0, 1) := by decide +kernel
theorem dX6_makePlan_92 : decode cX6_makePlan 92 = .ok (.iload_n 3, 1) := by decide +kernel
theorem dX6_makePlan_93 : decode cX6_makePlan 93 = .ok (.iload_n 2, 1) := by decide +kernel
theorem dX6_makePlan_94 : decode cX6_makePlan 94 = .ok (.invokevirtual 101, 3) := by decide +kernel
theorem dX6_makePlan_97 : decode cX6_makePlan 97 = .ok (.istore 4, 2) := by decide +kernel
theorem dX6_makePlan_99 : decode cX6_makePlan 99 = .ok (.goto (-67), 3) := by decide +kernel
theorem dX6_makePlan_102 : decode cX6_makePlan 102 = .ok (.return_, 1) := by decide +kernel
theorem dX6_chooseNext_0 : decode cX6_chooseNext 0 = .ok (.iconst (-1), 1) := by decide +kernel
theorem dX6_chooseNext_1 : decode cX6_chooseNext 1 = .ok (.istore_n 3, 1) := by decide +kernel
theorem dX6_chooseNext_2 : decode cX6_chooseNext 2 = .ok (.iconst 5, 1) := by decide +kernel
theorem dX6_chooseNext_3 : decode cX6_chooseNext 3 = .ok (.istore 4, 2) := by decide +kernel
theorem dX6_chooseNext_5 : decode cX6_chooseNext 5 = .ok (.aload_n 0, 1) := by decide +kernel
theorem dX6_chooseNext_6 : decode cX6_chooseNext 6 = .ok (.getfield 22, 3) := by decide +kernel
theorem dX6_chooseNext_9 : decode cX6_chooseNext 9 = .ok (.iconst 1, 1) := by decide +kernel
theorem dX6_chooseNext_10 : decode cX6_chooseNext 10 = .ok (.iadd, 1) := by decide +kernel
theorem dX6_chooseNext_11 : decode cX6_chooseNext 11 = .ok (.istore 5, 2) := by decide +kernel
theorem dX6_chooseNext_13 : decode cX6_chooseNext 13 = .ok (.iload 5, 2) := by decide +kernel
theorem dX6_chooseNext_15 : decode cX6_chooseNext 15 = .ok (.aload_n 0, 1) := by decide +kernel
theorem dX6_chooseNext_16 : decode cX6_chooseNext 16 = .ok (.getfield 25, 3) := by decide +kernel
theorem dX6_chooseNext_19 : decode cX6_chooseNext 19 = .ok (.if_icmp .ge 97, 3) := by decide +kernel
theorem dX6_chooseNext_22 : decode cX6_chooseNext 22 = .ok (.iload_n 1, 1) := by decide +kernel
theorem dX6_chooseNext_23 : decode cX6_chooseNext 23 = .ok (.iload 5, 2) := by decide +kernel
theorem dX6_chooseNext_25 : decode cX6_chooseNext 25 = .ok (.aload_n 0, 1) := by decide +kernel
theorem dX6_chooseNext_26 : decode cX6_chooseNext 26 = .ok (.getfield 22, 3) := by decide +kernel
theorem dX6_chooseNext_29 : decode cX6_chooseNext 29 = .ok (.isub, 1) := by decide +kernel
theorem dX6_chooseNext_30 : decode cX6_chooseNext 30 = .ok (.ishr, 1) := by decide +kernel
theorem dX6_chooseNext_31 : decode cX6_chooseNext 31 = .ok (.iconst 1, 1) := by decide +kernel
theorem dX6_chooseNext_32 : decode cX6_chooseNext 32 = .ok (.iand, 1) := by decide +kernel
theorem dX6_chooseNext_33 : decode cX6_chooseNext 33 = .ok (.ifCond .eq 6, 3) := by decide +kernel
theorem dX6_chooseNext_36 : decode cX6_chooseNext 36 = .ok (.goto 74, 3) := by decide +kernel
theorem dX6_chooseNext_39 : decode cX6_chooseNext 39 = .ok (.aload_n 0, 1) := by decide +kernel
theorem dX6_chooseNext_40 : decode cX6_chooseNext 40 = .ok (.getfield 38, 3) := by decide +kernel
theorem dX6_chooseNext_43 : decode cX6_chooseNext 43 = .ok (.iload 5, 2) := by decide +kernel
theorem dX6_chooseNext_45 : decode cX6_chooseNext 45 = .ok (.invokevirtual 71, 3) := by decide +kernel
theorem dX6_chooseNext_48 : decode cX6_chooseNext 48 = .ok (.iload_n 2, 1) := by decide +kernel
theorem dX6_chooseNext_49 : decode cX6_chooseNext 49 = .ok (.iconst (-1), 1) := by decide +kernel
theorem dX6_chooseNext_50 : decode cX6_chooseNext 50 = .ok (.ixor, 1) := by decide +kernel
theorem dX6_chooseNext_51 : decode cX6_chooseNext 51 = .ok (.iand, 1) := by decide +kernel
theorem dX6_chooseNext_52 : decode cX6_chooseNext 52 = .ok (.invokestatic 105, 3) := by decide +kernel
theorem dX6_chooseNext_55 : decode cX6_chooseNext 55 = .ok (.istore 6, 2) := by decide +kernel
theorem dX6_chooseNext_57 : decode cX6_chooseNext 57 = .ok (.aload_n 0, 1) := by decide +kernel
theorem dX6_chooseNext_58 : decode cX6_chooseNext 58 = .ok (.getfield 38, 3) := by decide +kernel
theorem dX6_chooseNext_61 : decode cX6_chooseNext 61 = .ok (.getfield 80, 3) := by decide +kernel
theorem dX6_chooseNext_64 : decode cX6_chooseNext 64 = .ok (.iload 5, 2) := by decide +kernel
theorem dX6_chooseNext_66 : decode cX6_chooseNext 66 = .ok (.iaload, 1) := by decide +kernel
theorem dX6_chooseNext_67 : decode cX6_chooseNext 67 = .ok (.iconst 1, 1) := by decide +kernel
theorem dX6_chooseNext_68 : decode cX6_chooseNext 68 = .ok (.if_icmp .eq 7, 3) := by decide +kernel
theorem dX6_chooseNext_71 : decode cX6_chooseNext 71 = .ok (.iconst 1, 1) := by decide +kernel
theorem dX6_chooseNext_72 : decode cX6_chooseNext 72 = .ok (.goto 4, 3) := by decide +kernel
theorem dX6_chooseNext_75 : decode cX6_chooseNext 75 = .ok (.iconst 0, 1) := by decide +kernel
theorem dX6_chooseNext_76 : decode cX6_chooseNext 76 = .ok (.istore 7, 2) := by decide +kernel
theorem dX6_chooseNext_78 : decode cX6_chooseNext 78 = .ok (.iload 7, 2) := by decide +kernel
theorem dX6_chooseNext_80 : decode cX6_chooseNext 80 = .ok (.ifCond .eq 11, 3) := by decide +kernel
theorem dX6_chooseNext_83 : decode cX6_chooseNext 83 = .ok (.iload 6, 2) := by decide +kernel
theorem dX6_chooseNext_85 : decode cX6_chooseNext 85 = .ok (.ifCond .ne 6, 3) := by decide +kernel
theorem dX6_chooseNext_88 : decode cX6_chooseNext 88 = .ok (.iload 5, 2) := by decide +kernel
theorem dX6_chooseNext_90 : decode cX6_chooseNext 90 = .ok (.ireturn, 1) := by decide +kernel
theorem dX6_chooseNext_91 : decode cX6_chooseNext 91 = .ok (.iload 7, 2) := by decide +kernel
theorem dX6_chooseNext_93 : decode cX6_chooseNext 93 = .ok (.ifCond .ne 17, 3) := by decide +kernel
theorem dX6_chooseNext_96 : decode cX6_chooseNext 96 = .ok (.iload 6, 2) := by decide +kernel
theorem dX6_chooseNext_98 : decode cX6_chooseNext 98 = .ok (.iload 4, 2) := by decide +kernel
theorem dX6_chooseNext_100 : decode cX6_chooseNext 100 = .ok (.if_icmp .ge 10, 3) := by decide +kernel
theorem dX6_chooseNext_103 : decode cX6_chooseNext 103 = .ok (.iload 5, 2) := by decide +kernel
theorem dX6_chooseNext_105 : decode cX6_chooseNext 105 = .ok (.istore_n 3, 1) := by decide +kernel
theorem dX6_chooseNext_106 : decode cX6_chooseNext 106 = .ok (.iload 6, 2) := by decide +kernel
theorem dX6_chooseNext_108 : decode cX6_chooseNext 108 = .ok (.istore 4, 2) := by decide +kernel
theorem dX6_chooseNext_110 : decode cX6_chooseNext 110 = .ok (.iinc 5 1, 3) := by decide +kernel
theorem dX6_chooseNext_113 : decode cX6_chooseNext 113 = .ok (.goto (-100), 3) := by decide +kernel
theorem dX6_chooseNext_116 : decode cX6_chooseNext 116 = .ok (.iload_n 3, 1) := by decide +kernel
theorem dX6_chooseNext_117 : decode cX6_chooseNext 117 = .ok (.ireturn, 1) := by decide +kernel
theorem dX6_solve_0 : decode cX6_solve 0 = .ok (.iload_n 1, 1) := by decide +kernel
theorem dX6_solve_1 : decode cX6_solve 1 = .ok (.aload_n 0, 1) := by decide +kernel
theorem dX6_solve_2 : decode cX6_solve 2 = .ok (.getfield 18, 3) := by decide +kernel
theorem dX6_solve_5 : decode cX6_solve 5 = .ok (.if_icmp .lt 16, 3) := by decide +kernel
theorem dX6_solve_8 : decode cX6_solve 8 = .ok (.aload_n 0, 1) := by decide +kernel
theorem dX6_solve_9 : decode cX6_solve 9 = .ok (.aload_n 0, 1) := by decide +kernel
theorem dX6_solve_10 : decode cX6_solve 10 = .ok (.aload_n 0, 1) := by decide +kernel
theorem dX6_solve_11 : decode cX6_solve 11 = .ok (.getfield 22, 3) := by decide +kernel
theorem dX6_solve_14 : decode cX6_solve 14 = .ok (.invokevirtual 110, 3) := by decide +kernel
theorem dX6_solve_17 : decode cX6_solve 17 = .ok (.invokevirtual 113, 3) := by decide +kernel
theorem dX6_solve_20 : decode cX6_solve 20 = .ok (.return_, 1) := by decide +kernel
theorem dX6_solve_21 : decode cX6_solve 21 = .ok (.aload_n 0, 1) := by decide +kernel
theorem dX6_solve_22 : decode cX6_solve 22 = .ok (.getfield 15, 3) := by decide +kernel
theorem dX6_solve_25 : decode cX6_solve 25 = .ok (.iload_n 1, 1) := by decide +kernel
theorem dX6_solve_26 : decode cX6_solve 26 = .ok (.iaload, 1) := by decide +kernel
theorem dX6_solve_27 : decode cX6_solve 27 = .ok (.istore_n 2, 1) := by decide +kernel
theorem dX6_solve_28 : decode cX6_solve 28 = .ok (.aload_n 0, 1) := by decide +kernel
theorem dX6_solve_29 : decode cX6_solve 29 = .ok (.getfield 38, 3) := by decide +kernel
theorem dX6_solve_32 : decode cX6_solve 32 = .ok (.getfield 80, 3) := by decide +kernel
theorem dX6_solve_35 : decode cX6_solve 35 = .ok (.iload_n 2, 1) := by decide +kernel
theorem dX6_solve_36 : decode cX6_solve 36 = .ok (.iaload, 1) := by decide +kernel
theorem dX6_solve_37 : decode cX6_solve 37 = .ok (.iconst 1, 1) := by decide +kernel
theorem dX6_solve_38 : decode cX6_solve 38 = .ok (.if_icmp .ne 25, 3) := by decide +kernel
theorem dX6_solve_41 : decode cX6_solve 41 = .ok (.aload_n 0, 1) := by decide +kernel
theorem dX6_solve_42 : decode cX6_solve 42 = .ok (.getfield 38, 3) := by decide +kernel
theorem dX6_solve_45 : decode cX6_solve 45 = .ok (.getfield 95, 3) := by decide +kernel
theorem dX6_solve_48 : decode cX6_solve 48 = .ok (.iload_n 2, 1) := by decide +kernel
theorem dX6_solve_49 : decode cX6_solve 49 = .ok (.iaload, 1) := by decide +kernel
theorem dX6_solve_50 : decode cX6_solve 50 = .ok (.ifCond .le 13, 3) := by decide +kernel
theorem dX6_solve_53 : decode cX6_solve 53 = .ok (.aload_n 0, 1) := by decide +kernel
theorem dX6_solve_54 : decode cX6_solve 54 = .ok (.iload_n 1, 1) := by decide +kernel
theorem dX6_solve_55 : decode cX6_solve 55 = .ok (.iconst 0, 1) := by decide +kernel
theorem dX6_solve_56 : decode cX6_solve 56 = .ok (.iconst 0, 1) := by decide +kernel
theorem dX6_solve_57 : decode cX6_solve 57 = .ok (.invokevirtual 116, 3) := by decide +kernel
theorem dX6_solve_60 : decode cX6_solve 60 = .ok (.goto 18, 3) := by decide +kernel
theorem dX6_solve_63 : decode cX6_solve 63 = .ok (.aload_n 0, 1) := by decide +kernel
theorem dX6_solve_64 : decode cX6_solve 64 = .ok (.iload_n 2, 1) := by decide +kernel
theorem dX6_solve_65 : decode cX6_solve 65 = .ok (.invokevirtual 120, 3) := by decide +kernel
theorem dX6_solve_68 : decode cX6_solve 68 = .ok (.ifCond .eq 10, 3) := by decide +kernel
theorem dX6_solve_71 : decode cX6_solve 71 = .ok (.aload_n 0, 1) := by decide +kernel
theorem dX6_solve_72 : decode cX6_solve 72 = .ok (.iload_n 1, 1) := by decide +kernel
theorem dX6_solve_73 : decode cX6_solve 73 = .ok (.iconst 1, 1) := by decide +kernel
theorem dX6_solve_74 : decode cX6_solve 74 = .ok (.iadd, 1) := by decide +kernel
theorem dX6_solve_75 : decode cX6_solve 75 = .ok (.invokevirtual 64, 3) := by decide +kernel
theorem dX6_solve_78 : decode cX6_solve 78 = .ok (.return_, 1) := by decide +kernel
theorem dX6_tryTerm_0 : decode cX6_tryTerm 0 = .ok (.aload_n 0, 1) := by decide +kernel
theorem dX6_tryTerm_1 : decode cX6_tryTerm 1 = .ok (.getfield 15, 3) := by decide +kernel
theorem dX6_tryTerm_4 : decode cX6_tryTerm 4 = .ok (.iload_n 1, 1) := by decide +kernel
theorem dX6_tryTerm_5 : decode cX6_tryTerm 5 = .ok (.iaload, 1) := by decide +kernel
theorem dX6_tryTerm_6 : decode cX6_tryTerm 6 = .ok (.istore 4, 2) := by decide +kernel
theorem dX6_tryTerm_8 : decode cX6_tryTerm 8 = .ok (.iload_n 2, 1) := by decide +kernel
theorem dX6_tryTerm_9 : decode cX6_tryTerm 9 = .ok (.iconst 1, 1) := by decide +kernel
theorem dX6_tryTerm_10 : decode cX6_tryTerm 10 = .ok (.iadd, 1) := by decide +kernel
theorem dX6_tryTerm_11 : decode cX6_tryTerm 11 = .ok (.aload_n 0, 1) := by decide +kernel
theorem dX6_tryTerm_12 : decode cX6_tryTerm 12 = .ok (.getfield 38, 3) := by decide +kernel
theorem dX6_tryTerm_15 : decode cX6_tryTerm 15 = .ok (.getfield 95, 3) := by decide +kernel
theorem dX6_tryTerm_18 : decode cX6_tryTerm 18 = .ok (.iload 4, 2) := by decide +kernel
theorem dX6_tryTerm_20 : decode cX6_tryTerm 20 = .ok (.iaload, 1) := by decide +kernel
theorem dX6_tryTerm_21 : decode cX6_tryTerm 21 = .ok (.if_icmp .lt 7, 3) := by decide +kernel
theorem dX6_tryTerm_24 : decode cX6_tryTerm 24 = .ok (.iconst 1, 1) := by decide +kernel
theorem dX6_tryTerm_25 : decode cX6_tryTerm 25 = .ok (.goto 4, 3) := by decide +kernel
theorem dX6_tryTerm_28 : decode cX6_tryTerm 28 = .ok (.iconst 0, 1) := by decide +kernel
theorem dX6_tryTerm_29 : decode cX6_tryTerm 29 = .ok (.istore 5, 2) := by decide +kernel
theorem dX6_tryTerm_31 : decode cX6_tryTerm 31 = .ok (.iload 5, 2) := by decide +kernel
theorem dX6_tryTerm_33 : decode cX6_tryTerm 33 = .ok (.ifCond .eq 26, 3) := by decide +kernel
theorem dX6_tryTerm_36 : decode cX6_tryTerm 36 = .ok (.aload_n 0, 1) := by decide +kernel
theorem dX6_tryTerm_37 : decode cX6_tryTerm 37 = .ok (.iload 4, 2) := by decide +kernel
theorem dX6_tryTerm_39 : decode cX6_tryTerm 39 = .ok (.invokevirtual 83, 3) := by decide +kernel
theorem dX6_tryTerm_42 : decode cX6_tryTerm 42 = .ok (.aload_n 0, 1) := by decide +kernel
theorem dX6_tryTerm_43 : decode cX6_tryTerm 43 = .ok (.getfield 38, 3) := by decide +kernel
theorem dX6_tryTerm_46 : decode cX6_tryTerm 46 = .ok (.getfield 87, 3) := by decide +kernel
theorem dX6_tryTerm_49 : decode cX6_tryTerm 49 = .ok (.iload 4, 2) := by decide +kernel
theorem dX6_tryTerm_51 : decode cX6_tryTerm 51 = .ok (.iaload, 1) := by decide +kernel
theorem dX6_tryTerm_52 : decode cX6_tryTerm 52 = .ok (.iload_n 3, 1) := by decide +kernel
theorem dX6_tryTerm_53 : decode cX6_tryTerm 53 = .ok (.invokevirtual 123, 3) := by decide +kernel
theorem dX6_tryTerm_56 : decode cX6_tryTerm 56 = .ok (.goto 6, 3) := by decide +kernel
theorem dX6_tryTerm_59 : decode cX6_tryTerm 59 = .ok (.sipush 4095, 3) := by decide +kernel
theorem dX6_tryTerm_62 : decode cX6_tryTerm 62 = .ok (.istore 6, 2) := by decide +kernel
theorem dX6_tryTerm_64 : decode cX6_tryTerm 64 = .ok (.aload_n 0, 1) := by decide +kernel
theorem dX6_tryTerm_65 : decode cX6_tryTerm 65 = .ok (.getfield 38, 3) := by decide +kernel
theorem dX6_tryTerm_68 : decode cX6_tryTerm 68 = .ok (.getfield 98, 3) := by decide +kernel
theorem dX6_tryTerm_71 : decode cX6_tryTerm 71 = .ok (.iload 4, 2) := by decide +kernel
theorem dX6_tryTerm_73 : decode cX6_tryTerm 73 = .ok (.iconst 3, 1) := by decide +kernel
theorem dX6_tryTerm_74 : decode cX6_tryTerm 74 = .ok (.imul, 1) := by decide +kernel
theorem dX6_tryTerm_75 : decode cX6_tryTerm 75 = .ok (.iload_n 2, 1) := by decide +kernel
theorem dX6_tryTerm_76 : decode cX6_tryTerm 76 = .ok (.iadd, 1) := by decide +kernel
theorem dX6_tryTerm_77 : decode cX6_tryTerm 77 = .ok (.iaload, 1) := by decide +kernel
theorem dX6_tryTerm_78 : decode cX6_tryTerm 78 = .ok (.istore 7, 2) := by decide +kernel
theorem dX6_tryTerm_80 : decode cX6_tryTerm 80 = .ok (.aload_n 0, 1) := by decide +kernel
theorem dX6_tryTerm_81 : decode cX6_tryTerm 81 = .ok (.getfield 9, 3) := by decide +kernel
theorem dX6_tryTerm_84 : decode cX6_tryTerm 84 = .ok (.iload 7, 2) := by decide +kernel
theorem dX6_tryTerm_86 : decode cX6_tryTerm 86 = .ok (.iaload, 1) := by decide +kernel
theorem dX6_tryTerm_87 : decode cX6_tryTerm 87 = .ok (.istore 8, 2) := by decide +kernel
theorem dX6_tryTerm_89 : decode cX6_tryTerm 89 = .ok (.iload 8, 2) := by decide +kernel
theorem dX6_tryTerm_91 : decode cX6_tryTerm 91 = .ok (.iconst (-1), 1) := by decide +kernel
theorem dX6_tryTerm_92 : decode cX6_tryTerm 92 = .ok (.if_icmp .ne 7, 3) := by decide +kernel
theorem dX6_tryTerm_95 : decode cX6_tryTerm 95 = .ok (.iconst 0, 1) := by decide +kernel
theorem dX6_tryTerm_96 : decode cX6_tryTerm 96 = .ok (.goto 5, 3) := by decide +kernel
theorem dX6_tryTerm_99 : decode cX6_tryTerm 99 = .ok (.iload 8, 2) := by decide +kernel
theorem dX6_tryTerm_101 : decode cX6_tryTerm 101 = .ok (.istore 9, 2) := by decide +kernel
theorem dX6_tryTerm_103 : decode cX6_tryTerm 103 = .ok (.iload 8, 2) := by decide +kernel
theorem dX6_tryTerm_105 : decode cX6_tryTerm 105 = .ok (.iconst (-1), 1) := by decide +kernel
theorem dX6_tryTerm_106 : decode cX6_tryTerm 106 = .ok (.if_icmp .ne 8, 3) := by decide +kernel
theorem dX6_tryTerm_109 : decode cX6_tryTerm 109 = .ok (.bipush 11, 2) := by decide +kernel
theorem dX6_tryTerm_111 : decode cX6_tryTerm 111 = .ok (.goto 5, 3) := by decide +kernel
theorem dX6_tryTerm_114 : decode cX6_tryTerm 114 = .ok (.iload 8, 2) := by decide +kernel
theorem dX6_tryTerm_116 : decode cX6_tryTerm 116 = .ok (.istore 10, 2) := by decide +kernel
theorem dX6_tryTerm_118 : decode cX6_tryTerm 118 = .ok (.iload 9, 2) := by decide +kernel
theorem dX6_tryTerm_120 : decode cX6_tryTerm 120 = .ok (.istore 11, 2) := by decide +kernel
theorem dX6_tryTerm_122 : decode cX6_tryTerm 122 = .ok (.iload 11, 2) := by decide +kernel
theorem dX6_tryTerm_124 : decode cX6_tryTerm 124 = .ok (.iload 10, 2) := by decide +kernel
theorem dX6_tryTerm_126 : decode cX6_tryTerm 126 = .ok (.if_icmp .gt 66, 3) := by decide +kernel
theorem dX6_tryTerm_129 : decode cX6_tryTerm 129 = .ok (.iload 6, 2) := by decide +kernel
theorem dX6_tryTerm_131 : decode cX6_tryTerm 131 = .ok (.iload 11, 2) := by decide +kernel
theorem dX6_tryTerm_133 : decode cX6_tryTerm 133 = .ok (.ishr, 1) := by decide +kernel
theorem dX6_tryTerm_134 : decode cX6_tryTerm 134 = .ok (.ifCond .eq 58, 3) := by decide +kernel
theorem dX6_tryTerm_137 : decode cX6_tryTerm 137 = .ok (.iload 6, 2) := by decide +kernel
theorem dX6_tryTerm_139 : decode cX6_tryTerm 139 = .ok (.iload 11, 2) := by decide +kernel
theorem dX6_tryTerm_141 : decode cX6_tryTerm 141 = .ok (.ishr, 1) := by decide +kernel
theorem dX6_tryTerm_142 : decode cX6_tryTerm 142 = .ok (.iconst 1, 1) := by decide +kernel
theorem dX6_tryTerm_143 : decode cX6_tryTerm 143 = .ok (.iand, 1) := by decide +kernel
theorem dX6_tryTerm_144 : decode cX6_tryTerm 144 = .ok (.ifCond .eq 42, 3) := by decide +kernel
theorem dX6_tryTerm_147 : decode cX6_tryTerm 147 = .ok (.aload_n 0, 1) := by decide +kernel
theorem dX6_tryTerm_148 : decode cX6_tryTerm 148 = .ok (.getfield 9, 3) := by decide +kernel
theorem dX6_tryTerm_151 : decode cX6_tryTerm 151 = .ok (.iload 7, 2) := by decide +kernel
theorem dX6_tryTerm_153 : decode cX6_tryTerm 153 = .ok (.iload 11, 2) := by decide +kernel
theorem dX6_tryTerm_155 : decode cX6_tryTerm 155 = .ok (.iastore, 1) := by decide +kernel
theorem dX6_tryTerm_156 : decode cX6_tryTerm 156 = .ok (.iload 5, 2) := by decide +kernel
theorem dX6_tryTerm_158 : decode cX6_tryTerm 158 = .ok (.ifCond .eq 13, 3) := by decide +kernel
theorem dX6_tryTerm_161 : decode cX6_tryTerm 161 = .ok (.aload_n 0, 1) := by decide +kernel
theorem dX6_tryTerm_162 : decode cX6_tryTerm 162 = .ok (.iload_n 1, 1) := by decide +kernel
theorem dX6_tryTerm_163 : decode cX6_tryTerm 163 = .ok (.iconst 1, 1) := by decide +kernel
theorem dX6_tryTerm_164 : decode cX6_tryTerm 164 = .ok (.iadd, 1) := by decide +kernel
theorem dX6_tryTerm_165 : decode cX6_tryTerm 165 = .ok (.invokevirtual 64, 3) := by decide +kernel
theorem dX6_tryTerm_168 : decode cX6_tryTerm 168 = .ok (.goto 18, 3) := by decide +kernel
theorem dX6_tryTerm_171 : decode cX6_tryTerm 171 = .ok (.aload_n 0, 1) := by decide +kernel
theorem dX6_tryTerm_172 : decode cX6_tryTerm 172 = .ok (.iload_n 1, 1) := by decide +kernel
theorem dX6_tryTerm_173 : decode cX6_tryTerm 173 = .ok (.iload_n 2, 1) := by decide +kernel
theorem dX6_tryTerm_174 : decode cX6_tryTerm 174 = .ok (.iconst 1, 1) := by decide +kernel
theorem dX6_tryTerm_175 : decode cX6_tryTerm 175 = .ok (.iadd, 1) := by decide +kernel
theorem dX6_tryTerm_176 : decode cX6_tryTerm 176 = .ok (.iload_n 3, 1) := by decide +kernel
theorem dX6_tryTerm_177 : decode cX6_tryTerm 177 = .ok (.bipush 12, 2) := by decide +kernel
theorem dX6_tryTerm_179 : decode cX6_tryTerm 179 = .ok (.imul, 1) := by decide +kernel
theorem dX6_tryTerm_180 : decode cX6_tryTerm 180 = .ok (.iload 11, 2) := by decide +kernel
theorem dX6_tryTerm_182 : decode cX6_tryTerm 182 = .ok (.iadd, 1) := by decide +kernel
theorem dX6_tryTerm_183 : decode cX6_tryTerm 183 = .ok (.invokevirtual 116, 3) := by decide +kernel
theorem dX6_tryTerm_186 : decode cX6_tryTerm 186 = .ok (.iinc 11 1, 3) := by decide +kernel
theorem dX6_tryTerm_189 : decode cX6_tryTerm 189 = .ok (.goto (-67), 3) := by decide +kernel
theorem dX6_tryTerm_192 : decode cX6_tryTerm 192 = .ok (.aload_n 0, 1) := by decide +kernel
theorem dX6_tryTerm_193 : decode cX6_tryTerm 193 = .ok (.getfield 9, 3) := by decide +kernel
theorem dX6_tryTerm_196 : decode cX6_tryTerm 196 = .ok (.iload 7, 2) := by decide +kernel
theorem dX6_tryTerm_198 : decode cX6_tryTerm 198 = .ok (.iload 8, 2) := by decide +kernel
theorem dX6_tryTerm_200 : decode cX6_tryTerm 200 = .ok (.iastore, 1) := by decide +kernel
theorem dX6_tryTerm_201 : decode cX6_tryTerm 201 = .ok (.return_, 1) := by decide +kernel
theorem dX6_isSo_0 : decode cX6_isSo 0 = .ok (.aload_n 0, 1) := by decide +kernel
theorem dX6_isSo_1 : decode cX6_isSo 1 = .ok (.getfield 38, 3) := by decide +kernel
theorem dX6_isSo_4 : decode cX6_isSo 4 = .ok (.getfield 80, 3) := by decide +kernel
theorem dX6_isSo_7 : decode cX6_isSo 7 = .ok (.iload_n 1, 1) := by decide +kernel
theorem dX6_isSo_8 : decode cX6_isSo 8 = .ok (.iaload, 1) := by decide +kernel
theorem dX6_isSo_9 : decode cX6_isSo 9 = .ok (.lookupswitch 80 #[(1, 27), (2, 50)], 27) := by decide +kernel
theorem dX6_isSo_36 : decode cX6_isSo 36 = .ok (.aload_n 0, 1) := by decide +kernel
theorem dX6_isSo_37 : decode cX6_isSo 37 = .ok (.iload_n 1, 1) := by decide +kernel
theorem dX6_isSo_38 : decode cX6_isSo 38 = .ok (.invokevirtual 83, 3) := by decide +kernel
theorem dX6_isSo_41 : decode cX6_isSo 41 = .ok (.aload_n 0, 1) := by decide +kernel
theorem dX6_isSo_42 : decode cX6_isSo 42 = .ok (.getfield 38, 3) := by decide +kernel
theorem dX6_isSo_45 : decode cX6_isSo 45 = .ok (.getfield 87, 3) := by decide +kernel
theorem dX6_isSo_48 : decode cX6_isSo 48 = .ok (.iload_n 1, 1) := by decide +kernel
theorem dX6_isSo_49 : decode cX6_isSo 49 = .ok (.iaload, 1) := by decide +kernel
theorem dX6_isSo_50 : decode cX6_isSo 50 = .ok (.aload_n 0, 1) := by decide +kernel
theorem dX6_isSo_51 : decode cX6_isSo 51 = .ok (.iload_n 1, 1) := by decide +kernel
theorem dX6_isSo_52 : decode cX6_isSo 52 = .ok (.invokevirtual 110, 3) := by decide +kernel
theorem dX6_isSo_55 : decode cX6_isSo 55 = .ok (.invokevirtual 126, 3) := by decide +kernel
theorem dX6_isSo_58 : decode cX6_isSo 58 = .ok (.ireturn, 1) := by decide +kernel
theorem dX6_isSo_59 : decode cX6_isSo 59 = .ok (.aload_n 0, 1) := by decide +kernel
theorem dX6_isSo_60 : decode cX6_isSo 60 = .ok (.getfield 42, 3) := by decide +kernel
theorem dX6_isSo_63 : decode cX6_isSo 63 = .ok (.aload_n 0, 1) := by decide +kernel
theorem dX6_isSo_64 : decode cX6_isSo 64 = .ok (.getfield 38, 3) := by decide +kernel
theorem dX6_isSo_67 : decode cX6_isSo 67 = .ok (.getfield 87, 3) := by decide +kernel
theorem dX6_isSo_70 : decode cX6_isSo 70 = .ok (.iload_n 1, 1) := by decide +kernel
theorem dX6_isSo_71 : decode cX6_isSo 71 = .ok (.iaload, 1) := by decide +kernel
theorem dX6_isSo_72 : decode cX6_isSo 72 = .ok (.aload_n 0, 1) := by decide +kernel
theorem dX6_isSo_73 : decode cX6_isSo 73 = .ok (.iload_n 1, 1) := by decide +kernel
theorem dX6_isSo_74 : decode cX6_isSo 74 = .ok (.invokevirtual 110, 3) := by decide +kernel
theorem dX6_isSo_77 : decode cX6_isSo 77 = .ok (.invokevirtual 126, 3) := by decide +kernel
theorem dX6_isSo_80 : decode cX6_isSo 80 = .ok (.ifCond .ne 7, 3) := by decide +kernel
theorem dX6_isSo_83 : decode cX6_isSo 83 = .ok (.iconst 1, 1) := by decide +kernel
theorem dX6_isSo_84 : decode cX6_isSo 84 = .ok (.goto 4, 3) := by decide +kernel
theorem dX6_isSo_87 : decode cX6_isSo 87 = .ok (.iconst 0, 1) := by decide +kernel
theorem dX6_isSo_88 : decode cX6_isSo 88 = .ok (.ireturn, 1) := by decide +kernel
theorem dX6_isSo_89 : decode cX6_isSo 89 = .ok (.aload_n 0, 1) := by decide +kernel
theorem dX6_isSo_90 : decode cX6_isSo 90 = .ok (.iload_n 1, 1) := by decide +kernel
theorem dX6_isSo_91 : decode cX6_isSo 91 = .ok (.invokevirtual 130, 3) := by decide +kernel
theorem dX6_isSo_94 : decode cX6_isSo 94 = .ok (.ireturn, 1) := by decide +kernel
theorem dX6_compare_0 : decode cX6_compare 0 = .ok (.aload_n 0, 1) := by decide +kernel
theorem dX6_compare_1 : decode cX6_compare 1 = .ok (.getfield 9, 3) := by decide +kernel
theorem dX6_compare_4 : decode cX6_compare 4 = .ok (.aload_n 0, 1) := by decide +kernel
theorem dX6_compare_5 : decode cX6_compare 5 = .ok (.getfield 38, 3) := by decide +kernel
theorem dX6_compare_8 : decode cX6_compare 8 = .ok (.getfield 98, 3) := by decide +kernel
theorem dX6_compare_11 : decode cX6_compare 11 = .ok (.iload_n 1, 1) := by decide +kernel
theorem dX6_compare_12 : decode cX6_compare 12 = .ok (.iconst 3, 1) := by decide +kernel
theorem dX6_compare_13 : decode cX6_compare 13 = .ok (.imul, 1) := by decide +kernel
theorem dX6_compare_14 : decode cX6_compare 14 = .ok (.iaload, 1) := by decide +kernel
theorem dX6_compare_15 : decode cX6_compare 15 = .ok (.iaload, 1) := by decide +kernel
theorem dX6_compare_16 : decode cX6_compare 16 = .ok (.istore_n 2, 1) := by decide +kernel
theorem dX6_compare_17 : decode cX6_compare 17 = .ok (.aload_n 0, 1) := by decide +kernel
theorem dX6_compare_18 : decode cX6_compare 18 = .ok (.getfield 9, 3) := by decide +kernel
theorem dX6_compare_21 : decode cX6_compare 21 = .ok (.aload_n 0, 1) := by decide +kernel
theorem dX6_compare_22 : decode cX6_compare 22 = .ok (.getfield 38, 3) := by decide +kernel
theorem dX6_compare_25 : decode cX6_compare 25 = .ok (.getfield 98, 3) := by decide +kernel
theorem dX6_compare_28 : decode cX6_compare 28 = .ok (.iload_n 1, 1) := by decide +kernel
theorem dX6_compare_29 : decode cX6_compare 29 = .ok (.iconst 3, 1) := by decide +kernel
theorem dX6_compare_30 : decode cX6_compare 30 = .ok (.imul, 1) := by decide +kernel
theorem dX6_compare_31 : decode cX6_compare 31 = .ok (.iconst 1, 1) := by decide +kernel
theorem dX6_compare_32 : decode cX6_compare 32 = .ok (.iadd, 1) := by decide +kernel
theorem dX6_compare_33 : decode cX6_compare 33 = .ok (.iaload, 1) := by decide +kernel
theorem dX6_compare_34 : decode cX6_compare 34 = .ok (.iaload, 1) := by decide +kernel
theorem dX6_compare_35 : decode cX6_compare 35 = .ok (.istore_n 3, 1) := by decide +kernel
theorem dX6_compare_36 : decode cX6_compare 36 = .ok (.aload_n 0, 1) := by decide +kernel
theorem dX6_compare_37 : decode cX6_compare 37 = .ok (.getfield 38, 3) := by decide +kernel
theorem dX6_compare_40 : decode cX6_compare 40 = .ok (.getfield 80, 3) := by decide +kernel
theorem dX6_compare_43 : decode cX6_compare 43 = .ok (.iload_n 1, 1) := by decide +kernel
theorem dX6_compare_44 : decode cX6_compare 44 = .ok (.iaload, 1) := by decide +kernel
theorem dX6_compare_45 : decode cX6_compare 45 = .ok (.lookupswitch 49 #[(3, 27), (4, 38)], 27) := by decide +kernel
theorem dX6_compare_72 : decode cX6_compare 72 = .ok (.iload_n 2, 1) := by decide +kernel
theorem dX6_compare_73 : decode cX6_compare 73 = .ok (.iload_n 3, 1) := by decide +kernel
theorem dX6_compare_74 : decode cX6_compare 74 = .ok (.if_icmp .ne 7, 3) := by decide +kernel
theorem dX6_compare_77 : decode cX6_compare 77 = .ok (.iconst 1, 1) := by decide +kernel
theorem dX6_compare_78 : decode cX6_compare 78 = .ok (.goto 4, 3) := by decide +kernel
theorem dX6_compare_81 : decode cX6_compare 81 = .ok (.iconst 0, 1) := by decide +kernel
theorem dX6_compare_82 : decode cX6_compare 82 = .ok (.ireturn, 1) := by decide +kernel
theorem dX6_compare_83 : decode cX6_compare 83 = .ok (.iload_n 2, 1) := by decide +kernel
theorem dX6_compare_84 : decode cX6_compare 84 = .ok (.iload_n 3, 1) := by decide +kernel
theorem dX6_compare_85 : decode cX6_compare 85 = .ok (.if_icmp .eq 7, 3) := by decide +kernel
theorem dX6_compare_88 : decode cX6_compare 88 = .ok (.iconst 1, 1) := by decide +kernel
theorem dX6_compare_89 : decode cX6_compare 89 = .ok (.goto 4, 3) := by decide +kernel
theorem dX6_compare_92 : decode cX6_compare 92 = .ok (.iconst 0, 1) := by decide +kernel
theorem dX6_compare_93 : decode cX6_compare 93 = .ok (.ireturn, 1) := by decide +kernel
theorem dX6_compare_94 : decode cX6_compare 94 = .ok (.iload_n 2, 1) := by decide +kernel
theorem dX6_compare_95 : decode cX6_compare 95 = .ok (.iload_n 3, 1) := by decide +kernel
theorem dX6_compare_96 : decode cX6_compare 96 = .ok (.if_icmp .ge 7, 3) := by decide +kernel
theorem dX6_compare_99 : decode cX6_compare 99 = .ok (.iconst 1, 1) := by decide +kernel
theorem dX6_compare_100 : decode cX6_compare 100 = .ok (.goto 4, 3) := by decide +kernel
theorem dX6_compare_103 : decode cX6_compare 103 = .ok (.iconst 0, 1) := by decide +kernel
theorem dX6_compare_104 : decode cX6_compare 104 = .ok (.ireturn, 1) := by decide +kernel
theorem dX6_numberOf_0 : decode cX6_numberOf 0 = .ok (.iconst 0, 1) := by decide +kernel
theorem dX6_numberOf_1 : decode cX6_numberOf 1 = .ok (.istore_n 2, 1) := by decide +kernel
theorem dX6_numberOf_2 : decode cX6_numberOf 2 = .ok (.iconst 0, 1) := by decide +kernel
theorem dX6_numberOf_3 : decode cX6_numberOf 3 = .ok (.istore_n 3, 1) := by decide +kernel
theorem dX6_numberOf_4 : decode cX6_numberOf 4 = .ok (.iload_n 3, 1) := by decide +kernel
theorem dX6_numberOf_5 : decode cX6_numberOf 5 = .ok (.aload_n 0, 1) := by decide +kernel
theorem dX6_numberOf_6 : decode cX6_numberOf 6 = .ok (.getfield 38, 3) := by decide +kernel
theorem dX6_numberOf_9 : decode cX6_numberOf 9 = .ok (.getfield 95, 3) := by decide +kernel
theorem dX6_numberOf_12 : decode cX6_numberOf 12 = .ok (.iload_n 1, 1) := by decide +kernel
theorem dX6_numberOf_13 : decode cX6_numberOf 13 = .ok (.iaload, 1) := by decide +kernel
theorem dX6_numberOf_14 : decode cX6_numberOf 14 = .ok (.if_icmp .ge 33, 3) := by decide +kernel
theorem dX6_numberOf_17 : decode cX6_numberOf 17 = .ok (.iload_n 2, 1) := by decide +kernel
theorem dX6_numberOf_18 : decode cX6_numberOf 18 = .ok (.bipush 12, 2) := by decide +kernel
theorem dX6_numberOf_20 : decode cX6_numberOf 20 = .ok (.imul, 1) := by decide +kernel
theorem dX6_numberOf_21 : decode cX6_numberOf 21 = .ok (.aload_n 0, 1) := by decide +kernel
theorem dX6_numberOf_22 : decode cX6_numberOf 22 = .ok (.getfield 9, 3) := by decide +kernel
theorem dX6_numberOf_25 : decode cX6_numberOf 25 = .ok (.aload_n 0, 1) := by decide +kernel
theorem dX6_numberOf_26 : decode cX6_numberOf 26 = .ok (.getfield 38, 3) := by decide +kernel
theorem dX6_numberOf_29 : decode cX6_numberOf 29 = .ok (.getfield 98, 3) := by decide +kernel
theorem dX6_numberOf_32 : decode cX6_numberOf 32 = .ok (.iload_n 1, 1) := by decide +kernel
theorem dX6_numberOf_33 : decode cX6_numberOf 33 = .ok (.iconst 3, 1) := by decide +kernel
theorem dX6_numberOf_34 : decode cX6_numberOf 34 = .ok (.imul, 1) := by decide +kernel
theorem dX6_numberOf_35 : decode cX6_numberOf 35 = .ok (.iload_n 3, 1) := by decide +kernel
theorem dX6_numberOf_36 : decode cX6_numberOf 36 = .ok (.iadd, 1) := by decide +kernel
theorem dX6_numberOf_37 : decode cX6_numberOf 37 = .ok (.iaload, 1) := by decide +kernel
theorem dX6_numberOf_38 : decode cX6_numberOf 38 = .ok (.iaload, 1) := by decide +kernel
theorem dX6_numberOf_39 : decode cX6_numberOf 39 = .ok (.iadd, 1) := by decide +kernel
theorem dX6_numberOf_40 : decode cX6_numberOf 40 = .ok (.istore_n 2, 1) := by decide +kernel
theorem dX6_numberOf_41 : decode cX6_numberOf 41 = .ok (.iinc 3 1, 3) := by decide +kernel
theorem dX6_numberOf_44 : decode cX6_numberOf 44 = .ok (.goto (-40), 3) := by decide +kernel
theorem dX6_numberOf_47 : decode cX6_numberOf 47 = .ok (.iload_n 2, 1) := by decide +kernel
theorem dX6_numberOf_48 : decode cX6_numberOf 48 = .ok (.ireturn, 1) := by decide +kernel
theorem dX6_takeSolution_0 : decode cX6_takeSolution 0 = .ok (.aload_n 0, 1) := by decide +kernel
theorem dX6_takeSolution_1 : decode cX6_takeSolution 1 = .ok (.getfield 31, 3) := by decide +kernel
theorem dX6_takeSolution_4 : decode cX6_takeSolution 4 = .ok (.ifCond .eq 16, 3) := by decide +kernel
theorem dX6_takeSolution_7 : decode cX6_takeSolution 7 = .ok (.aload_n 0, 1) := by decide +kernel
theorem dX6_takeSolution_8 : decode cX6_takeSolution 8 = .ok (.dup, 1) := by decide +kernel
theorem dX6_takeSolution_9 : decode cX6_takeSolution 9 = .ok (.getfield 35, 3) := by decide +kernel
theorem dX6_takeSolution_12 : decode cX6_takeSolution 12 = .ok (.iconst 1, 1) := by decide +kernel
theorem dX6_takeSolution_13 : decode cX6_takeSolution 13 = .ok (.iadd, 1) := by decide +kernel
theorem dX6_takeSolution_14 : decode cX6_takeSolution 14 = .ok (.putfield 35, 3) := by decide +kernel
theorem dX6_takeSolution_17 : decode cX6_takeSolution 17 = .ok (.goto 46, 3) := by decide +kernel
theorem dX6_takeSolution_20 : decode cX6_takeSolution 20 = .ok (.aload_n 0, 1) := by decide +kernel
theorem dX6_takeSolution_21 : decode cX6_takeSolution 21 = .ok (.getfield 42, 3) := by decide +kernel
theorem dX6_takeSolution_24 : decode cX6_takeSolution 24 = .ok (.aload_n 0, 1) := by decide +kernel
theorem dX6_takeSolution_25 : decode cX6_takeSolution 25 = .ok (.getfield 38, 3) := by decide +kernel
theorem dX6_takeSolution_28 : decode cX6_takeSolution 28 = .ok (.getfield 87, 3) := by decide +kernel
theorem dX6_takeSolution_31 : decode cX6_takeSolution 31 = .ok (.aload_n 0, 1) := by decide +kernel
theorem dX6_takeSolution_32 : decode cX6_takeSolution 32 = .ok (.getfield 22, 3) := by decide +kernel
theorem dX6_takeSolution_35 : decode cX6_takeSolution 35 = .ok (.iaload, 1) := by decide +kernel
theorem dX6_takeSolution_36 : decode cX6_takeSolution 36 = .ok (.iload_n 1, 1) := by decide +kernel
theorem dX6_takeSolution_37 : decode cX6_takeSolution 37 = .ok (.invokevirtual 126, 3) := by decide +kernel
theorem dX6_takeSolution_40 : decode cX6_takeSolution 40 = .ok (.ifCond .ne 23, 3) := by decide +kernel
theorem dX6_takeSolution_43 : decode cX6_takeSolution 43 = .ok (.aload_n 0, 1) := by decide +kernel
theorem dX6_takeSolution_44 : decode cX6_takeSolution 44 = .ok (.getfield 46, 3) := by decide +kernel
theorem dX6_takeSolution_47 : decode cX6_takeSolution 47 = .ok (.aload_n 0, 1) := by decide +kernel
theorem dX6_takeSolution_48 : decode cX6_takeSolution 48 = .ok (.getfield 38, 3) := by decide +kernel
theorem dX6_takeSolution_51 : decode cX6_takeSolution 51 = .ok (.getfield 87, 3) := by decide +kernel
theorem dX6_takeSolution_54 : decode cX6_takeSolution 54 = .ok (.aload_n 0, 1) := by decide +kernel
theorem dX6_takeSolution_55 : decode cX6_takeSolution 55 = .ok (.getfield 22, 3) := by decide +kernel
theorem dX6_takeSolution_58 : decode cX6_takeSolution 58 = .ok (.iaload, 1) := by decide +kernel
theorem dX6_takeSolution_59 : decode cX6_takeSolution 59 = .ok (.iload_n 1, 1) := by decide +kernel
theorem dX6_takeSolution_60 : decode cX6_takeSolution 60 = .ok (.invokevirtual 133, 3) := by decide +kernel
theorem dX6_takeSolution_63 : decode cX6_takeSolution 63 = .ok (.return_, 1) := by decide +kernel
