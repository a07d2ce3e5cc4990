theorem dX5_init_0 : decode cX5_init 0 = .ok (.aload_n 0, 1) := by decide +kernel
theorem dX5_init_1 : decode cX5_init 1 = .ok (.invokespecial 3, 3) := by decide +kernel
theorem dX5_init_4 : decode cX5_init 4 = .ok (.aload_n 0, 1) := by decide +kernel
theorem dX5_init_5 : decode cX5_init 5 = .ok (.iconst 0, 1) := by decide +kernel
theorem dX5_init_6 : decode cX5_init 6 = .ok (.putfield 9, 3) := by decide +kernel
theorem dX5_init_9 : decode cX5_init 9 = .ok (.aload_n 0, 1) := by decide +kernel
theorem dX5_init_10 : decode cX5_init 10 = .ok (.iconst (-1), 1) := by decide +kernel
theorem dX5_init_11 : decode cX5_init 11 = .ok (.putfield 15, 3) := by decide +kernel
theorem dX5_init_14 : decode cX5_init 14 = .ok (.aload_n 0, 1) := by decide +kernel
theorem dX5_init_15 : decode cX5_init 15 = .ok (.aload_n 1, 1) := by decide +kernel
theorem dX5_init_16 : decode cX5_init 16 = .ok (.putfield 18, 3) := by decide +kernel
theorem dX5_init_19 : decode cX5_init 19 = .ok (.aload_n 0, 1) := by decide +kernel
theorem dX5_init_20 : decode cX5_init 20 = .ok (.aload_n 2, 1) := by decide +kernel
theorem dX5_init_21 : decode cX5_init 21 = .ok (.putfield 22, 3) := by decide +kernel
theorem dX5_init_24 : decode cX5_init 24 = .ok (.return_, 1) := by decide +kernel
theorem dX5_read_0 : decode cX5_read 0 = .ok (.aload_n 0, 1) := by decide +kernel
theorem dX5_read_1 : decode cX5_read 1 = .ok (.aload_n 1, 1) := by decide +kernel
theorem dX5_read_2 : decode cX5_read 2 = .ok (.putfield 22, 3) := by decide +kernel
theorem dX5_read_5 : decode cX5_read 5 = .ok (.aload_n 0, 1) := by decide +kernel
theorem dX5_read_6 : decode cX5_read 6 = .ok (.getfield 22, 3) := by decide +kernel
theorem dX5_read_9 : decode cX5_read 9 = .ok (.invokevirtual 26, 3) := by decide +kernel
theorem dX5_read_12 : decode cX5_read 12 = .ok (.aload_n 0, 1) := by decide +kernel
theorem dX5_read_13 : decode cX5_read 13 = .ok (.iconst 0, 1) := by decide +kernel
theorem dX5_read_14 : decode cX5_read 14 = .ok (.putfield 9, 3) := by decide +kernel
theorem dX5_read_17 : decode cX5_read 17 = .ok (.aload_n 0, 1) := by decide +kernel
theorem dX5_read_18 : decode cX5_read 18 = .ok (.iconst (-1), 1) := by decide +kernel
theorem dX5_read_19 : decode cX5_read 19 = .ok (.putfield 15, 3) := by decide +kernel
theorem dX5_read_22 : decode cX5_read 22 = .ok (.iconst 0, 1) := by decide +kernel
theorem dX5_read_23 : decode cX5_read 23 = .ok (.istore_n 2, 1) := by decide +kernel
theorem dX5_read_24 : decode cX5_read 24 = .ok (.iload_n 2, 1) := by decide +kernel
theorem dX5_read_25 : decode cX5_read 25 = .ok (.sipush 480, 3) := by decide +kernel
theorem dX5_read_28 : decode cX5_read 28 = .ok (.if_icmp .ge 29, 3) := by decide +kernel
theorem dX5_read_31 : decode cX5_read 31 = .ok (.aload_n 0, 1) := by decide +kernel
theorem dX5_read_32 : decode cX5_read 32 = .ok (.getfield 15, 3) := by decide +kernel
theorem dX5_read_35 : decode cX5_read 35 = .ok (.iconst (-1), 1) := by decide +kernel
theorem dX5_read_36 : decode cX5_read 36 = .ok (.if_icmp .ne 21, 3) := by decide +kernel
theorem dX5_read_39 : decode cX5_read 39 = .ok (.aload_n 0, 1) := by decide +kernel
theorem dX5_read_40 : decode cX5_read 40 = .ok (.invokevirtual 33, 3) := by decide +kernel
theorem dX5_read_43 : decode cX5_read 43 = .ok (.iconst (-1), 1) := by decide +kernel
theorem dX5_read_44 : decode cX5_read 44 = .ok (.if_icmp .eq 13, 3) := by decide +kernel
theorem dX5_read_47 : decode cX5_read 47 = .ok (.aload_n 0, 1) := by decide +kernel
theorem dX5_read_48 : decode cX5_read 48 = .ok (.invokevirtual 37, 3) := by decide +kernel
theorem dX5_read_51 : decode cX5_read 51 = .ok (.iinc 2 1, 3) := by decide +kernel
theorem dX5_read_54 : decode cX5_read 54 = .ok (.goto (-30), 3) := by decide +kernel
theorem dX5_read_57 : decode cX5_read 57 = .ok (.aload_n 0, 1) := by decide +kernel
theorem dX5_read_58 : decode cX5_read 58 = .ok (.getfield 15, 3) := by decide +kernel
theorem dX5_read_61 : decode cX5_read 61 = .ok (.ireturn, 1) := by decide +kernel
theorem dX5_readRule_0 : decode cX5_readRule 0 = .ok (.aload_n 0, 1) := by decide +kernel
theorem dX5_readRule_1 : decode cX5_readRule 1 = .ok (.iconst 0, 1) := by decide +kernel
theorem dX5_readRule_2 : decode cX5_readRule 2 = .ok (.invokevirtual 40, 3) := by decide +kernel
theorem dX5_readRule_5 : decode cX5_readRule 5 = .ok (.ifCond .eq 12, 3) := by decide +kernel
theorem dX5_readRule_8 : decode cX5_readRule 8 = .ok (.aload_n 0, 1) := by decide +kernel
theorem dX5_readRule_9 : decode cX5_readRule 9 = .ok (.bipush 46, 2) := by decide +kernel
theorem dX5_readRule_11 : decode cX5_readRule 11 = .ok (.invokevirtual 44, 3) := by decide +kernel
theorem dX5_readRule_14 : decode cX5_readRule 14 = .ok (.ifCond .eq 4, 3) := by decide +kernel
theorem dX5_readRule_17 : decode cX5_readRule 17 = .ok (.return_, 1) := by decide +kernel
theorem dX5_readRule_18 : decode cX5_readRule 18 = .ok (.aload_n 0, 1) := by decide +kernel
theorem dX5_readRule_19 : decode cX5_readRule 19 = .ok (.bipush 58, 2) := by decide +kernel
theorem dX5_readRule_21 : decode cX5_readRule 21 = .ok (.invokevirtual 44, 3) := by decide +kernel
theorem dX5_readRule_24 : decode cX5_readRule 24 = .ok (.ifCond .eq 19, 3) := by decide +kernel
theorem dX5_readRule_27 : decode cX5_readRule 27 = .ok (.aload_n 0, 1) := by decide +kernel
theorem dX5_readRule_28 : decode cX5_readRule 28 = .ok (.getfield 18, 3) := by decide +kernel
theorem dX5_readRule_31 : decode cX5_readRule 31 = .ok (.aload_n 0, 1) := by decide +kernel
theorem dX5_readRule_32 : decode cX5_readRule 32 = .ok (.getfield 9, 3) := by decide +kernel
theorem dX5_readRule_35 : decode cX5_readRule 35 = .ok (.invokevirtual 47, 3) := by decide +kernel
theorem dX5_readRule_38 : decode cX5_readRule 38 = .ok (.bipush 45, 2) := by decide +kernel
theorem dX5_readRule_40 : decode cX5_readRule 40 = .ok (.if_icmp .eq 13, 3) := by decide +kernel
theorem dX5_readRule_43 : decode cX5_readRule 43 = .ok (.aload_n 0, 1) := by decide +kernel
theorem dX5_readRule_44 : decode cX5_readRule 44 = .ok (.aload_n 0, 1) := by decide +kernel
theorem dX5_readRule_45 : decode cX5_readRule 45 = .ok (.getfield 9, 3) := by decide +kernel
theorem dX5_readRule_48 : decode cX5_readRule 48 = .ok (.invokevirtual 50, 3) := by decide +kernel
theorem dX5_readRule_51 : decode cX5_readRule 51 = .ok (.pop, 1) := by decide +kernel
theorem dX5_readRule_52 : decode cX5_readRule 52 = .ok (.return_, 1) := by decide +kernel
theorem dX5_readRule_53 : decode cX5_readRule 53 = .ok (.aload_n 0, 1) := by decide +kernel
theorem dX5_readRule_54 : decode cX5_readRule 54 = .ok (.dup, 1) := by decide +kernel
theorem dX5_readRule_55 : decode cX5_readRule 55 = .ok (.getfield 9, 3) := by decide +kernel
theorem dX5_readRule_58 : decode cX5_readRule 58 = .ok (.iconst 1, 1) := by decide +kernel
theorem dX5_readRule_59 : decode cX5_readRule 59 = .ok (.iadd, 1) := by decide +kernel
theorem dX5_readRule_60 : decode cX5_readRule 60 = .ok (.putfield 9, 3) := by decide +kernel
theorem dX5_readRule_63 : decode cX5_readRule 63 = .ok (.iconst 1, 1) := by decide +kernel
theorem dX5_readRule_64 : decode cX5_readRule 64 = .ok (.istore_n 1, 1) := by decide +kernel
theorem dX5_readRule_65 : decode cX5_readRule 65 = .ok (.iconst 0, 1) := by decide +kernel
theorem dX5_readRule_66 : decode cX5_readRule 66 = .ok (.istore_n 2, 1) := by decide +kernel
theorem dX5_readRule_67 : decode cX5_readRule 67 = .ok (.iload_n 2, 1) := by decide +kernel
theorem dX5_readRule_68 : decode cX5_readRule 68 = .ok (.sipush 480, 3) := by decide +kernel
theorem dX5_readRule_71 : decode cX5_readRule 71 = .ok (.if_icmp .ge 49, 3) := by decide +kernel
theorem dX5_readRule_74 : decode cX5_readRule 74 = .ok (.iload_n 1, 1) := by decide +kernel
theorem dX5_readRule_75 : decode cX5_readRule 75 = .ok (.ifCond .eq 45, 3) := by decide +kernel
theorem dX5_readRule_78 : decode cX5_readRule 78 = .ok (.aload_n 0, 1) := by decide +kernel
theorem dX5_readRule_79 : decode cX5_readRule 79 = .ok (.invokevirtual 53, 3) := by decide +kernel
theorem dX5_readRule_82 : decode cX5_readRule 82 = .ok (.ifCond .eq 38, 3) := by decide +kernel
theorem dX5_readRule_85 : decode cX5_readRule 85 = .ok (.aload_n 0, 1) := by decide +kernel
theorem dX5_readRule_86 : decode cX5_readRule 86 = .ok (.bipush 44, 2) := by decide +kernel
theorem dX5_readRule_88 : decode cX5_readRule 88 = .ok (.invokevirtual 44, 3) := by decide +kernel
theorem dX5_readRule_91 : decode cX5_readRule 91 = .ok (.istore_n 1, 1) := by decide +kernel
theorem dX5_readRule_92 : decode cX5_readRule 92 = .ok (.iload_n 1, 1) := by decide +kernel
theorem dX5_readRule_93 : decode cX5_readRule 93 = .ok (.ifCond .ne 21, 3) := by decide +kernel
theorem dX5_readRule_96 : decode cX5_readRule 96 = .ok (.aload_n 0, 1) := by decide +kernel
theorem dX5_readRule_97 : decode cX5_readRule 97 = .ok (.bipush 46, 2) := by decide +kernel
theorem dX5_readRule_99 : decode cX5_readRule 99 = .ok (.invokevirtual 44, 3) := by decide +kernel
theorem dX5_readRule_102 : decode cX5_readRule 102 = .ok (.ifCond .ne 12, 3) := by decide +kernel
theorem dX5_readRule_105 : decode cX5_readRule 105 = .ok (.aload_n 0, 1) := by decide +kernel
theorem dX5_readRule_106 : decode cX5_readRule 106 = .ok (.aload_n 0, 1) := by decide +kernel
theorem dX5_readRule_107 : decode cX5_readRule 107 = .ok (.getfield 9, 3) := by decide +kernel
theorem dX5_readRule_110 : decode cX5_readRule 110 = .ok (.invokevirtual 50, 3) := by decide +kernel
theorem dX5_readRule_113 : decode cX5_readRule 113 = .ok (.pop, 1) := by decide +kernel
theorem dX5_readRule_114 : decode cX5_readRule 114 = .ok (.iinc 2 1, 3) := by decide +kernel
theorem dX5_readRule_117 : decode cX5_readRule 117 = .ok (.goto (-50), 3) := by decide +kernel
theorem dX5_readRule_120 : decode cX5_readRule 120 = .ok (.return_, 1) := by decide +kernel
theorem dX5_readPart_0 : decode cX5_readPart 0 = .ok (.aload_n 0, 1) := by decide +kernel
theorem dX5_readPart_1 : decode cX5_readPart 1 = .ok (.bipush 33, 2) := by decide +kernel
theorem dX5_readPart_3 : decode cX5_readPart 3 = .ok (.invokevirtual 44, 3) := by decide +kernel
theorem dX5_readPart_6 : decode cX5_readPart 6 = .ok (.ifCond .eq 9, 3) := by decide +kernel
theorem dX5_readPart_9 : decode cX5_readPart 9 = .ok (.aload_n 0, 1) := by decide +kernel
theorem dX5_readPart_10 : decode cX5_readPart 10 = .ok (.iconst 2, 1) := by decide +kernel
theorem dX5_readPart_11 : decode cX5_readPart 11 = .ok (.invokevirtual 40, 3) := by decide +kernel
theorem dX5_readPart_14 : decode cX5_readPart 14 = .ok (.ireturn, 1) := by decide +kernel
theorem dX5_readPart_15 : decode cX5_readPart 15 = .ok (.aload_n 0, 1) := by decide +kernel
theorem dX5_readPart_16 : decode cX5_readPart 16 = .ok (.invokevirtual 33, 3) := by decide +kernel
theorem dX5_readPart_19 : decode cX5_readPart 19 = .ok (.istore_n 1, 1) := by decide +kernel
theorem dX5_readPart_20 : decode cX5_readPart 20 = .ok (.iload_n 1, 1) := by decide +kernel
theorem dX5_readPart_21 : decode cX5_readPart 21 = .ok (.bipush 97, 2) := by decide +kernel
theorem dX5_readPart_23 : decode cX5_readPart 23 = .ok (.if_icmp .lt 17, 3) := by decide +kernel
theorem dX5_readPart_26 : decode cX5_readPart 26 = .ok (.iload_n 1, 1) := by decide +kernel
theorem dX5_readPart_27 : decode cX5_readPart 27 = .ok (.bipush 122, 2) := by decide +kernel
theorem dX5_readPart_29 : decode cX5_readPart 29 = .ok (.if_icmp .gt 11, 3) := by decide +kernel
theorem dX5_readPart_32 : decode cX5_readPart 32 = .ok (.aload_n 0, 1) := by decide +kernel
theorem dX5_readPart_33 : decode cX5_readPart 33 = .ok (.iconst 1, 1) := by decide +kernel
theorem dX5_readPart_34 : decode cX5_readPart 34 = .ok (.invokevirtual 40, 3) := by decide +kernel
theorem dX5_readPart_37 : decode cX5_readPart 37 = .ok (.goto 7, 3) := by decide +kernel
theorem dX5_readPart_40 : decode cX5_readPart 40 = .ok (.aload_n 0, 1) := by decide +kernel
theorem dX5_readPart_41 : decode cX5_readPart 41 = .ok (.invokevirtual 57, 3) := by decide +kernel
theorem dX5_readPart_44 : decode cX5_readPart 44 = .ok (.ireturn, 1) := by decide +kernel
theorem dX5_readAtom_0 : decode cX5_readAtom 0 = .ok (.aload_n 0, 1) := by decide +kernel
theorem dX5_readAtom_1 : decode cX5_readAtom 1 = .ok (.invokevirtual 33, 3) := by decide +kernel
theorem dX5_readAtom_4 : decode cX5_readAtom 4 = .ok (.istore_n 2, 1) := by decide +kernel
theorem dX5_readAtom_5 : decode cX5_readAtom 5 = .ok (.iload_n 2, 1) := by decide +kernel
theorem dX5_readAtom_6 : decode cX5_readAtom 6 = .ok (.bipush 97, 2) := by decide +kernel
theorem dX5_readAtom_8 : decode cX5_readAtom 8 = .ok (.if_icmp .lt 9, 3) := by decide +kernel
theorem dX5_readAtom_11 : decode cX5_readAtom 11 = .ok (.iload_n 2, 1) := by decide +kernel
theorem dX5_readAtom_12 : decode cX5_readAtom 12 = .ok (.bipush 107, 2) := by decide +kernel
theorem dX5_readAtom_14 : decode cX5_readAtom 14 = .ok (.if_icmp .lt 12, 3) := by decide +kernel
theorem dX5_readAtom_17 : decode cX5_readAtom 17 = .ok (.aload_n 0, 1) := by decide +kernel
theorem dX5_readAtom_18 : decode cX5_readAtom 18 = .ok (.aload_n 0, 1) := by decide +kernel
theorem dX5_readAtom_19 : decode cX5_readAtom 19 = .ok (.getfield 9, 3) := by decide +kernel
theorem dX5_readAtom_22 : decode cX5_readAtom 22 = .ok (.invokevirtual 50, 3) := by decide +kernel
theorem dX5_readAtom_25 : decode cX5_readAtom 25 = .ok (.ireturn, 1) := by decide +kernel
theorem dX5_readAtom_26 : decode cX5_readAtom 26 = .ok (.aload_n 0, 1) := by decide +kernel
theorem dX5_readAtom_27 : decode cX5_readAtom 27 = .ok (.getfield 22, 3) := by decide +kernel
theorem dX5_readAtom_30 : decode cX5_readAtom 30 = .ok (.iload_n 1, 1) := by decide +kernel
theorem dX5_readAtom_31 : decode cX5_readAtom 31 = .ok (.iload_n 2, 1) := by decide +kernel
theorem dX5_readAtom_32 : decode cX5_readAtom 32 = .ok (.bipush 97, 2) := by decide +kernel
theorem dX5_readAtom_34 : decode cX5_readAtom 34 = .ok (.isub, 1) := by decide +kernel
theorem dX5_readAtom_35 : decode cX5_readAtom 35 = .ok (.aload_n 0, 1) := by decide +kernel
theorem dX5_readAtom_36 : decode cX5_readAtom 36 = .ok (.getfield 9, 3) := by decide +kernel
theorem dX5_readAtom_39 : decode cX5_readAtom 39 = .ok (.invokevirtual 60, 3) := by decide +kernel
theorem dX5_readAtom_42 : decode cX5_readAtom 42 = .ok (.aload_n 0, 1) := by decide +kernel
theorem dX5_readAtom_43 : decode cX5_readAtom 43 = .ok (.dup, 1) := by decide +kernel
theorem dX5_readAtom_44 : decode cX5_readAtom 44 = .ok (.getfield 9, 3) := by decide +kernel
theorem dX5_readAtom_47 : decode cX5_readAtom 47 = .ok (.iconst 1, 1) := by decide +kernel
theorem dX5_readAtom_48 : decode cX5_readAtom 48 = .ok (.iadd, 1) := by decide +kernel
theorem dX5_readAtom_49 : decode cX5_readAtom 49 = .ok (.putfield 9, 3) := by decide +kernel
theorem dX5_readAtom_52 : decode cX5_readAtom 52 = .ok (.aload_n 0, 1) := by decide +kernel
theorem dX5_readAtom_53 : decode cX5_readAtom 53 = .ok (.bipush 40, 2) := by decide +kernel
theorem dX5_readAtom_55 : decode cX5_readAtom 55 = .ok (.invokevirtual 44, 3) := by decide +kernel
theorem dX5_readAtom_58 : decode cX5_readAtom 58 = .ok (.ifCond .ne 5, 3) := by decide +kernel
theorem dX5_readAtom_61 : decode cX5_readAtom 61 = .ok (.iconst 1, 1) := by decide +kernel
theorem dX5_readAtom_62 : decode cX5_readAtom 62 = .ok (.ireturn, 1) := by decide +kernel
theorem dX5_readAtom_63 : decode cX5_readAtom 63 = .ok (.iconst 1, 1) := by decide +kernel
theorem dX5_readAtom_64 : decode cX5_readAtom 64 = .ok (.istore_n 3, 1) := by decide +kernel
theorem dX5_readAtom_65 : decode cX5_readAtom 65 = .ok (.iload_n 3, 1) := by decide +kernel
theorem dX5_readAtom_66 : decode cX5_readAtom 66 = .ok (.iconst 3, 1) := by decide +kernel
theorem dX5_readAtom_67 : decode cX5_readAtom 67 = .ok (.if_icmp .gt 46, 3) := by decide +kernel
theorem dX5_readAtom_70 : decode cX5_readAtom 70 = .ok (.aload_n 0, 1) := by decide +kernel
theorem dX5_readAtom_71 : decode cX5_readAtom 71 = .ok (.invokevirtual 64, 3) := by decide +kernel
theorem dX5_readAtom_74 : decode cX5_readAtom 74 = .ok (.ifCond .ne 5, 3) := by decide +kernel
theorem dX5_readAtom_77 : decode cX5_readAtom 77 = .ok (.iconst 0, 1) := by decide +kernel
theorem dX5_readAtom_78 : decode cX5_readAtom 78 = .ok (.ireturn, 1) := by decide +kernel
theorem dX5_readAtom_79 : decode cX5_readAtom 79 = .ok (.aload_n 0, 1) := by decide +kernel
theorem dX5_readAtom_80 : decode cX5_readAtom 80 = .ok (.bipush 41, 2) := by decide +kernel
theorem dX5_readAtom_82 : decode cX5_readAtom 82 = .ok (.invokevirtual 44, 3) := by decide +kernel
theorem dX5_readAtom_85 : decode cX5_readAtom 85 = .ok (.ifCond .eq 5, 3) := by decide +kernel
theorem dX5_readAtom_88 : decode cX5_readAtom 88 = .ok (.iconst 1, 1) := by decide +kernel
theorem dX5_readAtom_89 : decode cX5_readAtom 89 = .ok (.ireturn, 1) := by decide +kernel
theorem dX5_readAtom_90 : decode cX5_readAtom 90 = .ok (.iload_n 3, 1) := by decide +kernel
theorem dX5_readAtom_91 : decode cX5_readAtom 91 = .ok (.iconst 3, 1) := by decide +kernel
theorem dX5_readAtom_92 : decode cX5_readAtom 92 = .ok (.if_icmp .eq 21, 3) := by decide +kernel
theorem dX5_readAtom_95 : decode cX5_readAtom 95 = .ok (.aload_n 0, 1) := by decide +kernel
theorem dX5_readAtom_96 : decode cX5_readAtom 96 = .ok (.bipush 44, 2) := by decide +kernel
theorem dX5_readAtom_98 : decode cX5_readAtom 98 = .ok (.invokevirtual 44, 3) := by decide +kernel
theorem dX5_readAtom_101 : decode cX5_readAtom 101 = .ok (.ifCond .ne 6, 3) := by decide +kernel
theorem dX5_readAtom_104 : decode cX5_readAtom 104 = .ok (.goto 9, 3) := by decide +kernel
theorem dX5_readAtom_107 : decode cX5_readAtom 107 = .ok (.iinc 3 1, 3) := by decide +kernel
theorem dX5_readAtom_110 : decode cX5_readAtom 110 = .ok (.goto (-45), 3) := by decide +kernel
theorem dX5_readAtom_113 : decode cX5_readAtom 113 = .ok (.aload_n 0, 1) := by decide +kernel
theorem dX5_readAtom_114 : decode cX5_readAtom 114 = .ok (.aload_n 0, 1) := by decide +kernel
theorem dX5_readAtom_115 : decode cX5_readAtom 115 = .ok (.getfield 9, 3) := by decide +kernel
theorem dX5_readAtom_118 : decode cX5_readAtom 118 = .ok (.invokevirtual 50, 3) := by decide +kernel
theorem dX5_readAtom_121 : decode cX5_readAtom 121 = .ok (.ireturn, 1) := by decide +kernel
theorem dX5_readComparison_0 : decode cX5_readComparison 0 = .ok (.aload_n 0, 1) := by decide +kernel
theorem dX5_readComparison_1 : decode cX5_readComparison 1 = .ok (.getfield 22, 3) := by decide +kernel
theorem dX5_readComparison_4 : decode cX5_readComparison 4 = .ok (.iconst 3, 1) := by decide +kernel
theorem dX5_readComparison_5 : decode cX5_readComparison 5 = .ok (.iconst (-1), 1) := by decide +kernel
theorem dX5_readComparison_6 : decode cX5_readComparison 6 = .ok (.aload_n 0, 1) := by decide +kernel
theorem dX5_readComparison_7 : decode cX5_readComparison 7 = .ok (.getfield 9, 3) := by decide +kernel
theorem dX5_readComparison_10 : decode cX5_readComparison 10 = .ok (.invokevirtual 60, 3) := by decide +kernel
theorem dX5_readComparison_13 : decode cX5_readComparison 13 = .ok (.aload_n 0, 1) := by decide +kernel
theorem dX5_readComparison_14 : decode cX5_readComparison 14 = .ok (.invokevirtual 64, 3) := by decide +kernel
theorem dX5_readComparison_17 : decode cX5_readComparison 17 = .ok (.ifCond .ne 5, 3) := by decide +kernel
theorem dX5_readComparison_20 : decode cX5_readComparison 20 = .ok (.iconst 0, 1) := by decide +kernel
theorem dX5_readComparison_21 : decode cX5_readComparison 21 = .ok (.ireturn, 1) := by decide +kernel
theorem dX5_readComparison_22 : decode cX5_readComparison 22 = .ok (.aload_n 0, 1) := by decide +kernel
theorem dX5_readComparison_23 : decode cX5_readComparison 23 = .ok (.bipush 35, 2) := by decide +kernel
theorem dX5_readComparison_25 : decode cX5_readComparison 25 = .ok (.invokevirtual 44, 3) := by decide +kernel
theorem dX5_readComparison_28 : decode cX5_readComparison 28 = .ok (.ifCond .eq 14, 3) := by decide +kernel
theorem dX5_readComparison_31 : decode cX5_readComparison 31 = .ok (.aload_n 0, 1) := by decide +kernel
theorem dX5_readComparison_32 : decode cX5_readComparison 32 = .ok (.getfield 22, 3) := by decide +kernel
theorem dX5_readComparison_35 : decode cX5_readComparison 35 = .ok (.iconst 4, 1) := by decide +kernel
theorem dX5_readComparison_36 : decode cX5_readComparison 36 = .ok (.invokevirtual 67, 3) := by decide +kernel
theorem dX5_readComparison_39 : decode cX5_readComparison 39 = .ok (.goto 41, 3) := by decide +kernel
theorem dX5_readComparison_42 : decode cX5_readComparison 42 = .ok (.aload_n 0, 1) := by decide +kernel
theorem dX5_readComparison_43 : decode cX5_readComparison 43 = .ok (.bipush 60, 2) := by decide +kernel
theorem dX5_readComparison_45 : decode cX5_readComparison 45 = .ok (.invokevirtual 44, 3) := by decide +kernel
theorem dX5_readComparison_48 : decode cX5_readComparison 48 = .ok (.ifCond .eq 14, 3) := by decide +kernel
theorem dX5_readComparison_51 : decode cX5_readComparison 51 = .ok (.aload_n 0, 1) := by decide +kernel
theorem dX5_readComparison_52 : decode cX5_readComparison 52 = .ok (.getfield 22, 3) := by decide +kernel
theorem dX5_readComparison_55 : decode cX5_readComparison 55 = .ok (.iconst 5, 1) := by decide +kernel
theorem dX5_readComparison_56 : decode cX5_readComparison 56 = .ok (.invokevirtual 67, 3) := by decide +kernel
theorem dX5_readComparison_59 : decode cX5_readComparison 59 = .ok (.goto 21, 3) := by decide +kernel
theorem dX5_readComparison_62 : decode cX5_readComparison 62 = .ok (.aload_n 0, 1) := by decide +kernel
theorem dX5_readComparison_63 : decode cX5_readComparison 63 = .ok (.bipush 61, 2) := by decide +kernel
theorem dX5_readComparison_65 : decode cX5_readComparison 65 = .ok (.invokevirtual 44, 3) := by decide +kernel
theorem dX5_readComparison_68 : decode cX5_readComparison 68 = .ok (.ifCond .ne 12, 3) := by decide +kernel
theorem dX5_readComparison_71 : decode cX5_readComparison 71 = .ok (.aload_n 0, 1) := by decide +kernel
theorem dX5_readComparison_72 : decode cX5_readComparison 72 = .ok (.aload_n 0, 1) := by decide +kernel
theorem dX5_readComparison_73 : decode cX5_readComparison 73 = .ok (.getfield 9, 3) := by decide +kernel
theorem dX5_readComparison_76 : decode cX5_readComparison 76 = .ok (.invokevirtual 50, 3) := by decide +kernel
theorem dX5_readComparison_79 : decode cX5_readComparison 79 = .ok (.ireturn, 1) := by decide +kernel
theorem dX5_readComparison_80 : decode cX5_readComparison 80 = .ok (.aload_n 0, 1) := by decide +kernel
theorem dX5_readComparison_81 : decode cX5_readComparison 81 = .ok (.invokevirtual 64, 3) := by decide +kernel
theorem dX5_readComparison_84 : decode cX5_readComparison 84 = .ok (.ireturn, 1) := by decide +kernel
theorem dX5_readTerm_0 : decode cX5_readTerm 0 = .ok (.aload_n 0, 1) := by decide +kernel
theorem dX5_readTerm_1 : decode cX5_readTerm 1 = .ok (.invokevirtual 33, 3) := by decide +kernel
theorem dX5_readTerm_4 : decode cX5_readTerm 4 = .ok (.istore_n 1, 1) := by decide +kernel
theorem dX5_readTerm_5 : decode cX5_readTerm 5 = .ok (.iload_n 1, 1) := by decide +kernel
theorem dX5_readTerm_6 : decode cX5_readTerm 6 = .ok (.bipush 65, 2) := by decide +kernel
theorem dX5_readTerm_8 : decode cX5_readTerm 8 = .ok (.if_icmp .lt 9, 3) := by decide +kernel
theorem dX5_readTerm_11 : decode cX5_readTerm 11 = .ok (.iload_n 1, 1) := by decide +kernel
theorem dX5_readTerm_12 : decode cX5_readTerm 12 = .ok (.bipush 90, 2) := by decide +kernel
theorem dX5_readTerm_14 : decode cX5_readTerm 14 = .ok (.if_icmp .le 8, 3) := by decide +kernel
theorem dX5_readTerm_17 : decode cX5_readTerm 17 = .ok (.aload_n 0, 1) := by decide +kernel
theorem dX5_readTerm_18 : decode cX5_readTerm 18 = .ok (.invokevirtual 71, 3) := by decide +kernel
theorem dX5_readTerm_21 : decode cX5_readTerm 21 = .ok (.ireturn, 1) := by decide +kernel
theorem dX5_readTerm_22 : decode cX5_readTerm 22 = .ok (.aload_n 0, 1) := by decide +kernel
theorem dX5_readTerm_23 : decode cX5_readTerm 23 = .ok (.getfield 22, 3) := by decide +kernel
theorem dX5_readTerm_26 : decode cX5_readTerm 26 = .ok (.bipush 12, 2) := by decide +kernel
theorem dX5_readTerm_28 : decode cX5_readTerm 28 = .ok (.iload_n 1, 1) := by decide +kernel
theorem dX5_readTerm_29 : decode cX5_readTerm 29 = .ok (.iadd, 1) := by decide +kernel
theorem dX5_readTerm_30 : decode cX5_readTerm 30 = .ok (.bipush 65, 2) := by decide +kernel
theorem dX5_readTerm_32 : decode cX5_readTerm 32 = .ok (.isub, 1) := by decide +kernel
theorem dX5_readTerm_33 : decode cX5_readTerm 33 = .ok (.invokevirtual 74, 3) := by decide +kernel
theorem dX5_readTerm_36 : decode cX5_readTerm 36 = .ok (.aload_n 0, 1) := by decide +kernel
theorem dX5_readTerm_37 : decode cX5_readTerm 37 = .ok (.dup, 1) := by decide +kernel
theorem dX5_readTerm_38 : decode cX5_readTerm 38 = .ok (.getfield 9, 3) := by decide +kernel
theorem dX5_readTerm_41 : decode cX5_readTerm 41 = .ok (.iconst 1, 1) := by decide +kernel
theorem dX5_readTerm_42 : decode cX5_readTerm 42 = .ok (.iadd, 1) := by decide +kernel
theorem dX5_readTerm_43 : decode cX5_readTerm 43 = .ok (.putfield 9, 3) := by decide +kernel
theorem dX5_readTerm_46 : decode cX5_readTerm 46 = .ok (.iconst 1, 1) := by decide +kernel
theorem dX5_readTerm_47 : decode cX5_readTerm 47 = .ok (.ireturn, 1) := by decide +kernel
theorem dX5_readNumber_0 : decode cX5_readNumber 0 = .ok (.aload_n 0, 1) := by decide +kernel
theorem dX5_readNumber_1 : decode cX5_readNumber 1 = .ok (.getfield 9, 3) := by decide +kernel
theorem dX5_readNumber_4 : decode cX5_readNumber 4 = .ok (.istore_n 1, 1) := by decide +kernel
theorem dX5_readNumber_5 : decode cX5_readNumber 5 = .ok (.iconst 0, 1) := by decide +kernel
theorem dX5_readNumber_6 : decode cX5_readNumber 6 = .ok (.istore_n 2, 1) := by decide +kernel
theorem dX5_readNumber_7 : decode cX5_readNumber 7 = .ok (.aload_n 0, 1) := by decide +kernel
theorem dX5_readNumber_8 : decode cX5_readNumber 8 = .ok (.getfield 18, 3) := by decide +kernel
theorem dX5_readNumber_11 : decode cX5_readNumber 11 = .ok (.aload_n 0, 1) := by decide +kernel
theorem dX5_readNumber_12 : decode cX5_readNumber 12 = .ok (.getfield 9, 3) := by decide +kernel
theorem dX5_readNumber_15 : decode cX5_readNumber 15 = .ok (.invokevirtual 47, 3) := by decide +kernel
theorem dX5_readNumber_18 : decode cX5_readNumber 18 = .ok (.istore_n 3, 1) := by decide +kernel
theorem dX5_readNumber_19 : decode cX5_readNumber 19 = .ok (.iload_n 3, 1) := by decide +kernel
theorem dX5_readNumber_20 : decode cX5_readNumber 20 = .ok (.bipush 48, 2) := by decide +kernel
theorem dX5_readNumber_22 : decode cX5_readNumber 22 = .ok (.if_icmp .lt 59, 3) := by decide +kernel
theorem dX5_readNumber_25 : decode cX5_readNumber 25 = .ok (.iload_n 3, 1) := by decide +kernel
theorem dX5_readNumber_26 : decode cX5_readNumber 26 = .ok (.bipush 57, 2) := by decide +kernel
theorem dX5_readNumber_28 : decode cX5_readNumber 28 = .ok (.if_icmp .gt 53, 3) := by decide +kernel
theorem dX5_readNumber_31 : decode cX5_readNumber 31 = .ok (.aload_n 0, 1) := by decide +kernel
theorem dX5_readNumber_32 : decode cX5_readNumber 32 = .ok (.getfield 9, 3) := by decide +kernel
theorem dX5_readNumber_35 : decode cX5_readNumber 35 = .ok (.sipush 480, 3) := by decide +kernel
theorem dX5_readNumber_38 : decode cX5_readNumber 38 = .ok (.if_icmp .ge 43, 3) := by decide +kernel
theorem dX5_readNumber_41 : decode cX5_readNumber 41 = .ok (.iload_n 2, 1) := by decide +kernel
theorem dX5_readNumber_42 : decode cX5_readNumber 42 = .ok (.bipush 10, 2) := by decide +kernel
theorem dX5_readNumber_44 : decode cX5_readNumber 44 = .ok (.imul, 1) := by decide +kernel
theorem dX5_readNumber_45 : decode cX5_readNumber 45 = .ok (.iload_n 3, 1) := by decide +kernel
theorem dX5_readNumber_46 : decode cX5_readNumber 46 = .ok (.iadd, 1) := by decide +kernel
theorem dX5_readNumber_47 : decode cX5_readNumber 47 = .ok (.bipush 48, 2) := by decide +kernel
theorem dX5_readNumber_49 : decode cX5_readNumber 49 = .ok (.isub, 1) := by decide +kernel
theorem dX5_readNumber_50 : decode cX5_readNumber 50 = .ok (.bipush 12, 2) := by decide +kernel
theorem dX5_readNumber_52 : decode cX5_readNumber 52 = .ok (.invokestatic 77, 3) := by decide +kernel
theorem dX5_readNumber_55 : decode cX5_readNumber 55 = .ok (.istore_n 2, 1) := by decide +kernel
theorem dX5_readNumber_56 : decode cX5_readNumber 56 = .ok (.aload_n 0, 1) := by decide +kernel
theorem dX5_readNumber_57 : decode cX5_readNumber 57 = .ok (.dup, 1) := by decide +kernel
theorem dX5_readNumber_58 : decode cX5_readNumber 58 = .ok (.getfield 9, 3) := by decide +kernel
theorem dX5_readNumber_61 : decode cX5_readNumber 61 = .ok (.iconst 1, 1) := by decide +kernel
theorem dX5_readNumber_62 : decode cX5_readNumber 62 = .ok (.iadd, 1) := by decide +kernel
theorem dX5_readNumber_63 : decode cX5_readNumber 63 = .ok (.putfield 9, 3) := by decide +kernel
theorem dX5_readNumber_66 : decode cX5_readNumber 66 = .ok (.aload_n 0, 1) := by decide +kernel
theorem dX5_readNumber_67 : decode cX5_readNumber 67 = .ok (.getfield 18, 3) := by decide +kernel
theorem dX5_readNumber_70 : decode cX5_readNumber 70 = .ok (.aload_n 0, 1) := by decide +kernel
theorem dX5_readNumber_71 : decode cX5_readNumber 71 = .ok (.getfield 9, 3) := by decide +kernel
theorem dX5_readNumber_74 : decode cX5_readNumber 74 = .ok (.invokevirtual 47, 3) := by decide +kernel
theorem dX5_readNumber_77 : decode cX5_readNumber 77 = .ok (.istore_n 3, 1) := by decide +kernel
theorem dX5_readNumber_78 : decode cX5_readNumber 78 = .ok (.goto (-59), 3) := by decide +kernel
theorem dX5_readNumber_81 : decode cX5_readNumber 81 = .ok (.aload_n 0, 1) := by decide +kernel
theorem dX5_readNumber_82 : decode cX5_readNumber 82 = .ok (.getfield 9, 3) := by decide +kernel
theorem dX5_readNumber_85 : decode cX5_readNumber 85 = .ok (.iload_n 1, 1) := by decide +kernel
theorem dX5_readNumber_86 : decode cX5_readNumber 86 = .ok (.iconst 1, 1) := by decide +kernel
theorem dX5_readNumber_87 : decode cX5_readNumber 87 = .ok (.iadd, 1) := by decide +kernel
theorem dX5_readNumber_88 : decode cX5_readNumber 88 = .ok (.if_icmp .le 20, 3) := by decide +kernel
theorem dX5_readNumber_91 : decode cX5_readNumber 91 = .ok (.aload_n 0, 1) := by decide +kernel
theorem dX5_readNumber_92 : decode cX5_readNumber 92 = .ok (.getfield 18, 3) := by decide +kernel
theorem dX5_readNumber_95 : decode cX5_readNumber 95 = .ok (.iload_n 1, 1) := by decide +kernel
theorem dX5_readNumber_96 : decode cX5_readNumber 96 = .ok (.invokevirtual 47, 3) := by decide +kernel
theorem dX5_readNumber_99 : decode cX5_readNumber 99 = .ok (.bipush 48, 2) := by decide +kernel
theorem dX5_readNumber_101 : decode cX5_readNumber 101 = .ok (.if_icmp .ne 7, 3) := by decide +kernel
theorem dX5_readNumber_104 : decode cX5_readNumber 104 = .ok (.iconst 1, 1) := by decide +kernel
theorem dX5_readNumber_105 : decode cX5_readNumber 105 = .ok (.goto 4, 3) := by decide +kernel
theorem dX5_readNumber_108 : decode cX5_readNumber 108 = .ok (.iconst 0, 1) := by decide +kernel
theorem dX5_readNumber_109 : decode cX5_readNumber 109 = .ok (.istore_n 3, 1) := by decide +kernel
theorem dX5_readNumber_110 : decode cX5_readNumber 110 = .ok (.aload_n 0, 1) := by decide +kernel
theorem dX5_readNumber_111 : decode cX5_readNumber 111 = .ok (.getfield 9, 3) := by decide +kernel
theorem dX5_readNumber_114 : decode cX5_readNumber 114 = .ok (.iload_n 1, 1) := by decide +kernel
theorem dX5_readNumber_115 : decode cX5_readNumber 115 = .ok (.if_icmp .eq 13, 3) := by decide +kernel
theorem dX5_readNumber_118 : decode cX5_readNumber 118 = .ok (.iload_n 3, 1) := by decide +kernel
theorem dX5_readNumber_119 : decode cX5_readNumber 119 = .ok (.ifCond .ne 9, 3) := by decide +kernel
theorem dX5_readNumber_122 : decode cX5_readNumber 122 = .ok (.iload_n 2, 1) := by decide +kernel
theorem dX5_readNumber_123 : decode cX5_readNumber 123 = .ok (.bipush 12, 2) := by decide +kernel
theorem dX5_readNumber_125 : decode cX5_readNumber 125 = .ok (.if_icmp .lt 9, 3) := by decide +kernel
theorem dX5_readNumber_128 : decode cX5_readNumber 128 = .ok (.aload_n 0, 1) := by decide +kernel
theorem dX5_readNumber_129 : decode cX5_readNumber 129 = .ok (.iload_n 1, 1) := by decide +kernel
theorem dX5_readNumber_130 : decode cX5_readNumber 130 = .ok (.invokevirtual 50, 3) := by decide +kernel
theorem dX5_readNumber_133 : decode cX5_readNumber 133 = .ok (.ireturn, 1) := by decide +kernel
theorem dX5_readNumber_134 : decode cX5_readNumber 134 = .ok (.aload_n 0, 1) := by decide +kernel
theorem dX5_readNumber_135 : decode cX5_readNumber 135 = .ok (.getfield 22, 3) := by decide +kernel
theorem dX5_readNumber_138 : decode cX5_readNumber 138 = .ok (.iload_n 2, 1) := by decide +kernel
theorem dX5_readNumber_139 : decode cX5_readNumber 139 = .ok (.invokevirtual 74, 3) := by decide +kernel
theorem dX5_readNumber_142 : decode cX5_readNumber 142 = .ok (.iconst 1, 1) := by decide +kernel
theorem dX5_readNumber_143 : decode cX5_readNumber 143 = .ok (.ireturn, 1) := by decide +kernel
theorem dX5_peek_0 : decode cX5_peek 0 = .ok (.aload_n 0, 1) := by decide +kernel
theorem dX5_peek_1 : decode cX5_peek 1 = .ok (.getfield 9, 3) := by decide +kernel
theorem dX5_peek_4 : decode cX5_peek 4 = .ok (.sipush 480, 3) := by decide +kernel
theorem dX5_peek_7 : decode cX5_peek 7 = .ok (.if_icmp .ge 32, 3) := by decide +kernel
theorem dX5_peek_10 : decode cX5_peek 10 = .ok (.aload_n 0, 1) := by decide +kernel
theorem dX5_peek_11 : decode cX5_peek 11 = .ok (.getfield 18, 3) := by decide +kernel
theorem dX5_peek_14 : decode cX5_peek 14 = .ok (.aload_n 0, 1) := by decide +kernel
theorem dX5_peek_15 : decode cX5_peek 15 = .ok (.getfield 9, 3) := by decide +kernel
theorem dX5_peek_18 : decode cX5_peek 18 = .ok (.invokevirtual 47, 3) := by decide +kernel
theorem dX5_peek_21 : decode cX5_peek 21 = .ok (.bipush 32, 2) := by decide +kernel
theorem dX5_peek_23 : decode cX5_peek 23 = .ok (.if_icmp .ne 16, 3) := by decide +kernel
theorem dX5_peek_26 : decode cX5_peek 26 = .ok (.aload_n 0, 1) := by decide +kernel
theorem dX5_peek_27 : decode cX5_peek 27 = .ok (.dup, 1) := by decide +kernel
theorem dX5_peek_28 : decode cX5_peek 28 = .ok (.getfield 9, 3) := by decide +kernel
theorem dX5_peek_31 : decode cX5_peek 31 = .ok (.iconst 1, 1) := by decide +kernel
theorem dX5_peek_32 : decode cX5_peek 32 = .ok (.iadd, 1) := by decide +kernel
theorem dX5_peek_33 : decode cX5_peek 33 = .ok (.putfield 9, 3) := by decide +kernel
theorem dX5_peek_36 : decode cX5_peek 36 = .ok (.goto (-36), 3) := by decide +kernel
theorem dX5_peek_39 : decode cX5_peek 39 = .ok (.aload_n 0, 1) := by decide +kernel
theorem dX5_peek_40 : decode cX5_peek 40 = .ok (.getfield 18, 3) := by decide +kernel
theorem dX5_peek_43 : decode cX5_peek 43 = .ok (.aload_n 0, 1) := by decide +kernel
theorem dX5_peek_44 : decode cX5_peek 44 = .ok (.getfield 9, 3) := by decide +kernel
theorem dX5_peek_47 : decode cX5_peek 47 = .ok (.invokevirtual 47, 3) := by decide +kernel
theorem dX5_peek_50 : decode cX5_peek 50 = .ok (.ireturn, 1) := by decide +kernel
theorem dX5_accept_0 : decode cX5_accept 0 = .ok (.aload_n 0, 1) := by decide +kernel
theorem dX5_accept_1 : decode cX5_accept 1 = .ok (.invokevirtual 33, 3) := by decide +kernel
theorem dX5_accept_4 : decode cX5_accept 4 = .ok (.iload_n 1, 1) := by decide +kernel
theorem dX5_accept_5 : decode cX5_accept 5 = .ok (.if_icmp .eq 5, 3) := by decide +kernel
theorem dX5_accept_8 : decode cX5_accept 8 = .ok (.iconst 0, 1) := by decide +kernel
theorem dX5_accept_9 : decode cX5_accept 9 = .ok (.ireturn, 1) := by decide +kernel
theorem dX5_accept_10 : decode cX5_accept 10 = .ok (.aload_n 0, 1) := by decide +kernel
theorem dX5_accept_11 : decode cX5_accept 11 = .ok (.dup, 1) := by decide +kernel
theorem dX5_accept_12 : decode cX5_accept 12 = .ok (.getfield 9, 3) := by decide +kernel
theorem dX5_accept_15 : decode cX5_accept 15 = .ok (.iconst 1, 1) := by decide +kernel
theorem dX5_accept_16 : decode cX5_accept 16 = .ok (.iadd, 1) := by decide +kernel
theorem dX5_accept_17 : decode cX5_accept 17 = .ok (.putfield 9, 3) := by decide +kernel
theorem dX5_accept_20 : decode cX5_accept 20 = .ok (.iconst 1, 1) := by decide +kernel
theorem dX5_accept_21 : decode cX5_accept 21 = .ok (.ireturn, 1) := by decide +kernel
theorem dX5_refuse_0 : decode cX5_refuse 0 = .ok (.aload_n 0, 1) := by decide +kernel
theorem dX5_refuse_1 : decode cX5_refuse 1 = .ok (.iload_n 1, 1) := by decide +kernel
theorem dX5_refuse_2 : decode cX5_refuse 2 = .ok (.putfield 15, 3) := by decide +kernel
theorem dX5_refuse_5 : decode cX5_refuse 5 = .ok (.iconst 0, 1) := by decide +kernel
theorem dX5_refuse_6 : decode cX5_refuse 6 = .ok (.ireturn, 1) := by decide +kernel
