theorem dX8_init_0 : decode cX8_init 0 = .ok (.aload_n 0, 1) := by decide +kernel
theorem dX8_init_1 : decode cX8_init 1 = .ok (.invokespecial 3, 3) := by decide +kernel
theorem dX8_init_4 : decode cX8_init 4 = .ok (.aload_n 0, 1) := by decide +kernel
theorem dX8_init_5 : decode cX8_init 5 = .ok (.new 9, 3) := by decide +kernel
theorem dX8_init_8 : decode cX8_init 8 = .ok (.dup, 1) := by decide +kernel
theorem dX8_init_9 : decode cX8_init 9 = .ok (.invokespecial 11, 3) := by decide +kernel
theorem dX8_init_12 : decode cX8_init 12 = .ok (.putfield 12, 3) := by decide +kernel
theorem dX8_init_15 : decode cX8_init 15 = .ok (.aload_n 0, 1) := by decide +kernel
theorem dX8_init_16 : decode cX8_init 16 = .ok (.new 16, 3) := by decide +kernel
theorem dX8_init_19 : decode cX8_init 19 = .ok (.dup, 1) := by decide +kernel
theorem dX8_init_20 : decode cX8_init 20 = .ok (.invokespecial 18, 3) := by decide +kernel
theorem dX8_init_23 : decode cX8_init 23 = .ok (.putfield 19, 3) := by decide +kernel
theorem dX8_init_26 : decode cX8_init 26 = .ok (.aload_n 0, 1) := by decide +kernel
theorem dX8_init_27 : decode cX8_init 27 = .ok (.new 23, 3) := by decide +kernel
theorem dX8_init_30 : decode cX8_init 30 = .ok (.dup, 1) := by decide +kernel
theorem dX8_init_31 : decode cX8_init 31 = .ok (.invokespecial 25, 3) := by decide +kernel
theorem dX8_init_34 : decode cX8_init 34 = .ok (.putfield 26, 3) := by decide +kernel
theorem dX8_init_37 : decode cX8_init 37 = .ok (.aload_n 0, 1) := by decide +kernel
theorem dX8_init_38 : decode cX8_init 38 = .ok (.new 23, 3) := by decide +kernel
theorem dX8_init_41 : decode cX8_init 41 = .ok (.dup, 1) := by decide +kernel
theorem dX8_init_42 : decode cX8_init 42 = .ok (.invokespecial 25, 3) := by decide +kernel
theorem dX8_init_45 : decode cX8_init 45 = .ok (.putfield 30, 3) := by decide +kernel
theorem dX8_init_48 : decode cX8_init 48 = .ok (.aload_n 0, 1) := by decide +kernel
theorem dX8_init_49 : decode cX8_init 49 = .ok (.new 23, 3) := by decide +kernel
theorem dX8_init_52 : decode cX8_init 52 = .ok (.dup, 1) := by decide +kernel
theorem dX8_init_53 : decode cX8_init 53 = .ok (.invokespecial 25, 3) := by decide +kernel
theorem dX8_init_56 : decode cX8_init 56 = .ok (.putfield 33, 3) := by decide +kernel
theorem dX8_init_59 : decode cX8_init 59 = .ok (.aload_n 0, 1) := by decide +kernel
theorem dX8_init_60 : decode cX8_init 60 = .ok (.new 36, 3) := by decide +kernel
theorem dX8_init_63 : decode cX8_init 63 = .ok (.dup, 1) := by decide +kernel
theorem dX8_init_64 : decode cX8_init 64 = .ok (.bipush 64, 2) := by decide +kernel
theorem dX8_init_66 : decode cX8_init 66 = .ok (.invokespecial 38, 3) := by decide +kernel
theorem dX8_init_69 : decode cX8_init 69 = .ok (.putfield 41, 3) := by decide +kernel
theorem dX8_init_72 : decode cX8_init 72 = .ok (.aload_n 0, 1) := by decide +kernel
theorem dX8_init_73 : decode cX8_init 73 = .ok (.new 36, 3) := by decide +kernel
theorem dX8_init_76 : decode cX8_init 76 = .ok (.dup, 1) := by decide +kernel
theorem dX8_init_77 : decode cX8_init 77 = .ok (.bipush 96, 2) := by decide +kernel
theorem dX8_init_79 : decode cX8_init 79 = .ok (.invokespecial 38, 3) := by decide +kernel
theorem dX8_init_82 : decode cX8_init 82 = .ok (.putfield 45, 3) := by decide +kernel
theorem dX8_init_85 : decode cX8_init 85 = .ok (.aload_n 0, 1) := by decide +kernel
theorem dX8_init_86 : decode cX8_init 86 = .ok (.new 48, 3) := by decide +kernel
theorem dX8_init_89 : decode cX8_init 89 = .ok (.dup, 1) := by decide +kernel
theorem dX8_init_90 : decode cX8_init 90 = .ok (.invokespecial 50, 3) := by decide +kernel
theorem dX8_init_93 : decode cX8_init 93 = .ok (.putfield 51, 3) := by decide +kernel
theorem dX8_init_96 : decode cX8_init 96 = .ok (.aload_n 0, 1) := by decide +kernel
theorem dX8_init_97 : decode cX8_init 97 = .ok (.new 48, 3) := by decide +kernel
theorem dX8_init_100 : decode cX8_init 100 = .ok (.dup, 1) := by decide +kernel
theorem dX8_init_101 : decode cX8_init 101 = .ok (.invokespecial 50, 3) := by decide +kernel
theorem dX8_init_104 : decode cX8_init 104 = .ok (.putfield 55, 3) := by decide +kernel
theorem dX8_init_107 : decode cX8_init 107 = .ok (.aload_n 0, 1) := by decide +kernel
theorem dX8_init_108 : decode cX8_init 108 = .ok (.new 58, 3) := by decide +kernel
theorem dX8_init_111 : decode cX8_init 111 = .ok (.dup, 1) := by decide +kernel
theorem dX8_init_112 : decode cX8_init 112 = .ok (.aload_n 0, 1) := by decide +kernel
theorem dX8_init_113 : decode cX8_init 113 = .ok (.getfield 12, 3) := by decide +kernel
theorem dX8_init_116 : decode cX8_init 116 = .ok (.aload_n 0, 1) := by decide +kernel
theorem dX8_init_117 : decode cX8_init 117 = .ok (.getfield 55, 3) := by decide +kernel
theorem dX8_init_120 : decode cX8_init 120 = .ok (.invokespecial 60, 3) := by decide +kernel
theorem dX8_init_123 : decode cX8_init 123 = .ok (.putfield 63, 3) := by decide +kernel
theorem dX8_init_126 : decode cX8_init 126 = .ok (.aload_n 0, 1) := by decide +kernel
theorem dX8_init_127 : decode cX8_init 127 = .ok (.new 67, 3) := by decide +kernel
theorem dX8_init_130 : decode cX8_init 130 = .ok (.dup, 1) := by decide +kernel
theorem dX8_init_131 : decode cX8_init 131 = .ok (.aload_n 0, 1) := by decide +kernel
theorem dX8_init_132 : decode cX8_init 132 = .ok (.getfield 51, 3) := by decide +kernel
theorem dX8_init_135 : decode cX8_init 135 = .ok (.aload_n 0, 1) := by decide +kernel
theorem dX8_init_136 : decode cX8_init 136 = .ok (.getfield 26, 3) := by decide +kernel
theorem dX8_init_139 : decode cX8_init 139 = .ok (.invokespecial 69, 3) := by decide +kernel
theorem dX8_init_142 : decode cX8_init 142 = .ok (.putfield 72, 3) := by decide +kernel
theorem dX8_init_145 : decode cX8_init 145 = .ok (.aload_n 0, 1) := by decide +kernel
theorem dX8_init_146 : decode cX8_init 146 = .ok (.iconst 0, 1) := by decide +kernel
theorem dX8_init_147 : decode cX8_init 147 = .ok (.putfield 76, 3) := by decide +kernel
theorem dX8_init_150 : decode cX8_init 150 = .ok (.return_, 1) := by decide +kernel
theorem dX8_type_0 : decode cX8_type 0 = .ok (.aload_n 0, 1) := by decide +kernel
theorem dX8_type_1 : decode cX8_type 1 = .ok (.getfield 12, 3) := by decide +kernel
theorem dX8_type_4 : decode cX8_type 4 = .ok (.lload_n 1, 1) := by decide +kernel
theorem dX8_type_5 : decode cX8_type 5 = .ok (.iload_n 3, 1) := by decide +kernel
theorem dX8_type_6 : decode cX8_type 6 = .ok (.invokevirtual 80, 3) := by decide +kernel
theorem dX8_type_9 : decode cX8_type 9 = .ok (.ireturn, 1) := by decide +kernel
theorem dX8_compile_0 : decode cX8_compile 0 = .ok (.aload_n 0, 1) := by decide +kernel
theorem dX8_compile_1 : decode cX8_compile 1 = .ok (.getfield 63, 3) := by decide +kernel
theorem dX8_compile_4 : decode cX8_compile 4 = .ok (.aload_n 0, 1) := by decide +kernel
theorem dX8_compile_5 : decode cX8_compile 5 = .ok (.getfield 55, 3) := by decide +kernel
theorem dX8_compile_8 : decode cX8_compile 8 = .ok (.invokevirtual 84, 3) := by decide +kernel
theorem dX8_compile_11 : decode cX8_compile 11 = .ok (.istore_n 1, 1) := by decide +kernel
theorem dX8_compile_12 : decode cX8_compile 12 = .ok (.aload_n 0, 1) := by decide +kernel
theorem dX8_compile_13 : decode cX8_compile 13 = .ok (.getfield 12, 3) := by decide +kernel
theorem dX8_compile_16 : decode cX8_compile 16 = .ok (.invokevirtual 88, 3) := by decide +kernel
theorem dX8_compile_19 : decode cX8_compile 19 = .ok (.aload_n 0, 1) := by decide +kernel
theorem dX8_compile_20 : decode cX8_compile 20 = .ok (.getfield 19, 3) := by decide +kernel
theorem dX8_compile_23 : decode cX8_compile 23 = .ok (.aload_n 0, 1) := by decide +kernel
theorem dX8_compile_24 : decode cX8_compile 24 = .ok (.getfield 55, 3) := by decide +kernel
theorem dX8_compile_27 : decode cX8_compile 27 = .ok (.iload_n 1, 1) := by decide +kernel
theorem dX8_compile_28 : decode cX8_compile 28 = .ok (.invokevirtual 91, 3) := by decide +kernel
theorem dX8_compile_31 : decode cX8_compile 31 = .ok (.aload_n 0, 1) := by decide +kernel
theorem dX8_compile_32 : decode cX8_compile 32 = .ok (.getfield 19, 3) := by decide +kernel
theorem dX8_compile_35 : decode cX8_compile 35 = .ok (.invokevirtual 95, 3) := by decide +kernel
theorem dX8_compile_38 : decode cX8_compile 38 = .ok (.ifCond .eq 11, 3) := by decide +kernel
theorem dX8_compile_41 : decode cX8_compile 41 = .ok (.new 99, 3) := by decide +kernel
theorem dX8_compile_44 : decode cX8_compile 44 = .ok (.dup, 1) := by decide +kernel
theorem dX8_compile_45 : decode cX8_compile 45 = .ok (.invokespecial 101, 3) := by decide +kernel
theorem dX8_compile_48 : decode cX8_compile 48 = .ok (.athrow, 1) := by decide +kernel
theorem dX8_compile_49 : decode cX8_compile 49 = .ok (.aload_n 0, 1) := by decide +kernel
theorem dX8_compile_50 : decode cX8_compile 50 = .ok (.invokevirtual 102, 3) := by decide +kernel
theorem dX8_compile_53 : decode cX8_compile 53 = .ok (.aload_n 0, 1) := by decide +kernel
theorem dX8_compile_54 : decode cX8_compile 54 = .ok (.getfield 72, 3) := by decide +kernel
theorem dX8_compile_57 : decode cX8_compile 57 = .ok (.sipush 1023, 3) := by decide +kernel
theorem dX8_compile_60 : decode cX8_compile 60 = .ok (.invokevirtual 105, 3) := by decide +kernel
theorem dX8_compile_63 : decode cX8_compile 63 = .ok (.aload_n 0, 1) := by decide +kernel
theorem dX8_compile_64 : decode cX8_compile 64 = .ok (.getfield 30, 3) := by decide +kernel
theorem dX8_compile_67 : decode cX8_compile 67 = .ok (.aload_n 0, 1) := by decide +kernel
theorem dX8_compile_68 : decode cX8_compile 68 = .ok (.getfield 26, 3) := by decide +kernel
theorem dX8_compile_71 : decode cX8_compile 71 = .ok (.invokevirtual 108, 3) := by decide +kernel
theorem dX8_compile_74 : decode cX8_compile 74 = .ok (.aload_n 0, 1) := by decide +kernel
theorem dX8_compile_75 : decode cX8_compile 75 = .ok (.getfield 51, 3) := by decide +kernel
theorem dX8_compile_78 : decode cX8_compile 78 = .ok (.getfield 112, 3) := by decide +kernel
theorem dX8_compile_81 : decode cX8_compile 81 = .ok (.ireturn, 1) := by decide +kernel
theorem dX8_fault_0 : decode cX8_fault 0 = .ok (.iload_n 1, 1) := by decide +kernel
theorem dX8_fault_1 : decode cX8_fault 1 = .ok (.lookupswitch 43 #[(0, 27), (1, 35)], 27) := by decide +kernel
theorem dX8_fault_28 : decode cX8_fault 28 = .ok (.aload_n 0, 1) := by decide +kernel
theorem dX8_fault_29 : decode cX8_fault 29 = .ok (.getfield 19, 3) := by decide +kernel
theorem dX8_fault_32 : decode cX8_fault 32 = .ok (.invokevirtual 95, 3) := by decide +kernel
theorem dX8_fault_35 : decode cX8_fault 35 = .ok (.ireturn, 1) := by decide +kernel
theorem dX8_fault_36 : decode cX8_fault 36 = .ok (.aload_n 0, 1) := by decide +kernel
theorem dX8_fault_37 : decode cX8_fault 37 = .ok (.getfield 19, 3) := by decide +kernel
theorem dX8_fault_40 : decode cX8_fault 40 = .ok (.invokevirtual 115, 3) := by decide +kernel
theorem dX8_fault_43 : decode cX8_fault 43 = .ok (.ireturn, 1) := by decide +kernel
theorem dX8_fault_44 : decode cX8_fault 44 = .ok (.iconst (-1), 1) := by decide +kernel
theorem dX8_fault_45 : decode cX8_fault 45 = .ok (.ireturn, 1) := by decide +kernel
theorem dX8_predicate_0 : decode cX8_predicate 0 = .ok (.iload_n 1, 1) := by decide +kernel
theorem dX8_predicate_1 : decode cX8_predicate 1 = .ok (.ifCond .lt 9, 3) := by decide +kernel
theorem dX8_predicate_4 : decode cX8_predicate 4 = .ok (.iload_n 1, 1) := by decide +kernel
theorem dX8_predicate_5 : decode cX8_predicate 5 = .ok (.bipush 10, 2) := by decide +kernel
theorem dX8_predicate_7 : decode cX8_predicate 7 = .ok (.if_icmp .lt 5, 3) := by decide +kernel
theorem dX8_predicate_10 : decode cX8_predicate 10 = .ok (.iconst (-1), 1) := by decide +kernel
theorem dX8_predicate_11 : decode cX8_predicate 11 = .ok (.ireturn, 1) := by decide +kernel
theorem dX8_predicate_12 : decode cX8_predicate 12 = .ok (.iload_n 2, 1) := by decide +kernel
theorem dX8_predicate_13 : decode cX8_predicate 13 = .ok (.tableswitch 70 0 3 #[31, 41, 51, 61], 31) := by decide +kernel
theorem dX8_predicate_44 : decode cX8_predicate 44 = .ok (.aload_n 0, 1) := by decide +kernel
theorem dX8_predicate_45 : decode cX8_predicate 45 = .ok (.getfield 51, 3) := by decide +kernel
theorem dX8_predicate_48 : decode cX8_predicate 48 = .ok (.getfield 118, 3) := by decide +kernel
theorem dX8_predicate_51 : decode cX8_predicate 51 = .ok (.iload_n 1, 1) := by decide +kernel
theorem dX8_predicate_52 : decode cX8_predicate 52 = .ok (.iaload, 1) := by decide +kernel
theorem dX8_predicate_53 : decode cX8_predicate 53 = .ok (.ireturn, 1) := by decide +kernel
theorem dX8_predicate_54 : decode cX8_predicate 54 = .ok (.aload_n 0, 1) := by decide +kernel
theorem dX8_predicate_55 : decode cX8_predicate 55 = .ok (.getfield 51, 3) := by decide +kernel
theorem dX8_predicate_58 : decode cX8_predicate 58 = .ok (.getfield 122, 3) := by decide +kernel
theorem dX8_predicate_61 : decode cX8_predicate 61 = .ok (.iload_n 1, 1) := by decide +kernel
theorem dX8_predicate_62 : decode cX8_predicate 62 = .ok (.iaload, 1) := by decide +kernel
theorem dX8_predicate_63 : decode cX8_predicate 63 = .ok (.ireturn, 1) := by decide +kernel
theorem dX8_predicate_64 : decode cX8_predicate 64 = .ok (.aload_n 0, 1) := by decide +kernel
theorem dX8_predicate_65 : decode cX8_predicate 65 = .ok (.getfield 51, 3) := by decide +kernel
theorem dX8_predicate_68 : decode cX8_predicate 68 = .ok (.getfield 125, 3) := by decide +kernel
theorem dX8_predicate_71 : decode cX8_predicate 71 = .ok (.iload_n 1, 1) := by decide +kernel
theorem dX8_predicate_72 : decode cX8_predicate 72 = .ok (.iaload, 1) := by decide +kernel
theorem dX8_predicate_73 : decode cX8_predicate 73 = .ok (.ireturn, 1) := by decide +kernel
theorem dX8_predicate_74 : decode cX8_predicate 74 = .ok (.aload_n 0, 1) := by decide +kernel
theorem dX8_predicate_75 : decode cX8_predicate 75 = .ok (.getfield 26, 3) := by decide +kernel
theorem dX8_predicate_78 : decode cX8_predicate 78 = .ok (.iload_n 1, 1) := by decide +kernel
theorem dX8_predicate_79 : decode cX8_predicate 79 = .ok (.invokevirtual 128, 3) := by decide +kernel
theorem dX8_predicate_82 : decode cX8_predicate 82 = .ok (.ireturn, 1) := by decide +kernel
theorem dX8_predicate_83 : decode cX8_predicate 83 = .ok (.iconst (-1), 1) := by decide +kernel
theorem dX8_predicate_84 : decode cX8_predicate 84 = .ok (.ireturn, 1) := by decide +kernel
theorem dX8_put_0 : decode cX8_put 0 = .ok (.aload_n 0, 1) := by decide +kernel
theorem dX8_put_1 : decode cX8_put 1 = .ok (.iconst 1, 1) := by decide +kernel
theorem dX8_put_2 : decode cX8_put 2 = .ok (.iload_n 1, 1) := by decide +kernel
theorem dX8_put_3 : decode cX8_put 3 = .ok (.aload_n 0, 1) := by decide +kernel
theorem dX8_put_4 : decode cX8_put 4 = .ok (.getfield 51, 3) := by decide +kernel
theorem dX8_put_7 : decode cX8_put 7 = .ok (.iload_n 1, 1) := by decide +kernel
theorem dX8_put_8 : decode cX8_put 8 = .ok (.iload_n 2, 1) := by decide +kernel
theorem dX8_put_9 : decode cX8_put 9 = .ok (.iload_n 3, 1) := by decide +kernel
theorem dX8_put_10 : decode cX8_put 10 = .ok (.iload 4, 2) := by decide +kernel
theorem dX8_put_12 : decode cX8_put 12 = .ok (.invokevirtual 132, 3) := by decide +kernel
theorem dX8_put_15 : decode cX8_put 15 = .ok (.invokevirtual 136, 3) := by decide +kernel
theorem dX8_put_18 : decode cX8_put 18 = .ok (.ireturn, 1) := by decide +kernel
theorem dX8_remove_0 : decode cX8_remove 0 = .ok (.aload_n 0, 1) := by decide +kernel
theorem dX8_remove_1 : decode cX8_remove 1 = .ok (.iconst 0, 1) := by decide +kernel
theorem dX8_remove_2 : decode cX8_remove 2 = .ok (.iload_n 1, 1) := by decide +kernel
theorem dX8_remove_3 : decode cX8_remove 3 = .ok (.aload_n 0, 1) := by decide +kernel
theorem dX8_remove_4 : decode cX8_remove 4 = .ok (.getfield 51, 3) := by decide +kernel
theorem dX8_remove_7 : decode cX8_remove 7 = .ok (.iload_n 1, 1) := by decide +kernel
theorem dX8_remove_8 : decode cX8_remove 8 = .ok (.iload_n 2, 1) := by decide +kernel
theorem dX8_remove_9 : decode cX8_remove 9 = .ok (.iload_n 3, 1) := by decide +kernel
theorem dX8_remove_10 : decode cX8_remove 10 = .ok (.iload 4, 2) := by decide +kernel
theorem dX8_remove_12 : decode cX8_remove 12 = .ok (.invokevirtual 132, 3) := by decide +kernel
theorem dX8_remove_15 : decode cX8_remove 15 = .ok (.invokevirtual 136, 3) := by decide +kernel
theorem dX8_remove_18 : decode cX8_remove 18 = .ok (.ireturn, 1) := by decide +kernel
theorem dX8_commit_0 : decode cX8_commit 0 = .ok (.aload_n 0, 1) := by decide +kernel
theorem dX8_commit_1 : decode cX8_commit 1 = .ok (.getfield 45, 3) := by decide +kernel
theorem dX8_commit_4 : decode cX8_commit 4 = .ok (.invokevirtual 140, 3) := by decide +kernel
theorem dX8_commit_7 : decode cX8_commit 7 = .ok (.aload_n 0, 1) := by decide +kernel
theorem dX8_commit_8 : decode cX8_commit 8 = .ok (.getfield 41, 3) := by decide +kernel
theorem dX8_commit_11 : decode cX8_commit 11 = .ok (.invokevirtual 140, 3) := by decide +kernel
theorem dX8_commit_14 : decode cX8_commit 14 = .ok (.iadd, 1) := by decide +kernel
theorem dX8_commit_15 : decode cX8_commit 15 = .ok (.bipush 96, 2) := by decide +kernel
theorem dX8_commit_17 : decode cX8_commit 17 = .ok (.if_icmp .le 11, 3) := by decide +kernel
theorem dX8_commit_20 : decode cX8_commit 20 = .ok (.new 142, 3) := by decide +kernel
theorem dX8_commit_23 : decode cX8_commit 23 = .ok (.dup, 1) := by decide +kernel
theorem dX8_commit_24 : decode cX8_commit 24 = .ok (.invokespecial 144, 3) := by decide +kernel
theorem dX8_commit_27 : decode cX8_commit 27 = .ok (.athrow, 1) := by decide +kernel
theorem dX8_commit_28 : decode cX8_commit 28 = .ok (.aload_n 0, 1) := by decide +kernel
theorem dX8_commit_29 : decode cX8_commit 29 = .ok (.getfield 30, 3) := by decide +kernel
theorem dX8_commit_32 : decode cX8_commit 32 = .ok (.aload_n 0, 1) := by decide +kernel
theorem dX8_commit_33 : decode cX8_commit 33 = .ok (.getfield 26, 3) := by decide +kernel
theorem dX8_commit_36 : decode cX8_commit 36 = .ok (.invokevirtual 108, 3) := by decide +kernel
theorem dX8_commit_39 : decode cX8_commit 39 = .ok (.aload_n 0, 1) := by decide +kernel
theorem dX8_commit_40 : decode cX8_commit 40 = .ok (.getfield 41, 3) := by decide +kernel
theorem dX8_commit_43 : decode cX8_commit 43 = .ok (.aload_n 0, 1) := by decide +kernel
theorem dX8_commit_44 : decode cX8_commit 44 = .ok (.getfield 26, 3) := by decide +kernel
theorem dX8_commit_47 : decode cX8_commit 47 = .ok (.invokevirtual 145, 3) := by decide +kernel
theorem dX8_commit_50 : decode cX8_commit 50 = .ok (.aload_n 0, 1) := by decide +kernel
theorem dX8_commit_51 : decode cX8_commit 51 = .ok (.getfield 45, 3) := by decide +kernel
theorem dX8_commit_54 : decode cX8_commit 54 = .ok (.aload_n 0, 1) := by decide +kernel
theorem dX8_commit_55 : decode cX8_commit 55 = .ok (.getfield 41, 3) := by decide +kernel
theorem dX8_commit_58 : decode cX8_commit 58 = .ok (.invokevirtual 148, 3) := by decide +kernel
theorem dX8_commit_61 : decode cX8_commit 61 = .ok (.aload_n 0, 1) := by decide +kernel
theorem dX8_commit_62 : decode cX8_commit 62 = .ok (.getfield 41, 3) := by decide +kernel
theorem dX8_commit_65 : decode cX8_commit 65 = .ok (.iconst 0, 1) := by decide +kernel
theorem dX8_commit_66 : decode cX8_commit 66 = .ok (.invokevirtual 151, 3) := by decide +kernel
theorem dX8_commit_69 : decode cX8_commit 69 = .ok (.aload_n 0, 1) := by decide +kernel
theorem dX8_commit_70 : decode cX8_commit 70 = .ok (.getfield 72, 3) := by decide +kernel
theorem dX8_commit_73 : decode cX8_commit 73 = .ok (.aload_n 0, 1) := by decide +kernel
theorem dX8_commit_74 : decode cX8_commit 74 = .ok (.getfield 26, 3) := by decide +kernel
theorem dX8_commit_77 : decode cX8_commit 77 = .ok (.aload_n 0, 1) := by decide +kernel
theorem dX8_commit_78 : decode cX8_commit 78 = .ok (.getfield 30, 3) := by decide +kernel
theorem dX8_commit_81 : decode cX8_commit 81 = .ok (.invokevirtual 154, 3) := by decide +kernel
theorem dX8_commit_84 : decode cX8_commit 84 = .ok (.invokevirtual 105, 3) := by decide +kernel
theorem dX8_commit_87 : decode cX8_commit 87 = .ok (.aload_n 0, 1) := by decide +kernel
theorem dX8_commit_88 : decode cX8_commit 88 = .ok (.invokevirtual 158, 3) := by decide +kernel
theorem dX8_commit_91 : decode cX8_commit 91 = .ok (.ireturn, 1) := by decide +kernel
theorem dX8_abort_0 : decode cX8_abort 0 = .ok (.aload_n 0, 1) := by decide +kernel
theorem dX8_abort_1 : decode cX8_abort 1 = .ok (.getfield 41, 3) := by decide +kernel
theorem dX8_abort_4 : decode cX8_abort 4 = .ok (.invokevirtual 140, 3) := by decide +kernel
theorem dX8_abort_7 : decode cX8_abort 7 = .ok (.istore_n 1, 1) := by decide +kernel
theorem dX8_abort_8 : decode cX8_abort 8 = .ok (.aload_n 0, 1) := by decide +kernel
theorem dX8_abort_9 : decode cX8_abort 9 = .ok (.getfield 41, 3) := by decide +kernel
theorem dX8_abort_12 : decode cX8_abort 12 = .ok (.iconst 0, 1) := by decide +kernel
theorem dX8_abort_13 : decode cX8_abort 13 = .ok (.invokevirtual 151, 3) := by decide +kernel
theorem dX8_abort_16 : decode cX8_abort 16 = .ok (.iload_n 1, 1) := by decide +kernel
theorem dX8_abort_17 : decode cX8_abort 17 = .ok (.ireturn, 1) := by decide +kernel
theorem dX8_holds_0 : decode cX8_holds 0 = .ok (.aload_n 0, 1) := by decide +kernel
theorem dX8_holds_1 : decode cX8_holds 1 = .ok (.getfield 26, 3) := by decide +kernel
theorem dX8_holds_4 : decode cX8_holds 4 = .ok (.iload_n 1, 1) := by decide +kernel
theorem dX8_holds_5 : decode cX8_holds 5 = .ok (.aload_n 0, 1) := by decide +kernel
theorem dX8_holds_6 : decode cX8_holds 6 = .ok (.getfield 51, 3) := by decide +kernel
theorem dX8_holds_9 : decode cX8_holds 9 = .ok (.iload_n 1, 1) := by decide +kernel
theorem dX8_holds_10 : decode cX8_holds 10 = .ok (.iload_n 2, 1) := by decide +kernel
theorem dX8_holds_11 : decode cX8_holds 11 = .ok (.iload_n 3, 1) := by decide +kernel
theorem dX8_holds_12 : decode cX8_holds 12 = .ok (.iload 4, 2) := by decide +kernel
theorem dX8_holds_14 : decode cX8_holds 14 = .ok (.invokevirtual 132, 3) := by decide +kernel
theorem dX8_holds_17 : decode cX8_holds 17 = .ok (.invokevirtual 161, 3) := by decide +kernel
theorem dX8_holds_20 : decode cX8_holds 20 = .ok (.ireturn, 1) := by decide +kernel
theorem dX8_fact_0 : decode cX8_fact 0 = .ok (.aload_n 0, 1) := by decide +kernel
theorem dX8_fact_1 : decode cX8_fact 1 = .ok (.getfield 26, 3) := by decide +kernel
theorem dX8_fact_4 : decode cX8_fact 4 = .ok (.iload_n 1, 1) := by decide +kernel
theorem dX8_fact_5 : decode cX8_fact 5 = .ok (.iload_n 2, 1) := by decide +kernel
theorem dX8_fact_6 : decode cX8_fact 6 = .ok (.invokevirtual 165, 3) := by decide +kernel
theorem dX8_fact_9 : decode cX8_fact 9 = .ok (.ireturn, 1) := by decide +kernel
theorem dX8_derivations_0 : decode cX8_derivations 0 = .ok (.aload_n 0, 1) := by decide +kernel
theorem dX8_derivations_1 : decode cX8_derivations 1 = .ok (.getfield 51, 3) := by decide +kernel
theorem dX8_derivations_4 : decode cX8_derivations 4 = .ok (.iload_n 1, 1) := by decide +kernel
theorem dX8_derivations_5 : decode cX8_derivations 5 = .ok (.iload_n 2, 1) := by decide +kernel
theorem dX8_derivations_6 : decode cX8_derivations 6 = .ok (.iload_n 3, 1) := by decide +kernel
theorem dX8_derivations_7 : decode cX8_derivations 7 = .ok (.iload 4, 2) := by decide +kernel
theorem dX8_derivations_9 : decode cX8_derivations 9 = .ok (.invokevirtual 132, 3) := by decide +kernel
theorem dX8_derivations_12 : decode cX8_derivations 12 = .ok (.istore 5, 2) := by decide +kernel
theorem dX8_derivations_14 : decode cX8_derivations 14 = .ok (.iload 5, 2) := by decide +kernel
theorem dX8_derivations_16 : decode cX8_derivations 16 = .ok (.iconst (-1), 1) := by decide +kernel
theorem dX8_derivations_17 : decode cX8_derivations 17 = .ok (.if_icmp .eq 15, 3) := by decide +kernel
theorem dX8_derivations_20 : decode cX8_derivations 20 = .ok (.aload_n 0, 1) := by decide +kernel
theorem dX8_derivations_21 : decode cX8_derivations 21 = .ok (.getfield 51, 3) := by decide +kernel
theorem dX8_derivations_24 : decode cX8_derivations 24 = .ok (.iload_n 1, 1) := by decide +kernel
theorem dX8_derivations_25 : decode cX8_derivations 25 = .ok (.invokevirtual 169, 3) := by decide +kernel
theorem dX8_derivations_28 : decode cX8_derivations 28 = .ok (.iconst 2, 1) := by decide +kernel
theorem dX8_derivations_29 : decode cX8_derivations 29 = .ok (.if_icmp .eq 5, 3) := by decide +kernel
theorem dX8_derivations_32 : decode cX8_derivations 32 = .ok (.iconst (-1), 1) := by decide +kernel
theorem dX8_derivations_33 : decode cX8_derivations 33 = .ok (.ireturn, 1) := by decide +kernel
theorem dX8_derivations_34 : decode cX8_derivations 34 = .ok (.aload_n 0, 1) := by decide +kernel
theorem dX8_derivations_35 : decode cX8_derivations 35 = .ok (.getfield 72, 3) := by decide +kernel
theorem dX8_derivations_38 : decode cX8_derivations 38 = .ok (.iload_n 1, 1) := by decide +kernel
theorem dX8_derivations_39 : decode cX8_derivations 39 = .ok (.iload 5, 2) := by decide +kernel
theorem dX8_derivations_41 : decode cX8_derivations 41 = .ok (.invokevirtual 172, 3) := by decide +kernel
theorem dX8_derivations_44 : decode cX8_derivations 44 = .ok (.ireturn, 1) := by decide +kernel
theorem dX8_changed_0 : decode cX8_changed 0 = .ok (.iload_n 1, 1) := by decide +kernel
theorem dX8_changed_1 : decode cX8_changed 1 = .ok (.ifCond .ge 5, 3) := by decide +kernel
theorem dX8_changed_4 : decode cX8_changed 4 = .ok (.iconst (-1), 1) := by decide +kernel
theorem dX8_changed_5 : decode cX8_changed 5 = .ok (.ireturn, 1) := by decide +kernel
theorem dX8_changed_6 : decode cX8_changed 6 = .ok (.iload_n 1, 1) := by decide +kernel
theorem dX8_changed_7 : decode cX8_changed 7 = .ok (.istore_n 3, 1) := by decide +kernel
theorem dX8_changed_8 : decode cX8_changed 8 = .ok (.iconst 0, 1) := by decide +kernel
theorem dX8_changed_9 : decode cX8_changed 9 = .ok (.istore 4, 2) := by decide +kernel
theorem dX8_changed_11 : decode cX8_changed 11 = .ok (.iload 4, 2) := by decide +kernel
theorem dX8_changed_13 : decode cX8_changed 13 = .ok (.bipush 10, 2) := by decide +kernel
theorem dX8_changed_15 : decode cX8_changed 15 = .ok (.if_icmp .ge 57, 3) := by decide +kernel
theorem dX8_changed_18 : decode cX8_changed 18 = .ok (.aload_n 0, 1) := by decide +kernel
theorem dX8_changed_19 : decode cX8_changed 19 = .ok (.getfield 26, 3) := by decide +kernel
theorem dX8_changed_22 : decode cX8_changed 22 = .ok (.aload_n 0, 1) := by decide +kernel
theorem dX8_changed_23 : decode cX8_changed 23 = .ok (.getfield 30, 3) := by decide +kernel
theorem dX8_changed_26 : decode cX8_changed 26 = .ok (.iload 4, 2) := by decide +kernel
theorem dX8_changed_28 : decode cX8_changed 28 = .ok (.invokevirtual 175, 3) := by decide +kernel
theorem dX8_changed_31 : decode cX8_changed 31 = .ok (.istore 5, 2) := by decide +kernel
theorem dX8_changed_33 : decode cX8_changed 33 = .ok (.iload_n 3, 1) := by decide +kernel
theorem dX8_changed_34 : decode cX8_changed 34 = .ok (.iload 5, 2) := by decide +kernel
theorem dX8_changed_36 : decode cX8_changed 36 = .ok (.if_icmp .ge 25, 3) := by decide +kernel
theorem dX8_changed_39 : decode cX8_changed 39 = .ok (.aload_n 0, 1) := by decide +kernel
theorem dX8_changed_40 : decode cX8_changed 40 = .ok (.iload 4, 2) := by decide +kernel
theorem dX8_changed_42 : decode cX8_changed 42 = .ok (.aload_n 0, 1) := by decide +kernel
theorem dX8_changed_43 : decode cX8_changed 43 = .ok (.getfield 26, 3) := by decide +kernel
theorem dX8_changed_46 : decode cX8_changed 46 = .ok (.aload_n 0, 1) := by decide +kernel
theorem dX8_changed_47 : decode cX8_changed 47 = .ok (.getfield 30, 3) := by decide +kernel
theorem dX8_changed_50 : decode cX8_changed 50 = .ok (.iload 4, 2) := by decide +kernel
theorem dX8_changed_52 : decode cX8_changed 52 = .ok (.iload_n 3, 1) := by decide +kernel
theorem dX8_changed_53 : decode cX8_changed 53 = .ok (.invokevirtual 179, 3) := by decide +kernel
theorem dX8_changed_56 : decode cX8_changed 56 = .ok (.iload_n 2, 1) := by decide +kernel
theorem dX8_changed_57 : decode cX8_changed 57 = .ok (.invokevirtual 183, 3) := by decide +kernel
theorem dX8_changed_60 : decode cX8_changed 60 = .ok (.ireturn, 1) := by decide +kernel
theorem dX8_changed_61 : decode cX8_changed 61 = .ok (.iload_n 3, 1) := by decide +kernel
theorem dX8_changed_62 : decode cX8_changed 62 = .ok (.iload 5, 2) := by decide +kernel
theorem dX8_changed_64 : decode cX8_changed 64 = .ok (.isub, 1) := by decide +kernel
theorem dX8_changed_65 : decode cX8_changed 65 = .ok (.istore_n 3, 1) := by decide +kernel
theorem dX8_changed_66 : decode cX8_changed 66 = .ok (.iinc 4 1, 3) := by decide +kernel
theorem dX8_changed_69 : decode cX8_changed 69 = .ok (.goto (-58), 3) := by decide +kernel
theorem dX8_changed_72 : decode cX8_changed 72 = .ok (.iconst (-1), 1) := by decide +kernel
theorem dX8_changed_73 : decode cX8_changed 73 = .ok (.ireturn, 1) := by decide +kernel
theorem dX8_sync_0 : decode cX8_sync 0 = .ok (.aload_n 0, 1) := by decide +kernel
theorem dX8_sync_1 : decode cX8_sync 1 = .ok (.aload_n 0, 1) := by decide +kernel
theorem dX8_sync_2 : decode cX8_sync 2 = .ok (.getfield 45, 3) := by decide +kernel
theorem dX8_sync_5 : decode cX8_sync 5 = .ok (.invokevirtual 140, 3) := by decide +kernel
theorem dX8_sync_8 : decode cX8_sync 8 = .ok (.putfield 76, 3) := by decide +kernel
theorem dX8_sync_11 : decode cX8_sync 11 = .ok (.aload_n 0, 1) := by decide +kernel
theorem dX8_sync_12 : decode cX8_sync 12 = .ok (.getfield 76, 3) := by decide +kernel
theorem dX8_sync_15 : decode cX8_sync 15 = .ok (.ireturn, 1) := by decide +kernel
theorem dX8_checkpoint_0 : decode cX8_checkpoint 0 = .ok (.iconst 0, 1) := by decide +kernel
theorem dX8_checkpoint_1 : decode cX8_checkpoint 1 = .ok (.istore_n 1, 1) := by decide +kernel
theorem dX8_checkpoint_2 : decode cX8_checkpoint 2 = .ok (.iload_n 1, 1) := by decide +kernel
theorem dX8_checkpoint_3 : decode cX8_checkpoint 3 = .ok (.bipush 10, 2) := by decide +kernel
theorem dX8_checkpoint_5 : decode cX8_checkpoint 5 = .ok (.if_icmp .ge 34, 3) := by decide +kernel
theorem dX8_checkpoint_8 : decode cX8_checkpoint 8 = .ok (.aload_n 0, 1) := by decide +kernel
theorem dX8_checkpoint_9 : decode cX8_checkpoint 9 = .ok (.getfield 51, 3) := by decide +kernel
theorem dX8_checkpoint_12 : decode cX8_checkpoint 12 = .ok (.getfield 118, 3) := by decide +kernel
theorem dX8_checkpoint_15 : decode cX8_checkpoint 15 = .ok (.iload_n 1, 1) := by decide +kernel
theorem dX8_checkpoint_16 : decode cX8_checkpoint 16 = .ok (.iaload, 1) := by decide +kernel
theorem dX8_checkpoint_17 : decode cX8_checkpoint 17 = .ok (.iconst 1, 1) := by decide +kernel
theorem dX8_checkpoint_18 : decode cX8_checkpoint 18 = .ok (.if_icmp .ne 15, 3) := by decide +kernel
theorem dX8_checkpoint_21 : decode cX8_checkpoint 21 = .ok (.aload_n 0, 1) := by decide +kernel
theorem dX8_checkpoint_22 : decode cX8_checkpoint 22 = .ok (.getfield 33, 3) := by decide +kernel
theorem dX8_checkpoint_25 : decode cX8_checkpoint 25 = .ok (.aload_n 0, 1) := by decide +kernel
theorem dX8_checkpoint_26 : decode cX8_checkpoint 26 = .ok (.getfield 26, 3) := by decide +kernel
theorem dX8_checkpoint_29 : decode cX8_checkpoint 29 = .ok (.iload_n 1, 1) := by decide +kernel
theorem dX8_checkpoint_30 : decode cX8_checkpoint 30 = .ok (.invokevirtual 187, 3) := by decide +kernel
theorem dX8_checkpoint_33 : decode cX8_checkpoint 33 = .ok (.iinc 1 1, 3) := by decide +kernel
theorem dX8_checkpoint_36 : decode cX8_checkpoint 36 = .ok (.goto (-34), 3) := by decide +kernel
theorem dX8_checkpoint_39 : decode cX8_checkpoint 39 = .ok (.aload_n 0, 1) := by decide +kernel
theorem dX8_checkpoint_40 : decode cX8_checkpoint 40 = .ok (.getfield 45, 3) := by decide +kernel
theorem dX8_checkpoint_43 : decode cX8_checkpoint 43 = .ok (.iconst 0, 1) := by decide +kernel
theorem dX8_checkpoint_44 : decode cX8_checkpoint 44 = .ok (.invokevirtual 151, 3) := by decide +kernel
theorem dX8_checkpoint_47 : decode cX8_checkpoint 47 = .ok (.aload_n 0, 1) := by decide +kernel
theorem dX8_checkpoint_48 : decode cX8_checkpoint 48 = .ok (.iconst 0, 1) := by decide +kernel
theorem dX8_checkpoint_49 : decode cX8_checkpoint 49 = .ok (.putfield 76, 3) := by decide +kernel
theorem dX8_checkpoint_52 : decode cX8_checkpoint 52 = .ok (.aload_n 0, 1) := by decide +kernel
theorem dX8_checkpoint_53 : decode cX8_checkpoint 53 = .ok (.getfield 33, 3) := by decide +kernel
theorem dX8_checkpoint_56 : decode cX8_checkpoint 56 = .ok (.invokevirtual 191, 3) := by decide +kernel
theorem dX8_checkpoint_59 : decode cX8_checkpoint 59 = .ok (.ireturn, 1) := by decide +kernel
theorem dX8_crash_0 : decode cX8_crash 0 = .ok (.aload_n 0, 1) := by decide +kernel
theorem dX8_crash_1 : decode cX8_crash 1 = .ok (.getfield 30, 3) := by decide +kernel
theorem dX8_crash_4 : decode cX8_crash 4 = .ok (.aload_n 0, 1) := by decide +kernel
theorem dX8_crash_5 : decode cX8_crash 5 = .ok (.getfield 26, 3) := by decide +kernel
theorem dX8_crash_8 : decode cX8_crash 8 = .ok (.invokevirtual 108, 3) := by decide +kernel
theorem dX8_crash_11 : decode cX8_crash 11 = .ok (.aload_n 0, 1) := by decide +kernel
theorem dX8_crash_12 : decode cX8_crash 12 = .ok (.getfield 26, 3) := by decide +kernel
theorem dX8_crash_15 : decode cX8_crash 15 = .ok (.aload_n 0, 1) := by decide +kernel
theorem dX8_crash_16 : decode cX8_crash 16 = .ok (.getfield 33, 3) := by decide +kernel
theorem dX8_crash_19 : decode cX8_crash 19 = .ok (.invokevirtual 108, 3) := by decide +kernel
theorem dX8_crash_22 : decode cX8_crash 22 = .ok (.aload_n 0, 1) := by decide +kernel
theorem dX8_crash_23 : decode cX8_crash 23 = .ok (.getfield 45, 3) := by decide +kernel
theorem dX8_crash_26 : decode cX8_crash 26 = .ok (.aload_n 0, 1) := by decide +kernel
theorem dX8_crash_27 : decode cX8_crash 27 = .ok (.getfield 76, 3) := by decide +kernel
theorem dX8_crash_30 : decode cX8_crash 30 = .ok (.invokevirtual 151, 3) := by decide +kernel
theorem dX8_crash_33 : decode cX8_crash 33 = .ok (.aload_n 0, 1) := by decide +kernel
theorem dX8_crash_34 : decode cX8_crash 34 = .ok (.getfield 45, 3) := by decide +kernel
theorem dX8_crash_37 : decode cX8_crash 37 = .ok (.aload_n 0, 1) := by decide +kernel
theorem dX8_crash_38 : decode cX8_crash 38 = .ok (.getfield 26, 3) := by decide +kernel
theorem dX8_crash_41 : decode cX8_crash 41 = .ok (.invokevirtual 145, 3) := by decide +kernel
theorem dX8_crash_44 : decode cX8_crash 44 = .ok (.aload_n 0, 1) := by decide +kernel
theorem dX8_crash_45 : decode cX8_crash 45 = .ok (.getfield 41, 3) := by decide +kernel
theorem dX8_crash_48 : decode cX8_crash 48 = .ok (.iconst 0, 1) := by decide +kernel
theorem dX8_crash_49 : decode cX8_crash 49 = .ok (.invokevirtual 151, 3) := by decide +kernel
theorem dX8_crash_52 : decode cX8_crash 52 = .ok (.aload_n 0, 1) := by decide +kernel
theorem dX8_crash_53 : decode cX8_crash 53 = .ok (.getfield 72, 3) := by decide +kernel
theorem dX8_crash_56 : decode cX8_crash 56 = .ok (.sipush 1023, 3) := by decide +kernel
theorem dX8_crash_59 : decode cX8_crash 59 = .ok (.invokevirtual 105, 3) := by decide +kernel
theorem dX8_crash_62 : decode cX8_crash 62 = .ok (.aload_n 0, 1) := by decide +kernel
theorem dX8_crash_63 : decode cX8_crash 63 = .ok (.getfield 26, 3) := by decide +kernel
theorem dX8_crash_66 : decode cX8_crash 66 = .ok (.invokevirtual 191, 3) := by decide +kernel
theorem dX8_crash_69 : decode cX8_crash 69 = .ok (.ireturn, 1) := by decide +kernel
theorem dX8_log_0 : decode cX8_log 0 = .ok (.iload_n 1, 1) := by decide +kernel
theorem dX8_log_1 : decode cX8_log 1 = .ok (.tableswitch 60 0 3 #[31, 39, 44, 52], 31) := by decide +kernel
theorem dX8_log_32 : decode cX8_log 32 = .ok (.aload_n 0, 1) := by decide +kernel
theorem dX8_log_33 : decode cX8_log 33 = .ok (.getfield 45, 3) := by decide +kernel
theorem dX8_log_36 : decode cX8_log 36 = .ok (.invokevirtual 140, 3) := by decide +kernel
theorem dX8_log_39 : decode cX8_log 39 = .ok (.ireturn, 1) := by decide +kernel
theorem dX8_log_40 : decode cX8_log 40 = .ok (.aload_n 0, 1) := by decide +kernel
theorem dX8_log_41 : decode cX8_log 41 = .ok (.getfield 76, 3) := by decide +kernel
theorem dX8_log_44 : decode cX8_log 44 = .ok (.ireturn, 1) := by decide +kernel
theorem dX8_log_45 : decode cX8_log 45 = .ok (.aload_n 0, 1) := by decide +kernel
theorem dX8_log_46 : decode cX8_log 46 = .ok (.getfield 41, 3) := by decide +kernel
theorem dX8_log_49 : decode cX8_log 49 = .ok (.invokevirtual 140, 3) := by decide +kernel
theorem dX8_log_52 : decode cX8_log 52 = .ok (.ireturn, 1) := by decide +kernel
theorem dX8_log_53 : decode cX8_log 53 = .ok (.aload_n 0, 1) := by decide +kernel
theorem dX8_log_54 : decode cX8_log 54 = .ok (.getfield 33, 3) := by decide +kernel
theorem dX8_log_57 : decode cX8_log 57 = .ok (.invokevirtual 191, 3) := by decide +kernel
theorem dX8_log_60 : decode cX8_log 60 = .ok (.ireturn, 1) := by decide +kernel
theorem dX8_log_61 : decode cX8_log 61 = .ok (.iconst (-1), 1) := by decide +kernel
theorem dX8_log_62 : decode cX8_log 62 = .ok (.ireturn, 1) := by decide +kernel
theorem dX8_takeDraft_0 : decode cX8_takeDraft 0 = .ok (.aload_n 0, 1) := by decide +kernel
theorem dX8_takeDraft_1 : decode cX8_takeDraft 1 = .ok (.getfield 51, 3) := by decide +kernel
theorem dX8_takeDraft_4 : decode cX8_takeDraft 4 = .ok (.astore_n 1, 1) := by decide +kernel
theorem dX8_takeDraft_5 : decode cX8_takeDraft 5 = .ok (.aload_n 0, 1) := by decide +kernel
theorem dX8_takeDraft_6 : decode cX8_takeDraft 6 = .ok (.aload_n 0, 1) := by decide +kernel
theorem dX8_takeDraft_7 : decode cX8_takeDraft 7 = .ok (.getfield 55, 3) := by decide +kernel
theorem dX8_takeDraft_10 : decode cX8_takeDraft 10 = .ok (.putfield 51, 3) := by decide +kernel
theorem dX8_takeDraft_13 : decode cX8_takeDraft 13 = .ok (.aload_n 0, 1) := by decide +kernel
theorem dX8_takeDraft_14 : decode cX8_takeDraft 14 = .ok (.aload_n 1, 1) := by decide +kernel
theorem dX8_takeDraft_15 : decode cX8_takeDraft 15 = .ok (.putfield 55, 3) := by decide +kernel
theorem dX8_takeDraft_18 : decode cX8_takeDraft 18 = .ok (.aload_n 0, 1) := by decide +kernel
theorem dX8_takeDraft_19 : decode cX8_takeDraft 19 = .ok (.getfield 51, 3) := by decide +kernel
theorem dX8_takeDraft_22 : decode cX8_takeDraft 22 = .ok (.invokevirtual 194, 3) := by decide +kernel
theorem dX8_takeDraft_25 : decode cX8_takeDraft 25 = .ok (.aload_n 0, 1) := by decide +kernel
theorem dX8_takeDraft_26 : decode cX8_takeDraft 26 = .ok (.getfield 72, 3) := by decide +kernel
theorem dX8_takeDraft_29 : decode cX8_takeDraft 29 = .ok (.aload_n 0, 1) := by decide +kernel
theorem dX8_takeDraft_30 : decode cX8_takeDraft 30 = .ok (.getfield 51, 3) := by decide +kernel
theorem dX8_takeDraft_33 : decode cX8_takeDraft 33 = .ok (.invokevirtual 197, 3) := by decide +kernel
theorem dX8_takeDraft_36 : decode cX8_takeDraft 36 = .ok (.aload_n 0, 1) := by decide +kernel
theorem dX8_takeDraft_37 : decode cX8_takeDraft 37 = .ok (.getfield 26, 3) := by decide +kernel
theorem dX8_takeDraft_40 : decode cX8_takeDraft 40 = .ok (.invokevirtual 201, 3) := by decide +kernel
theorem dX8_takeDraft_43 : decode cX8_takeDraft 43 = .ok (.aload_n 0, 1) := by decide +kernel
theorem dX8_takeDraft_44 : decode cX8_takeDraft 44 = .ok (.getfield 33, 3) := by decide +kernel
theorem dX8_takeDraft_47 : decode cX8_takeDraft 47 = .ok (.invokevirtual 201, 3) := by decide +kernel
theorem dX8_takeDraft_50 : decode cX8_takeDraft 50 = .ok (.aload_n 0, 1) := by decide +kernel
theorem dX8_takeDraft_51 : decode cX8_takeDraft 51 = .ok (.getfield 41, 3) := by decide +kernel
theorem dX8_takeDraft_54 : decode cX8_takeDraft 54 = .ok (.iconst 0, 1) := by decide +kernel
theorem dX8_takeDraft_55 : decode cX8_takeDraft 55 = .ok (.invokevirtual 151, 3) := by decide +kernel
theorem dX8_takeDraft_58 : decode cX8_takeDraft 58 = .ok (.aload_n 0, 1) := by decide +kernel
theorem dX8_takeDraft_59 : decode cX8_takeDraft 59 = .ok (.getfield 45, 3) := by decide +kernel
theorem dX8_takeDraft_62 : decode cX8_takeDraft 62 = .ok (.iconst 0, 1) := by decide +kernel
theorem dX8_takeDraft_63 : decode cX8_takeDraft 63 = .ok (.invokevirtual 151, 3) := by decide +kernel
theorem dX8_takeDraft_66 : decode cX8_takeDraft 66 = .ok (.aload_n 0, 1) := by decide +kernel
theorem dX8_takeDraft_67 : decode cX8_takeDraft 67 = .ok (.iconst 0, 1) := by decide +kernel
theorem dX8_takeDraft_68 : decode cX8_takeDraft 68 = .ok (.putfield 76, 3) := by decide +kernel
theorem dX8_takeDraft_71 : decode cX8_takeDraft 71 = .ok (.return_, 1) := by decide +kernel
theorem dX8_stage_0 : decode cX8_stage 0 = .ok (.iload_n 3, 1) := by decide +kernel
theorem dX8_stage_1 : decode cX8_stage 1 = .ok (.iconst (-1), 1) := by decide +kernel
theorem dX8_stage_2 : decode cX8_stage 2 = .ok (.if_icmp .eq 32, 3) := by decide +kernel
theorem dX8_stage_5 : decode cX8_stage 5 = .ok (.aload_n 0, 1) := by decide +kernel
theorem dX8_stage_6 : decode cX8_stage 6 = .ok (.getfield 51, 3) := by decide +kernel
theorem dX8_stage_9 : decode cX8_stage 9 = .ok (.iload_n 2, 1) := by decide +kernel
theorem dX8_stage_10 : decode cX8_stage 10 = .ok (.invokevirtual 169, 3) := by decide +kernel
theorem dX8_stage_13 : decode cX8_stage 13 = .ok (.iconst 1, 1) := by decide +kernel
theorem dX8_stage_14 : decode cX8_stage 14 = .ok (.if_icmp .ne 20, 3) := by decide +kernel
theorem dX8_stage_17 : decode cX8_stage 17 = .ok (.aload_n 0, 1) := by decide +kernel
theorem dX8_stage_18 : decode cX8_stage 18 = .ok (.getfield 41, 3) := by decide +kernel
theorem dX8_stage_21 : decode cX8_stage 21 = .ok (.iload_n 1, 1) := by decide +kernel
theorem dX8_stage_22 : decode cX8_stage 22 = .ok (.iload_n 2, 1) := by decide +kernel
theorem dX8_stage_23 : decode cX8_stage 23 = .ok (.iload_n 3, 1) := by decide +kernel
theorem dX8_stage_24 : decode cX8_stage 24 = .ok (.invokevirtual 202, 3) := by decide +kernel
theorem dX8_stage_27 : decode cX8_stage 27 = .ok (.ifCond .eq 7, 3) := by decide +kernel
theorem dX8_stage_30 : decode cX8_stage 30 = .ok (.iconst 1, 1) := by decide +kernel
theorem dX8_stage_31 : decode cX8_stage 31 = .ok (.goto 4, 3) := by decide +kernel
theorem dX8_stage_34 : decode cX8_stage 34 = .ok (.iconst 0, 1) := by decide +kernel
theorem dX8_stage_35 : decode cX8_stage 35 = .ok (.ireturn, 1) := by decide +kernel
theorem dX8_countChanges_0 : decode cX8_countChanges 0 = .ok (.iconst 0, 1) := by decide +kernel
theorem dX8_countChanges_1 : decode cX8_countChanges 1 = .ok (.istore_n 1, 1) := by decide +kernel
theorem dX8_countChanges_2 : decode cX8_countChanges 2 = .ok (.iconst 0, 1) := by decide +kernel
theorem dX8_countChanges_3 : decode cX8_countChanges 3 = .ok (.istore_n 2, 1) := by decide +kernel
theorem dX8_countChanges_4 : decode cX8_countChanges 4 = .ok (.iload_n 2, 1) := by decide +kernel
theorem dX8_countChanges_5 : decode cX8_countChanges 5 = .ok (.bipush 10, 2) := by decide +kernel
theorem dX8_countChanges_7 : decode cX8_countChanges 7 = .ok (.if_icmp .ge 24, 3) := by decide +kernel
theorem dX8_countChanges_10 : decode cX8_countChanges 10 = .ok (.iload_n 1, 1) := by decide +kernel
theorem dX8_countChanges_11 : decode cX8_countChanges 11 = .ok (.aload_n 0, 1) := by decide +kernel
theorem dX8_countChanges_12 : decode cX8_countChanges 12 = .ok (.getfield 26, 3) := by decide +kernel
theorem dX8_countChanges_15 : decode cX8_countChanges 15 = .ok (.aload_n 0, 1) := by decide +kernel
theorem dX8_countChanges_16 : decode cX8_countChanges 16 = .ok (.getfield 30, 3) := by decide +kernel
theorem dX8_countChanges_19 : decode cX8_countChanges 19 = .ok (.iload_n 2, 1) := by decide +kernel
theorem dX8_countChanges_20 : decode cX8_countChanges 20 = .ok (.invokevirtual 175, 3) := by decide +kernel
theorem dX8_countChanges_23 : decode cX8_countChanges 23 = .ok (.iadd, 1) := by decide +kernel
theorem dX8_countChanges_24 : decode cX8_countChanges 24 = .ok (.istore_n 1, 1) := by decide +kernel
theorem dX8_countChanges_25 : decode cX8_countChanges 25 = .ok (.iinc 2 1, 3) := by decide +kernel
theorem dX8_countChanges_28 : decode cX8_countChanges 28 = .ok (.goto (-24), 3) := by decide +kernel
theorem dX8_countChanges_31 : decode cX8_countChanges 31 = .ok (.iload_n 1, 1) := by decide +kernel
theorem dX8_countChanges_32 : decode cX8_countChanges 32 = .ok (.ireturn, 1) := by decide +kernel
theorem dX8_describeChange_0 : decode cX8_describeChange 0 = .ok (.iload_n 3, 1) := by decide +kernel
theorem dX8_describeChange_1 : decode cX8_describeChange 1 = .ok (.tableswitch 49 0 2 #[27, 29, 31], 27) := by decide +kernel
theorem dX8_describeChange_28 : decode cX8_describeChange 28 = .ok (.iload_n 1, 1) := by decide +kernel
theorem dX8_describeChange_29 : decode cX8_describeChange 29 = .ok (.ireturn, 1) := by decide +kernel
theorem dX8_describeChange_30 : decode cX8_describeChange 30 = .ok (.iload_n 2, 1) := by decide +kernel
theorem dX8_describeChange_31 : decode cX8_describeChange 31 = .ok (.ireturn, 1) := by decide +kernel
theorem dX8_describeChange_32 : decode cX8_describeChange 32 = .ok (.aload_n 0, 1) := by decide +kernel
theorem dX8_describeChange_33 : decode cX8_describeChange 33 = .ok (.getfield 26, 3) := by decide +kernel
theorem dX8_describeChange_36 : decode cX8_describeChange 36 = .ok (.iload_n 1, 1) := by decide +kernel
theorem dX8_describeChange_37 : decode cX8_describeChange 37 = .ok (.iload_n 2, 1) := by decide +kernel
theorem dX8_describeChange_38 : decode cX8_describeChange 38 = .ok (.invokevirtual 161, 3) := by decide +kernel
theorem dX8_describeChange_41 : decode cX8_describeChange 41 = .ok (.ifCond .eq 7, 3) := by decide +kernel
theorem dX8_describeChange_44 : decode cX8_describeChange 44 = .ok (.iconst 1, 1) := by decide +kernel
theorem dX8_describeChange_45 : decode cX8_describeChange 45 = .ok (.goto 4, 3) := by decide +kernel
theorem dX8_describeChange_48 : decode cX8_describeChange 48 = .ok (.iconst 0, 1) := by decide +kernel
theorem dX8_describeChange_49 : decode cX8_describeChange 49 = .ok (.ireturn, 1) := by decide +kernel
theorem dX8_describeChange_50 : decode cX8_describeChange 50 = .ok (.iconst (-1), 1) := by decide +kernel
theorem dX8_describeChange_51 : decode cX8_describeChange 51 = .ok (.ireturn, 1) := by decide +kernel
