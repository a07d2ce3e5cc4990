theorem dX2_init_0 : decode cX2_init 0 = .ok (.aload_n 0, 1) := by decide +kernel
theorem dX2_init_1 : decode cX2_init 1 = .ok (.invokespecial 3, 3) := by decide +kernel
theorem dX2_init_4 : decode cX2_init 4 = .ok (.aload_n 0, 1) := by decide +kernel
theorem dX2_init_5 : decode cX2_init 5 = .ok (.iconst 0, 1) := by decide +kernel
theorem dX2_init_6 : decode cX2_init 6 = .ok (.putfield 9, 3) := by decide +kernel
theorem dX2_init_9 : decode cX2_init 9 = .ok (.aload_n 0, 1) := by decide +kernel
theorem dX2_init_10 : decode cX2_init 10 = .ok (.iconst 0, 1) := by decide +kernel
theorem dX2_init_11 : decode cX2_init 11 = .ok (.putfield 15, 3) := by decide +kernel
theorem dX2_init_14 : decode cX2_init 14 = .ok (.return_, 1) := by decide +kernel
theorem dX2_found_0 : decode cX2_found 0 = .ok (.aload_n 0, 1) := by decide +kernel
theorem dX2_found_1 : decode cX2_found 1 = .ok (.getfield 9, 3) := by decide +kernel
theorem dX2_found_4 : decode cX2_found 4 = .ok (.ireturn, 1) := by decide +kernel
theorem dX2_place_0 : decode cX2_place 0 = .ok (.aload_n 0, 1) := by decide +kernel
theorem dX2_place_1 : decode cX2_place 1 = .ok (.getfield 15, 3) := by decide +kernel
theorem dX2_place_4 : decode cX2_place 4 = .ok (.ireturn, 1) := by decide +kernel
theorem dX2_inspect_0 : decode cX2_inspect 0 = .ok (.aload_n 0, 1) := by decide +kernel
theorem dX2_inspect_1 : decode cX2_inspect 1 = .ok (.iconst 0, 1) := by decide +kernel
theorem dX2_inspect_2 : decode cX2_inspect 2 = .ok (.putfield 9, 3) := by decide +kernel
theorem dX2_inspect_5 : decode cX2_inspect 5 = .ok (.aload_n 0, 1) := by decide +kernel
theorem dX2_inspect_6 : decode cX2_inspect 6 = .ok (.iconst 0, 1) := by decide +kernel
theorem dX2_inspect_7 : decode cX2_inspect 7 = .ok (.putfield 15, 3) := by decide +kernel
theorem dX2_inspect_10 : decode cX2_inspect 10 = .ok (.iload_n 2, 1) := by decide +kernel
theorem dX2_inspect_11 : decode cX2_inspect 11 = .ok (.iconst (-1), 1) := by decide +kernel
theorem dX2_inspect_12 : decode cX2_inspect 12 = .ok (.if_icmp .eq 14, 3) := by decide +kernel
theorem dX2_inspect_15 : decode cX2_inspect 15 = .ok (.aload_n 0, 1) := by decide +kernel
theorem dX2_inspect_16 : decode cX2_inspect 16 = .ok (.iconst 1, 1) := by decide +kernel
theorem dX2_inspect_17 : decode cX2_inspect 17 = .ok (.putfield 9, 3) := by decide +kernel
theorem dX2_inspect_20 : decode cX2_inspect 20 = .ok (.aload_n 0, 1) := by decide +kernel
theorem dX2_inspect_21 : decode cX2_inspect 21 = .ok (.iload_n 2, 1) := by decide +kernel
theorem dX2_inspect_22 : decode cX2_inspect 22 = .ok (.putfield 15, 3) := by decide +kernel
theorem dX2_inspect_25 : decode cX2_inspect 25 = .ok (.return_, 1) := by decide +kernel
theorem dX2_inspect_26 : decode cX2_inspect 26 = .ok (.aload_n 1, 1) := by decide +kernel
theorem dX2_inspect_27 : decode cX2_inspect 27 = .ok (.invokevirtual 18, 3) := by decide +kernel
theorem dX2_inspect_30 : decode cX2_inspect 30 = .ok (.iconst 2, 1) := by decide +kernel
theorem dX2_inspect_31 : decode cX2_inspect 31 = .ok (.istore_n 3, 1) := by decide +kernel
theorem dX2_inspect_32 : decode cX2_inspect 32 = .ok (.iload_n 3, 1) := by decide +kernel
theorem dX2_inspect_33 : decode cX2_inspect 33 = .ok (.iconst 5, 1) := by decide +kernel
theorem dX2_inspect_34 : decode cX2_inspect 34 = .ok (.if_icmp .gt 45, 3) := by decide +kernel
theorem dX2_inspect_37 : decode cX2_inspect 37 = .ok (.aload_n 0, 1) := by decide +kernel
theorem dX2_inspect_38 : decode cX2_inspect 38 = .ok (.getfield 9, 3) := by decide +kernel
theorem dX2_inspect_41 : decode cX2_inspect 41 = .ok (.ifCond .ne 38, 3) := by decide +kernel
theorem dX2_inspect_44 : decode cX2_inspect 44 = .ok (.iload_n 3, 1) := by decide +kernel
theorem dX2_inspect_45 : decode cX2_inspect 45 = .ok (.aload_n 1, 1) := by decide +kernel
theorem dX2_inspect_46 : decode cX2_inspect 46 = .ok (.invokestatic 23, 3) := by decide +kernel
theorem dX2_inspect_49 : decode cX2_inspect 49 = .ok (.istore 4, 2) := by decide +kernel
theorem dX2_inspect_51 : decode cX2_inspect 51 = .ok (.iload 4, 2) := by decide +kernel
theorem dX2_inspect_53 : decode cX2_inspect 53 = .ok (.iconst (-1), 1) := by decide +kernel
theorem dX2_inspect_54 : decode cX2_inspect 54 = .ok (.if_icmp .eq 19, 3) := by decide +kernel
theorem dX2_inspect_57 : decode cX2_inspect 57 = .ok (.aload_n 0, 1) := by decide +kernel
theorem dX2_inspect_58 : decode cX2_inspect 58 = .ok (.iload_n 3, 1) := by decide +kernel
theorem dX2_inspect_59 : decode cX2_inspect 59 = .ok (.putfield 9, 3) := by decide +kernel
theorem dX2_inspect_62 : decode cX2_inspect 62 = .ok (.aload_n 0, 1) := by decide +kernel
theorem dX2_inspect_63 : decode cX2_inspect 63 = .ok (.aload_n 1, 1) := by decide +kernel
theorem dX2_inspect_64 : decode cX2_inspect 64 = .ok (.getfield 27, 3) := by decide +kernel
theorem dX2_inspect_67 : decode cX2_inspect 67 = .ok (.iload 4, 2) := by decide +kernel
theorem dX2_inspect_69 : decode cX2_inspect 69 = .ok (.iaload, 1) := by decide +kernel
theorem dX2_inspect_70 : decode cX2_inspect 70 = .ok (.putfield 15, 3) := by decide +kernel
theorem dX2_inspect_73 : decode cX2_inspect 73 = .ok (.iinc 3 1, 3) := by decide +kernel
theorem dX2_inspect_76 : decode cX2_inspect 76 = .ok (.goto (-44), 3) := by decide +kernel
theorem dX2_inspect_79 : decode cX2_inspect 79 = .ok (.return_, 1) := by decide +kernel
theorem dX2_findFirst_0 : decode cX2_findFirst 0 = .ok (.iconst 0, 1) := by decide +kernel
theorem dX2_findFirst_1 : decode cX2_findFirst 1 = .ok (.istore_n 2, 1) := by decide +kernel
theorem dX2_findFirst_2 : decode cX2_findFirst 2 = .ok (.iload_n 2, 1) := by decide +kernel
theorem dX2_findFirst_3 : decode cX2_findFirst 3 = .ok (.aload_n 1, 1) := by decide +kernel
theorem dX2_findFirst_4 : decode cX2_findFirst 4 = .ok (.getfield 30, 3) := by decide +kernel
theorem dX2_findFirst_7 : decode cX2_findFirst 7 = .ok (.if_icmp .ge 23, 3) := by decide +kernel
theorem dX2_findFirst_10 : decode cX2_findFirst 10 = .ok (.iload_n 0, 1) := by decide +kernel
theorem dX2_findFirst_11 : decode cX2_findFirst 11 = .ok (.aload_n 1, 1) := by decide +kernel
theorem dX2_findFirst_12 : decode cX2_findFirst 12 = .ok (.iload_n 2, 1) := by decide +kernel
theorem dX2_findFirst_13 : decode cX2_findFirst 13 = .ok (.invokestatic 33, 3) := by decide +kernel
theorem dX2_findFirst_16 : decode cX2_findFirst 16 = .ok (.istore_n 3, 1) := by decide +kernel
theorem dX2_findFirst_17 : decode cX2_findFirst 17 = .ok (.iload_n 3, 1) := by decide +kernel
theorem dX2_findFirst_18 : decode cX2_findFirst 18 = .ok (.iconst (-1), 1) := by decide +kernel
theorem dX2_findFirst_19 : decode cX2_findFirst 19 = .ok (.if_icmp .eq 5, 3) := by decide +kernel
theorem dX2_findFirst_22 : decode cX2_findFirst 22 = .ok (.iload_n 3, 1) := by decide +kernel
theorem dX2_findFirst_23 : decode cX2_findFirst 23 = .ok (.ireturn, 1) := by decide +kernel
theorem dX2_findFirst_24 : decode cX2_findFirst 24 = .ok (.iinc 2 1, 3) := by decide +kernel
theorem dX2_findFirst_27 : decode cX2_findFirst 27 = .ok (.goto (-25), 3) := by decide +kernel
theorem dX2_findFirst_30 : decode cX2_findFirst 30 = .ok (.iconst (-1), 1) := by decide +kernel
theorem dX2_findFirst_31 : decode cX2_findFirst 31 = .ok (.ireturn, 1) := by decide +kernel
theorem dX2_findInRule_0 : decode cX2_findInRule 0 = .ok (.aload_n 1, 1) := by decide +kernel
theorem dX2_findInRule_1 : decode cX2_findInRule 1 = .ok (.getfield 37, 3) := by decide +kernel
theorem dX2_findInRule_4 : decode cX2_findInRule 4 = .ok (.iload_n 2, 1) := by decide +kernel
theorem dX2_findInRule_5 : decode cX2_findInRule 5 = .ok (.iaload, 1) := by decide +kernel
theorem dX2_findInRule_6 : decode cX2_findInRule 6 = .ok (.istore_n 3, 1) := by decide +kernel
theorem dX2_findInRule_7 : decode cX2_findInRule 7 = .ok (.iload_n 0, 1) := by decide +kernel
theorem dX2_findInRule_8 : decode cX2_findInRule 8 = .ok (.tableswitch 62 2 4 #[28, 34, 48], 28) := by decide +kernel
theorem dX2_findInRule_36 : decode cX2_findInRule 36 = .ok (.aload_n 1, 1) := by decide +kernel
theorem dX2_findInRule_37 : decode cX2_findInRule 37 = .ok (.iload_n 2, 1) := by decide +kernel
theorem dX2_findInRule_38 : decode cX2_findInRule 38 = .ok (.invokestatic 40, 3) := by decide +kernel
theorem dX2_findInRule_41 : decode cX2_findInRule 41 = .ok (.ireturn, 1) := by decide +kernel
theorem dX2_findInRule_42 : decode cX2_findInRule 42 = .ok (.aload_n 1, 1) := by decide +kernel
theorem dX2_findInRule_43 : decode cX2_findInRule 43 = .ok (.iload_n 2, 1) := by decide +kernel
theorem dX2_findInRule_44 : decode cX2_findInRule 44 = .ok (.invokestatic 44, 3) := by decide +kernel
theorem dX2_findInRule_47 : decode cX2_findInRule 47 = .ok (.ifCond .eq 7, 3) := by decide +kernel
theorem dX2_findInRule_50 : decode cX2_findInRule 50 = .ok (.iload_n 3, 1) := by decide +kernel
theorem dX2_findInRule_51 : decode cX2_findInRule 51 = .ok (.goto 4, 3) := by decide +kernel
theorem dX2_findInRule_54 : decode cX2_findInRule 54 = .ok (.iconst (-1), 1) := by decide +kernel
theorem dX2_findInRule_55 : decode cX2_findInRule 55 = .ok (.ireturn, 1) := by decide +kernel
theorem dX2_findInRule_56 : decode cX2_findInRule 56 = .ok (.aload_n 1, 1) := by decide +kernel
theorem dX2_findInRule_57 : decode cX2_findInRule 57 = .ok (.iload_n 2, 1) := by decide +kernel
theorem dX2_findInRule_58 : decode cX2_findInRule 58 = .ok (.invokestatic 48, 3) := by decide +kernel
theorem dX2_findInRule_61 : decode cX2_findInRule 61 = .ok (.ifCond .eq 7, 3) := by decide +kernel
theorem dX2_findInRule_64 : decode cX2_findInRule 64 = .ok (.iload_n 3, 1) := by decide +kernel
theorem dX2_findInRule_65 : decode cX2_findInRule 65 = .ok (.goto 4, 3) := by decide +kernel
theorem dX2_findInRule_68 : decode cX2_findInRule 68 = .ok (.iconst (-1), 1) := by decide +kernel
theorem dX2_findInRule_69 : decode cX2_findInRule 69 = .ok (.ireturn, 1) := by decide +kernel
theorem dX2_findInRule_70 : decode cX2_findInRule 70 = .ok (.aload_n 1, 1) := by decide +kernel
theorem dX2_findInRule_71 : decode cX2_findInRule 71 = .ok (.iload_n 2, 1) := by decide +kernel
theorem dX2_findInRule_72 : decode cX2_findInRule 72 = .ok (.invokestatic 51, 3) := by decide +kernel
theorem dX2_findInRule_75 : decode cX2_findInRule 75 = .ok (.ireturn, 1) := by decide +kernel
theorem dX2_findOtherArity_0 : decode cX2_findOtherArity 0 = .ok (.aload_n 0, 1) := by decide +kernel
theorem dX2_findOtherArity_1 : decode cX2_findOtherArity 1 = .ok (.getfield 37, 3) := by decide +kernel
theorem dX2_findOtherArity_4 : decode cX2_findOtherArity 4 = .ok (.iload_n 1, 1) := by decide +kernel
theorem dX2_findOtherArity_5 : decode cX2_findOtherArity 5 = .ok (.iaload, 1) := by decide +kernel
theorem dX2_findOtherArity_6 : decode cX2_findOtherArity 6 = .ok (.istore_n 2, 1) := by decide +kernel
theorem dX2_findOtherArity_7 : decode cX2_findOtherArity 7 = .ok (.iload_n 2, 1) := by decide +kernel
theorem dX2_findOtherArity_8 : decode cX2_findOtherArity 8 = .ok (.aload_n 0, 1) := by decide +kernel
theorem dX2_findOtherArity_9 : decode cX2_findOtherArity 9 = .ok (.getfield 37, 3) := by decide +kernel
theorem dX2_findOtherArity_12 : decode cX2_findOtherArity 12 = .ok (.iload_n 1, 1) := by decide +kernel
theorem dX2_findOtherArity_13 : decode cX2_findOtherArity 13 = .ok (.iconst 1, 1) := by decide +kernel
theorem dX2_findOtherArity_14 : decode cX2_findOtherArity 14 = .ok (.iadd, 1) := by decide +kernel
theorem dX2_findOtherArity_15 : decode cX2_findOtherArity 15 = .ok (.iaload, 1) := by decide +kernel
theorem dX2_findOtherArity_16 : decode cX2_findOtherArity 16 = .ok (.if_icmp .ge 39, 3) := by decide +kernel
theorem dX2_findOtherArity_19 : decode cX2_findOtherArity 19 = .ok (.aload_n 0, 1) := by decide +kernel
theorem dX2_findOtherArity_20 : decode cX2_findOtherArity 20 = .ok (.iload_n 2, 1) := by decide +kernel
theorem dX2_findOtherArity_21 : decode cX2_findOtherArity 21 = .ok (.invokevirtual 54, 3) := by decide +kernel
theorem dX2_findOtherArity_24 : decode cX2_findOtherArity 24 = .ok (.ifCond .eq 25, 3) := by decide +kernel
theorem dX2_findOtherArity_27 : decode cX2_findOtherArity 27 = .ok (.aload_n 0, 1) := by decide +kernel
theorem dX2_findOtherArity_28 : decode cX2_findOtherArity 28 = .ok (.getfield 58, 3) := by decide +kernel
theorem dX2_findOtherArity_31 : decode cX2_findOtherArity 31 = .ok (.iload_n 2, 1) := by decide +kernel
theorem dX2_findOtherArity_32 : decode cX2_findOtherArity 32 = .ok (.iaload, 1) := by decide +kernel
theorem dX2_findOtherArity_33 : decode cX2_findOtherArity 33 = .ok (.aload_n 0, 1) := by decide +kernel
theorem dX2_findOtherArity_34 : decode cX2_findOtherArity 34 = .ok (.getfield 61, 3) := by decide +kernel
theorem dX2_findOtherArity_37 : decode cX2_findOtherArity 37 = .ok (.aload_n 0, 1) := by decide +kernel
theorem dX2_findOtherArity_38 : decode cX2_findOtherArity 38 = .ok (.getfield 64, 3) := by decide +kernel
theorem dX2_findOtherArity_41 : decode cX2_findOtherArity 41 = .ok (.iload_n 2, 1) := by decide +kernel
theorem dX2_findOtherArity_42 : decode cX2_findOtherArity 42 = .ok (.iaload, 1) := by decide +kernel
theorem dX2_findOtherArity_43 : decode cX2_findOtherArity 43 = .ok (.iaload, 1) := by decide +kernel
theorem dX2_findOtherArity_44 : decode cX2_findOtherArity 44 = .ok (.if_icmp .eq 5, 3) := by decide +kernel
theorem dX2_findOtherArity_47 : decode cX2_findOtherArity 47 = .ok (.iload_n 2, 1) := by decide +kernel
theorem dX2_findOtherArity_48 : decode cX2_findOtherArity 48 = .ok (.ireturn, 1) := by decide +kernel
theorem dX2_findOtherArity_49 : decode cX2_findOtherArity 49 = .ok (.iinc 2 1, 3) := by decide +kernel
theorem dX2_findOtherArity_52 : decode cX2_findOtherArity 52 = .ok (.goto (-45), 3) := by decide +kernel
theorem dX2_findOtherArity_55 : decode cX2_findOtherArity 55 = .ok (.iconst (-1), 1) := by decide +kernel
theorem dX2_findOtherArity_56 : decode cX2_findOtherArity 56 = .ok (.ireturn, 1) := by decide +kernel
theorem dX2_isTooLarge_0 : decode cX2_isTooLarge 0 = .ok (.iconst 0, 1) := by decide +kernel
theorem dX2_isTooLarge_1 : decode cX2_isTooLarge 1 = .ok (.istore_n 2, 1) := by decide +kernel
theorem dX2_isTooLarge_2 : decode cX2_isTooLarge 2 = .ok (.aload_n 0, 1) := by decide +kernel
theorem dX2_isTooLarge_3 : decode cX2_isTooLarge 3 = .ok (.getfield 37, 3) := by decide +kernel
theorem dX2_isTooLarge_6 : decode cX2_isTooLarge 6 = .ok (.iload_n 1, 1) := by decide +kernel
theorem dX2_isTooLarge_7 : decode cX2_isTooLarge 7 = .ok (.iaload, 1) := by decide +kernel
theorem dX2_isTooLarge_8 : decode cX2_isTooLarge 8 = .ok (.istore_n 3, 1) := by decide +kernel
theorem dX2_isTooLarge_9 : decode cX2_isTooLarge 9 = .ok (.iload_n 3, 1) := by decide +kernel
theorem dX2_isTooLarge_10 : decode cX2_isTooLarge 10 = .ok (.aload_n 0, 1) := by decide +kernel
theorem dX2_isTooLarge_11 : decode cX2_isTooLarge 11 = .ok (.getfield 37, 3) := by decide +kernel
theorem dX2_isTooLarge_14 : decode cX2_isTooLarge 14 = .ok (.iload_n 1, 1) := by decide +kernel
theorem dX2_isTooLarge_15 : decode cX2_isTooLarge 15 = .ok (.iconst 1, 1) := by decide +kernel
theorem dX2_isTooLarge_16 : decode cX2_isTooLarge 16 = .ok (.iadd, 1) := by decide +kernel
theorem dX2_isTooLarge_17 : decode cX2_isTooLarge 17 = .ok (.iaload, 1) := by decide +kernel
theorem dX2_isTooLarge_18 : decode cX2_isTooLarge 18 = .ok (.if_icmp .ge 17, 3) := by decide +kernel
theorem dX2_isTooLarge_21 : decode cX2_isTooLarge 21 = .ok (.iload_n 2, 1) := by decide +kernel
theorem dX2_isTooLarge_22 : decode cX2_isTooLarge 22 = .ok (.aload_n 0, 1) := by decide +kernel
theorem dX2_isTooLarge_23 : decode cX2_isTooLarge 23 = .ok (.iload_n 3, 1) := by decide +kernel
theorem dX2_isTooLarge_24 : decode cX2_isTooLarge 24 = .ok (.invokevirtual 67, 3) := by decide +kernel
theorem dX2_isTooLarge_27 : decode cX2_isTooLarge 27 = .ok (.ior, 1) := by decide +kernel
theorem dX2_isTooLarge_28 : decode cX2_isTooLarge 28 = .ok (.istore_n 2, 1) := by decide +kernel
theorem dX2_isTooLarge_29 : decode cX2_isTooLarge 29 = .ok (.iinc 3 1, 3) := by decide +kernel
theorem dX2_isTooLarge_32 : decode cX2_isTooLarge 32 = .ok (.goto (-23), 3) := by decide +kernel
theorem dX2_isTooLarge_35 : decode cX2_isTooLarge 35 = .ok (.aload_n 0, 1) := by decide +kernel
theorem dX2_isTooLarge_36 : decode cX2_isTooLarge 36 = .ok (.getfield 37, 3) := by decide +kernel
theorem dX2_isTooLarge_39 : decode cX2_isTooLarge 39 = .ok (.iload_n 1, 1) := by decide +kernel
theorem dX2_isTooLarge_40 : decode cX2_isTooLarge 40 = .ok (.iconst 1, 1) := by decide +kernel
theorem dX2_isTooLarge_41 : decode cX2_isTooLarge 41 = .ok (.iadd, 1) := by decide +kernel
theorem dX2_isTooLarge_42 : decode cX2_isTooLarge 42 = .ok (.iaload, 1) := by decide +kernel
theorem dX2_isTooLarge_43 : decode cX2_isTooLarge 43 = .ok (.aload_n 0, 1) := by decide +kernel
theorem dX2_isTooLarge_44 : decode cX2_isTooLarge 44 = .ok (.getfield 37, 3) := by decide +kernel
theorem dX2_isTooLarge_47 : decode cX2_isTooLarge 47 = .ok (.iload_n 1, 1) := by decide +kernel
theorem dX2_isTooLarge_48 : decode cX2_isTooLarge 48 = .ok (.iaload, 1) := by decide +kernel
theorem dX2_isTooLarge_49 : decode cX2_isTooLarge 49 = .ok (.isub, 1) := by decide +kernel
theorem dX2_isTooLarge_50 : decode cX2_isTooLarge 50 = .ok (.iconst 1, 1) := by decide +kernel
theorem dX2_isTooLarge_51 : decode cX2_isTooLarge 51 = .ok (.isub, 1) := by decide +kernel
theorem dX2_isTooLarge_52 : decode cX2_isTooLarge 52 = .ok (.istore_n 3, 1) := by decide +kernel
theorem dX2_isTooLarge_53 : decode cX2_isTooLarge 53 = .ok (.iload_n 1, 1) := by decide +kernel
theorem dX2_isTooLarge_54 : decode cX2_isTooLarge 54 = .ok (.bipush 16, 2) := by decide +kernel
theorem dX2_isTooLarge_56 : decode cX2_isTooLarge 56 = .ok (.if_icmp .ge 16, 3) := by decide +kernel
theorem dX2_isTooLarge_59 : decode cX2_isTooLarge 59 = .ok (.iload_n 3, 1) := by decide +kernel
theorem dX2_isTooLarge_60 : decode cX2_isTooLarge 60 = .ok (.iconst 5, 1) := by decide +kernel
theorem dX2_isTooLarge_61 : decode cX2_isTooLarge 61 = .ok (.if_icmp .gt 11, 3) := by decide +kernel
theorem dX2_isTooLarge_64 : decode cX2_isTooLarge 64 = .ok (.iload_n 2, 1) := by decide +kernel
theorem dX2_isTooLarge_65 : decode cX2_isTooLarge 65 = .ok (.invokestatic 71, 3) := by decide +kernel
theorem dX2_isTooLarge_68 : decode cX2_isTooLarge 68 = .ok (.iconst 4, 1) := by decide +kernel
theorem dX2_isTooLarge_69 : decode cX2_isTooLarge 69 = .ok (.if_icmp .le 7, 3) := by decide +kernel
theorem dX2_isTooLarge_72 : decode cX2_isTooLarge 72 = .ok (.iconst 1, 1) := by decide +kernel
theorem dX2_isTooLarge_73 : decode cX2_isTooLarge 73 = .ok (.goto 4, 3) := by decide +kernel
theorem dX2_isTooLarge_76 : decode cX2_isTooLarge 76 = .ok (.iconst 0, 1) := by decide +kernel
theorem dX2_isTooLarge_77 : decode cX2_isTooLarge 77 = .ok (.ireturn, 1) := by decide +kernel
theorem dX2_hasUnboundVariable_0 : decode cX2_hasUnboundVariable 0 = .ok (.iconst 0, 1) := by decide +kernel
theorem dX2_hasUnboundVariable_1 : decode cX2_hasUnboundVariable 1 = .ok (.istore_n 2, 1) := by decide +kernel
theorem dX2_hasUnboundVariable_2 : decode cX2_hasUnboundVariable 2 = .ok (.iconst 0, 1) := by decide +kernel
theorem dX2_hasUnboundVariable_3 : decode cX2_hasUnboundVariable 3 = .ok (.istore_n 3, 1) := by decide +kernel
theorem dX2_hasUnboundVariable_4 : decode cX2_hasUnboundVariable 4 = .ok (.aload_n 0, 1) := by decide +kernel
theorem dX2_hasUnboundVariable_5 : decode cX2_hasUnboundVariable 5 = .ok (.getfield 37, 3) := by decide +kernel
theorem dX2_hasUnboundVariable_8 : decode cX2_hasUnboundVariable 8 = .ok (.iload_n 1, 1) := by decide +kernel
theorem dX2_hasUnboundVariable_9 : decode cX2_hasUnboundVariable 9 = .ok (.iaload, 1) := by decide +kernel
theorem dX2_hasUnboundVariable_10 : decode cX2_hasUnboundVariable 10 = .ok (.istore 4, 2) := by decide +kernel
theorem dX2_hasUnboundVariable_12 : decode cX2_hasUnboundVariable 12 = .ok (.iload 4, 2) := by decide +kernel
theorem dX2_hasUnboundVariable_14 : decode cX2_hasUnboundVariable 14 = .ok (.aload_n 0, 1) := by decide +kernel
theorem dX2_hasUnboundVariable_15 : decode cX2_hasUnboundVariable 15 = .ok (.getfield 37, 3) := by decide +kernel
theorem dX2_hasUnboundVariable_18 : decode cX2_hasUnboundVariable 18 = .ok (.iload_n 1, 1) := by decide +kernel
theorem dX2_hasUnboundVariable_19 : decode cX2_hasUnboundVariable 19 = .ok (.iconst 1, 1) := by decide +kernel
theorem dX2_hasUnboundVariable_20 : decode cX2_hasUnboundVariable 20 = .ok (.iadd, 1) := by decide +kernel
theorem dX2_hasUnboundVariable_21 : decode cX2_hasUnboundVariable 21 = .ok (.iaload, 1) := by decide +kernel
theorem dX2_hasUnboundVariable_22 : decode cX2_hasUnboundVariable 22 = .ok (.if_icmp .ge 41, 3) := by decide +kernel
theorem dX2_hasUnboundVariable_25 : decode cX2_hasUnboundVariable 25 = .ok (.aload_n 0, 1) := by decide +kernel
theorem dX2_hasUnboundVariable_26 : decode cX2_hasUnboundVariable 26 = .ok (.getfield 76, 3) := by decide +kernel
theorem dX2_hasUnboundVariable_29 : decode cX2_hasUnboundVariable 29 = .ok (.iload 4, 2) := by decide +kernel
theorem dX2_hasUnboundVariable_31 : decode cX2_hasUnboundVariable 31 = .ok (.iaload, 1) := by decide +kernel
theorem dX2_hasUnboundVariable_32 : decode cX2_hasUnboundVariable 32 = .ok (.iconst 1, 1) := by decide +kernel
theorem dX2_hasUnboundVariable_33 : decode cX2_hasUnboundVariable 33 = .ok (.if_icmp .ne 15, 3) := by decide +kernel
theorem dX2_hasUnboundVariable_36 : decode cX2_hasUnboundVariable 36 = .ok (.iload_n 2, 1) := by decide +kernel
theorem dX2_hasUnboundVariable_37 : decode cX2_hasUnboundVariable 37 = .ok (.aload_n 0, 1) := by decide +kernel
theorem dX2_hasUnboundVariable_38 : decode cX2_hasUnboundVariable 38 = .ok (.iload 4, 2) := by decide +kernel
theorem dX2_hasUnboundVariable_40 : decode cX2_hasUnboundVariable 40 = .ok (.invokevirtual 67, 3) := by decide +kernel
theorem dX2_hasUnboundVariable_43 : decode cX2_hasUnboundVariable 43 = .ok (.ior, 1) := by decide +kernel
theorem dX2_hasUnboundVariable_44 : decode cX2_hasUnboundVariable 44 = .ok (.istore_n 2, 1) := by decide +kernel
theorem dX2_hasUnboundVariable_45 : decode cX2_hasUnboundVariable 45 = .ok (.goto 12, 3) := by decide +kernel
theorem dX2_hasUnboundVariable_48 : decode cX2_hasUnboundVariable 48 = .ok (.iload_n 3, 1) := by decide +kernel
theorem dX2_hasUnboundVariable_49 : decode cX2_hasUnboundVariable 49 = .ok (.aload_n 0, 1) := by decide +kernel
theorem dX2_hasUnboundVariable_50 : decode cX2_hasUnboundVariable 50 = .ok (.iload 4, 2) := by decide +kernel
theorem dX2_hasUnboundVariable_52 : decode cX2_hasUnboundVariable 52 = .ok (.invokevirtual 67, 3) := by decide +kernel
theorem dX2_hasUnboundVariable_55 : decode cX2_hasUnboundVariable 55 = .ok (.ior, 1) := by decide +kernel
theorem dX2_hasUnboundVariable_56 : decode cX2_hasUnboundVariable 56 = .ok (.istore_n 3, 1) := by decide +kernel
theorem dX2_hasUnboundVariable_57 : decode cX2_hasUnboundVariable 57 = .ok (.iinc 4 1, 3) := by decide +kernel
theorem dX2_hasUnboundVariable_60 : decode cX2_hasUnboundVariable 60 = .ok (.goto (-48), 3) := by decide +kernel
theorem dX2_hasUnboundVariable_63 : decode cX2_hasUnboundVariable 63 = .ok (.iload_n 3, 1) := by decide +kernel
theorem dX2_hasUnboundVariable_64 : decode cX2_hasUnboundVariable 64 = .ok (.iload_n 2, 1) := by decide +kernel
theorem dX2_hasUnboundVariable_65 : decode cX2_hasUnboundVariable 65 = .ok (.iconst (-1), 1) := by decide +kernel
theorem dX2_hasUnboundVariable_66 : decode cX2_hasUnboundVariable 66 = .ok (.ixor, 1) := by decide +kernel
theorem dX2_hasUnboundVariable_67 : decode cX2_hasUnboundVariable 67 = .ok (.iand, 1) := by decide +kernel
theorem dX2_hasUnboundVariable_68 : decode cX2_hasUnboundVariable 68 = .ok (.ifCond .eq 7, 3) := by decide +kernel
theorem dX2_hasUnboundVariable_71 : decode cX2_hasUnboundVariable 71 = .ok (.iconst 1, 1) := by decide +kernel
theorem dX2_hasUnboundVariable_72 : decode cX2_hasUnboundVariable 72 = .ok (.goto 4, 3) := by decide +kernel
theorem dX2_hasUnboundVariable_75 : decode cX2_hasUnboundVariable 75 = .ok (.iconst 0, 1) := by decide +kernel
theorem dX2_hasUnboundVariable_76 : decode cX2_hasUnboundVariable 76 = .ok (.ireturn, 1) := by decide +kernel
theorem dX2_findDenialOfItself_0 : decode cX2_findDenialOfItself 0 = .ok (.aload_n 0, 1) := by decide +kernel
theorem dX2_findDenialOfItself_1 : decode cX2_findDenialOfItself 1 = .ok (.getfield 64, 3) := by decide +kernel
theorem dX2_findDenialOfItself_4 : decode cX2_findDenialOfItself 4 = .ok (.aload_n 0, 1) := by decide +kernel
theorem dX2_findDenialOfItself_5 : decode cX2_findDenialOfItself 5 = .ok (.getfield 37, 3) := by decide +kernel
theorem dX2_findDenialOfItself_8 : decode cX2_findDenialOfItself 8 = .ok (.iload_n 1, 1) := by decide +kernel
theorem dX2_findDenialOfItself_9 : decode cX2_findDenialOfItself 9 = .ok (.iaload, 1) := by decide +kernel
theorem dX2_findDenialOfItself_10 : decode cX2_findDenialOfItself 10 = .ok (.iaload, 1) := by decide +kernel
theorem dX2_findDenialOfItself_11 : decode cX2_findDenialOfItself 11 = .ok (.istore_n 2, 1) := by decide +kernel
theorem dX2_findDenialOfItself_12 : decode cX2_findDenialOfItself 12 = .ok (.aload_n 0, 1) := by decide +kernel
theorem dX2_findDenialOfItself_13 : decode cX2_findDenialOfItself 13 = .ok (.getfield 37, 3) := by decide +kernel
theorem dX2_findDenialOfItself_16 : decode cX2_findDenialOfItself 16 = .ok (.iload_n 1, 1) := by decide +kernel
theorem dX2_findDenialOfItself_17 : decode cX2_findDenialOfItself 17 = .ok (.iaload, 1) := by decide +kernel
theorem dX2_findDenialOfItself_18 : decode cX2_findDenialOfItself 18 = .ok (.iconst 1, 1) := by decide +kernel
theorem dX2_findDenialOfItself_19 : decode cX2_findDenialOfItself 19 = .ok (.iadd, 1) := by decide +kernel
theorem dX2_findDenialOfItself_20 : decode cX2_findDenialOfItself 20 = .ok (.istore_n 3, 1) := by decide +kernel
theorem dX2_findDenialOfItself_21 : decode cX2_findDenialOfItself 21 = .ok (.iload_n 3, 1) := by decide +kernel
theorem dX2_findDenialOfItself_22 : decode cX2_findDenialOfItself 22 = .ok (.aload_n 0, 1) := by decide +kernel
theorem dX2_findDenialOfItself_23 : decode cX2_findDenialOfItself 23 = .ok (.getfield 37, 3) := by decide +kernel
theorem dX2_findDenialOfItself_26 : decode cX2_findDenialOfItself 26 = .ok (.iload_n 1, 1) := by decide +kernel
theorem dX2_findDenialOfItself_27 : decode cX2_findDenialOfItself 27 = .ok (.iconst 1, 1) := by decide +kernel
theorem dX2_findDenialOfItself_28 : decode cX2_findDenialOfItself 28 = .ok (.iadd, 1) := by decide +kernel
theorem dX2_findDenialOfItself_29 : decode cX2_findDenialOfItself 29 = .ok (.iaload, 1) := by decide +kernel
theorem dX2_findDenialOfItself_30 : decode cX2_findDenialOfItself 30 = .ok (.if_icmp .ge 39, 3) := by decide +kernel
theorem dX2_findDenialOfItself_33 : decode cX2_findDenialOfItself 33 = .ok (.aload_n 0, 1) := by decide +kernel
theorem dX2_findDenialOfItself_34 : decode cX2_findDenialOfItself 34 = .ok (.getfield 76, 3) := by decide +kernel
theorem dX2_findDenialOfItself_37 : decode cX2_findDenialOfItself 37 = .ok (.iload_n 3, 1) := by decide +kernel
theorem dX2_findDenialOfItself_38 : decode cX2_findDenialOfItself 38 = .ok (.iaload, 1) := by decide +kernel
theorem dX2_findDenialOfItself_39 : decode cX2_findDenialOfItself 39 = .ok (.iconst 2, 1) := by decide +kernel
theorem dX2_findDenialOfItself_40 : decode cX2_findDenialOfItself 40 = .ok (.if_icmp .ne 23, 3) := by decide +kernel
theorem dX2_findDenialOfItself_43 : decode cX2_findDenialOfItself 43 = .ok (.aload_n 0, 1) := by decide +kernel
theorem dX2_findDenialOfItself_44 : decode cX2_findDenialOfItself 44 = .ok (.getfield 79, 3) := by decide +kernel
theorem dX2_findDenialOfItself_47 : decode cX2_findDenialOfItself 47 = .ok (.aload_n 0, 1) := by decide +kernel
theorem dX2_findDenialOfItself_48 : decode cX2_findDenialOfItself 48 = .ok (.getfield 64, 3) := by decide +kernel
theorem dX2_findDenialOfItself_51 : decode cX2_findDenialOfItself 51 = .ok (.iload_n 3, 1) := by decide +kernel
theorem dX2_findDenialOfItself_52 : decode cX2_findDenialOfItself 52 = .ok (.iaload, 1) := by decide +kernel
theorem dX2_findDenialOfItself_53 : decode cX2_findDenialOfItself 53 = .ok (.iaload, 1) := by decide +kernel
theorem dX2_findDenialOfItself_54 : decode cX2_findDenialOfItself 54 = .ok (.iload_n 2, 1) := by decide +kernel
theorem dX2_findDenialOfItself_55 : decode cX2_findDenialOfItself 55 = .ok (.ishr, 1) := by decide +kernel
theorem dX2_findDenialOfItself_56 : decode cX2_findDenialOfItself 56 = .ok (.iconst 1, 1) := by decide +kernel
theorem dX2_findDenialOfItself_57 : decode cX2_findDenialOfItself 57 = .ok (.iand, 1) := by decide +kernel
theorem dX2_findDenialOfItself_58 : decode cX2_findDenialOfItself 58 = .ok (.ifCond .eq 5, 3) := by decide +kernel
theorem dX2_findDenialOfItself_61 : decode cX2_findDenialOfItself 61 = .ok (.iload_n 3, 1) := by decide +kernel
theorem dX2_findDenialOfItself_62 : decode cX2_findDenialOfItself 62 = .ok (.ireturn, 1) := by decide +kernel
theorem dX2_findDenialOfItself_63 : decode cX2_findDenialOfItself 63 = .ok (.iinc 3 1, 3) := by decide +kernel
theorem dX2_findDenialOfItself_66 : decode cX2_findDenialOfItself 66 = .ok (.goto (-45), 3) := by decide +kernel
theorem dX2_findDenialOfItself_69 : decode cX2_findDenialOfItself 69 = .ok (.iconst (-1), 1) := by decide +kernel
theorem dX2_findDenialOfItself_70 : decode cX2_findDenialOfItself 70 = .ok (.ireturn, 1) := by decide +kernel
