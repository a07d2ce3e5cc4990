theorem dX1_init_0 : decode cX1_init 0 = .ok (.aload_n 0, 1) := by decide +kernel
theorem dX1_init_1 : decode cX1_init 1 = .ok (.invokespecial 3, 3) := by decide +kernel
theorem dX1_init_4 : decode cX1_init 4 = .ok (.aload_n 0, 1) := by decide +kernel
theorem dX1_init_5 : decode cX1_init 5 = .ok (.sipush 1440, 3) := by decide +kernel
theorem dX1_init_8 : decode cX1_init 8 = .ok (.newarray .int, 2) := by decide +kernel
theorem dX1_init_10 : decode cX1_init 10 = .ok (.putfield 11, 3) := by decide +kernel
theorem dX1_init_13 : decode cX1_init 13 = .ok (.aload_n 0, 1) := by decide +kernel
theorem dX1_init_14 : decode cX1_init 14 = .ok (.bipush 10, 2) := by decide +kernel
theorem dX1_init_16 : decode cX1_init 16 = .ok (.newarray .int, 2) := by decide +kernel
theorem dX1_init_18 : decode cX1_init 18 = .ok (.putfield 15, 3) := by decide +kernel
theorem dX1_init_21 : decode cX1_init 21 = .ok (.return_, 1) := by decide +kernel
theorem dX1_has_0 : decode cX1_has 0 = .ok (.iload_n 1, 1) := by decide +kernel
theorem dX1_has_1 : decode cX1_has 1 = .ok (.ifCond .lt 20, 3) := by decide +kernel
theorem dX1_has_4 : decode cX1_has 4 = .ok (.iload_n 1, 1) := by decide +kernel
theorem dX1_has_5 : decode cX1_has 5 = .ok (.bipush 10, 2) := by decide +kernel
theorem dX1_has_7 : decode cX1_has 7 = .ok (.if_icmp .ge 14, 3) := by decide +kernel
theorem dX1_has_10 : decode cX1_has 10 = .ok (.iload_n 2, 1) := by decide +kernel
theorem dX1_has_11 : decode cX1_has 11 = .ok (.ifCond .lt 10, 3) := by decide +kernel
theorem dX1_has_14 : decode cX1_has 14 = .ok (.iload_n 2, 1) := by decide +kernel
theorem dX1_has_15 : decode cX1_has 15 = .ok (.sipush 1728, 3) := by decide +kernel
theorem dX1_has_18 : decode cX1_has 18 = .ok (.if_icmp .lt 5, 3) := by decide +kernel
theorem dX1_has_21 : decode cX1_has 21 = .ok (.iconst 0, 1) := by decide +kernel
theorem dX1_has_22 : decode cX1_has 22 = .ok (.ireturn, 1) := by decide +kernel
theorem dX1_has_23 : decode cX1_has 23 = .ok (.aload_n 0, 1) := by decide +kernel
theorem dX1_has_24 : decode cX1_has 24 = .ok (.getfield 11, 3) := by decide +kernel
theorem dX1_has_27 : decode cX1_has 27 = .ok (.iload_n 1, 1) := by decide +kernel
theorem dX1_has_28 : decode cX1_has 28 = .ok (.sipush 144, 3) := by decide +kernel
theorem dX1_has_31 : decode cX1_has 31 = .ok (.imul, 1) := by decide +kernel
theorem dX1_has_32 : decode cX1_has 32 = .ok (.iload_n 2, 1) := by decide +kernel
theorem dX1_has_33 : decode cX1_has 33 = .ok (.bipush 12, 2) := by decide +kernel
theorem dX1_has_35 : decode cX1_has 35 = .ok (.idiv, 1) := by decide +kernel
theorem dX1_has_36 : decode cX1_has 36 = .ok (.iadd, 1) := by decide +kernel
theorem dX1_has_37 : decode cX1_has 37 = .ok (.iaload, 1) := by decide +kernel
theorem dX1_has_38 : decode cX1_has 38 = .ok (.iload_n 2, 1) := by decide +kernel
theorem dX1_has_39 : decode cX1_has 39 = .ok (.bipush 12, 2) := by decide +kernel
theorem dX1_has_41 : decode cX1_has 41 = .ok (.irem, 1) := by decide +kernel
theorem dX1_has_42 : decode cX1_has 42 = .ok (.ishr, 1) := by decide +kernel
theorem dX1_has_43 : decode cX1_has 43 = .ok (.iconst 1, 1) := by decide +kernel
theorem dX1_has_44 : decode cX1_has 44 = .ok (.iand, 1) := by decide +kernel
theorem dX1_has_45 : decode cX1_has 45 = .ok (.ifCond .eq 7, 3) := by decide +kernel
theorem dX1_has_48 : decode cX1_has 48 = .ok (.iconst 1, 1) := by decide +kernel
theorem dX1_has_49 : decode cX1_has 49 = .ok (.goto 4, 3) := by decide +kernel
theorem dX1_has_52 : decode cX1_has 52 = .ok (.iconst 0, 1) := by decide +kernel
theorem dX1_has_53 : decode cX1_has 53 = .ok (.ireturn, 1) := by decide +kernel
theorem dX1_add_0 : decode cX1_add 0 = .ok (.iload_n 1, 1) := by decide +kernel
theorem dX1_add_1 : decode cX1_add 1 = .ok (.ifCond .lt 20, 3) := by decide +kernel
theorem dX1_add_4 : decode cX1_add 4 = .ok (.iload_n 1, 1) := by decide +kernel
theorem dX1_add_5 : decode cX1_add 5 = .ok (.bipush 10, 2) := by decide +kernel
theorem dX1_add_7 : decode cX1_add 7 = .ok (.if_icmp .ge 14, 3) := by decide +kernel
theorem dX1_add_10 : decode cX1_add 10 = .ok (.iload_n 2, 1) := by decide +kernel
theorem dX1_add_11 : decode cX1_add 11 = .ok (.ifCond .lt 10, 3) := by decide +kernel
theorem dX1_add_14 : decode cX1_add 14 = .ok (.iload_n 2, 1) := by decide +kernel
theorem dX1_add_15 : decode cX1_add 15 = .ok (.sipush 1728, 3) := by decide +kernel
theorem dX1_add_18 : decode cX1_add 18 = .ok (.if_icmp .lt 4, 3) := by decide +kernel
theorem dX1_add_21 : decode cX1_add 21 = .ok (.return_, 1) := by decide +kernel
theorem dX1_add_22 : decode cX1_add 22 = .ok (.iload_n 1, 1) := by decide +kernel
theorem dX1_add_23 : decode cX1_add 23 = .ok (.sipush 144, 3) := by decide +kernel
theorem dX1_add_26 : decode cX1_add 26 = .ok (.imul, 1) := by decide +kernel
theorem dX1_add_27 : decode cX1_add 27 = .ok (.iload_n 2, 1) := by decide +kernel
theorem dX1_add_28 : decode cX1_add 28 = .ok (.bipush 12, 2) := by decide +kernel
theorem dX1_add_30 : decode cX1_add 30 = .ok (.idiv, 1) := by decide +kernel
theorem dX1_add_31 : decode cX1_add 31 = .ok (.iadd, 1) := by decide +kernel
theorem dX1_add_32 : decode cX1_add 32 = .ok (.istore_n 3, 1) := by decide +kernel
theorem dX1_add_33 : decode cX1_add 33 = .ok (.iconst 1, 1) := by decide +kernel
theorem dX1_add_34 : decode cX1_add 34 = .ok (.iload_n 2, 1) := by decide +kernel
theorem dX1_add_35 : decode cX1_add 35 = .ok (.bipush 12, 2) := by decide +kernel
theorem dX1_add_37 : decode cX1_add 37 = .ok (.irem, 1) := by decide +kernel
theorem dX1_add_38 : decode cX1_add 38 = .ok (.ishl, 1) := by decide +kernel
theorem dX1_add_39 : decode cX1_add 39 = .ok (.istore 4, 2) := by decide +kernel
theorem dX1_add_41 : decode cX1_add 41 = .ok (.aload_n 0, 1) := by decide +kernel
theorem dX1_add_42 : decode cX1_add 42 = .ok (.getfield 11, 3) := by decide +kernel
theorem dX1_add_45 : decode cX1_add 45 = .ok (.iload_n 3, 1) := by decide +kernel
theorem dX1_add_46 : decode cX1_add 46 = .ok (.iaload, 1) := by decide +kernel
theorem dX1_add_47 : decode cX1_add 47 = .ok (.iload 4, 2) := by decide +kernel
theorem dX1_add_49 : decode cX1_add 49 = .ok (.iand, 1) := by decide +kernel
theorem dX1_add_50 : decode cX1_add 50 = .ok (.ifCond .ne 24, 3) := by decide +kernel
theorem dX1_add_53 : decode cX1_add 53 = .ok (.aload_n 0, 1) := by decide +kernel
theorem dX1_add_54 : decode cX1_add 54 = .ok (.getfield 11, 3) := by decide +kernel
theorem dX1_add_57 : decode cX1_add 57 = .ok (.iload_n 3, 1) := by decide +kernel
theorem dX1_add_58 : decode cX1_add 58 = .ok (.dup2, 1) := by decide +kernel
theorem dX1_add_59 : decode cX1_add 59 = .ok (.iaload, 1) := by decide +kernel
theorem dX1_add_60 : decode cX1_add 60 = .ok (.iload 4, 2) := by decide +kernel
theorem dX1_add_62 : decode cX1_add 62 = .ok (.ior, 1) := by decide +kernel
theorem dX1_add_63 : decode cX1_add 63 = .ok (.iastore, 1) := by decide +kernel
theorem dX1_add_64 : decode cX1_add 64 = .ok (.aload_n 0, 1) := by decide +kernel
theorem dX1_add_65 : decode cX1_add 65 = .ok (.getfield 15, 3) := by decide +kernel
theorem dX1_add_68 : decode cX1_add 68 = .ok (.iload_n 1, 1) := by decide +kernel
theorem dX1_add_69 : decode cX1_add 69 = .ok (.dup2, 1) := by decide +kernel
theorem dX1_add_70 : decode cX1_add 70 = .ok (.iaload, 1) := by decide +kernel
theorem dX1_add_71 : decode cX1_add 71 = .ok (.iconst 1, 1) := by decide +kernel
theorem dX1_add_72 : decode cX1_add 72 = .ok (.iadd, 1) := by decide +kernel
theorem dX1_add_73 : decode cX1_add 73 = .ok (.iastore, 1) := by decide +kernel
theorem dX1_add_74 : decode cX1_add 74 = .ok (.return_, 1) := by decide +kernel
theorem dX1_drop_0 : decode cX1_drop 0 = .ok (.aload_n 0, 1) := by decide +kernel
theorem dX1_drop_1 : decode cX1_drop 1 = .ok (.iload_n 1, 1) := by decide +kernel
theorem dX1_drop_2 : decode cX1_drop 2 = .ok (.iload_n 2, 1) := by decide +kernel
theorem dX1_drop_3 : decode cX1_drop 3 = .ok (.invokevirtual 18, 3) := by decide +kernel
theorem dX1_drop_6 : decode cX1_drop 6 = .ok (.ifCond .eq 39, 3) := by decide +kernel
theorem dX1_drop_9 : decode cX1_drop 9 = .ok (.aload_n 0, 1) := by decide +kernel
theorem dX1_drop_10 : decode cX1_drop 10 = .ok (.getfield 11, 3) := by decide +kernel
theorem dX1_drop_13 : decode cX1_drop 13 = .ok (.iload_n 1, 1) := by decide +kernel
theorem dX1_drop_14 : decode cX1_drop 14 = .ok (.sipush 144, 3) := by decide +kernel
theorem dX1_drop_17 : decode cX1_drop 17 = .ok (.imul, 1) := by decide +kernel
theorem dX1_drop_18 : decode cX1_drop 18 = .ok (.iload_n 2, 1) := by decide +kernel
theorem dX1_drop_19 : decode cX1_drop 19 = .ok (.bipush 12, 2) := by decide +kernel
theorem dX1_drop_21 : decode cX1_drop 21 = .ok (.idiv, 1) := by decide +kernel
theorem dX1_drop_22 : decode cX1_drop 22 = .ok (.iadd, 1) := by decide +kernel
theorem dX1_drop_23 : decode cX1_drop 23 = .ok (.dup2, 1) := by decide +kernel
theorem dX1_drop_24 : decode cX1_drop 24 = .ok (.iaload, 1) := by decide +kernel
theorem dX1_drop_25 : decode cX1_drop 25 = .ok (.iconst 1, 1) := by decide +kernel
theorem dX1_drop_26 : decode cX1_drop 26 = .ok (.iload_n 2, 1) := by decide +kernel
theorem dX1_drop_27 : decode cX1_drop 27 = .ok (.bipush 12, 2) := by decide +kernel
theorem dX1_drop_29 : decode cX1_drop 29 = .ok (.irem, 1) := by decide +kernel
theorem dX1_drop_30 : decode cX1_drop 30 = .ok (.ishl, 1) := by decide +kernel
theorem dX1_drop_31 : decode cX1_drop 31 = .ok (.iconst (-1), 1) := by decide +kernel
theorem dX1_drop_32 : decode cX1_drop 32 = .ok (.ixor, 1) := by decide +kernel
theorem dX1_drop_33 : decode cX1_drop 33 = .ok (.iand, 1) := by decide +kernel
theorem dX1_drop_34 : decode cX1_drop 34 = .ok (.iastore, 1) := by decide +kernel
theorem dX1_drop_35 : decode cX1_drop 35 = .ok (.aload_n 0, 1) := by decide +kernel
theorem dX1_drop_36 : decode cX1_drop 36 = .ok (.getfield 15, 3) := by decide +kernel
theorem dX1_drop_39 : decode cX1_drop 39 = .ok (.iload_n 1, 1) := by decide +kernel
theorem dX1_drop_40 : decode cX1_drop 40 = .ok (.dup2, 1) := by decide +kernel
theorem dX1_drop_41 : decode cX1_drop 41 = .ok (.iaload, 1) := by decide +kernel
theorem dX1_drop_42 : decode cX1_drop 42 = .ok (.iconst 1, 1) := by decide +kernel
theorem dX1_drop_43 : decode cX1_drop 43 = .ok (.isub, 1) := by decide +kernel
theorem dX1_drop_44 : decode cX1_drop 44 = .ok (.iastore, 1) := by decide +kernel
theorem dX1_drop_45 : decode cX1_drop 45 = .ok (.return_, 1) := by decide +kernel
theorem dX1_lastConstants_0 : decode cX1_lastConstants 0 = .ok (.iload_n 2, 1) := by decide +kernel
theorem dX1_lastConstants_1 : decode cX1_lastConstants 1 = .ok (.ifCond .lt 25, 3) := by decide +kernel
theorem dX1_lastConstants_4 : decode cX1_lastConstants 4 = .ok (.iload_n 2, 1) := by decide +kernel
theorem dX1_lastConstants_5 : decode cX1_lastConstants 5 = .ok (.sipush 144, 3) := by decide +kernel
theorem dX1_lastConstants_8 : decode cX1_lastConstants 8 = .ok (.if_icmp .ge 18, 3) := by decide +kernel
theorem dX1_lastConstants_11 : decode cX1_lastConstants 11 = .ok (.aload_n 0, 1) := by decide +kernel
theorem dX1_lastConstants_12 : decode cX1_lastConstants 12 = .ok (.getfield 11, 3) := by decide +kernel
theorem dX1_lastConstants_15 : decode cX1_lastConstants 15 = .ok (.iload_n 1, 1) := by decide +kernel
theorem dX1_lastConstants_16 : decode cX1_lastConstants 16 = .ok (.sipush 144, 3) := by decide +kernel
theorem dX1_lastConstants_19 : decode cX1_lastConstants 19 = .ok (.imul, 1) := by decide +kernel
theorem dX1_lastConstants_20 : decode cX1_lastConstants 20 = .ok (.iload_n 2, 1) := by decide +kernel
theorem dX1_lastConstants_21 : decode cX1_lastConstants 21 = .ok (.iadd, 1) := by decide +kernel
theorem dX1_lastConstants_22 : decode cX1_lastConstants 22 = .ok (.iaload, 1) := by decide +kernel
theorem dX1_lastConstants_23 : decode cX1_lastConstants 23 = .ok (.goto 4, 3) := by decide +kernel
theorem dX1_lastConstants_26 : decode cX1_lastConstants 26 = .ok (.iconst 0, 1) := by decide +kernel
theorem dX1_lastConstants_27 : decode cX1_lastConstants 27 = .ok (.ireturn, 1) := by decide +kernel
theorem dX1_size_0 : decode cX1_size 0 = .ok (.aload_n 0, 1) := by decide +kernel
theorem dX1_size_1 : decode cX1_size 1 = .ok (.getfield 15, 3) := by decide +kernel
theorem dX1_size_4 : decode cX1_size 4 = .ok (.iload_n 1, 1) := by decide +kernel
theorem dX1_size_5 : decode cX1_size 5 = .ok (.iaload, 1) := by decide +kernel
theorem dX1_size_6 : decode cX1_size 6 = .ok (.ireturn, 1) := by decide +kernel
theorem dX1_total_0 : decode cX1_total 0 = .ok (.iconst 0, 1) := by decide +kernel
theorem dX1_total_1 : decode cX1_total 1 = .ok (.istore_n 1, 1) := by decide +kernel
theorem dX1_total_2 : decode cX1_total 2 = .ok (.iconst 0, 1) := by decide +kernel
theorem dX1_total_3 : decode cX1_total 3 = .ok (.istore_n 2, 1) := by decide +kernel
theorem dX1_total_4 : decode cX1_total 4 = .ok (.iload_n 2, 1) := by decide +kernel
theorem dX1_total_5 : decode cX1_total 5 = .ok (.bipush 10, 2) := by decide +kernel
theorem dX1_total_7 : decode cX1_total 7 = .ok (.if_icmp .ge 18, 3) := by decide +kernel
theorem dX1_total_10 : decode cX1_total 10 = .ok (.iload_n 1, 1) := by decide +kernel
theorem dX1_total_11 : decode cX1_total 11 = .ok (.aload_n 0, 1) := by decide +kernel
theorem dX1_total_12 : decode cX1_total 12 = .ok (.getfield 15, 3) := by decide +kernel
theorem dX1_total_15 : decode cX1_total 15 = .ok (.iload_n 2, 1) := by decide +kernel
theorem dX1_total_16 : decode cX1_total 16 = .ok (.iaload, 1) := by decide +kernel
theorem dX1_total_17 : decode cX1_total 17 = .ok (.iadd, 1) := by decide +kernel
theorem dX1_total_18 : decode cX1_total 18 = .ok (.istore_n 1, 1) := by decide +kernel
theorem dX1_total_19 : decode cX1_total 19 = .ok (.iinc 2 1, 3) := by decide +kernel
theorem dX1_total_22 : decode cX1_total 22 = .ok (.goto (-18), 3) := by decide +kernel
theorem dX1_total_25 : decode cX1_total 25 = .ok (.iload_n 1, 1) := by decide +kernel
theorem dX1_total_26 : decode cX1_total 26 = .ok (.ireturn, 1) := by decide +kernel
theorem dX1_clear_0 : decode cX1_clear 0 = .ok (.iconst 0, 1) := by decide +kernel
theorem dX1_clear_1 : decode cX1_clear 1 = .ok (.istore_n 1, 1) := by decide +kernel
theorem dX1_clear_2 : decode cX1_clear 2 = .ok (.iload_n 1, 1) := by decide +kernel
theorem dX1_clear_3 : decode cX1_clear 3 = .ok (.bipush 10, 2) := by decide +kernel
theorem dX1_clear_5 : decode cX1_clear 5 = .ok (.if_icmp .ge 14, 3) := by decide +kernel
theorem dX1_clear_8 : decode cX1_clear 8 = .ok (.aload_n 0, 1) := by decide +kernel
theorem dX1_clear_9 : decode cX1_clear 9 = .ok (.iload_n 1, 1) := by decide +kernel
theorem dX1_clear_10 : decode cX1_clear 10 = .ok (.invokevirtual 22, 3) := by decide +kernel
theorem dX1_clear_13 : decode cX1_clear 13 = .ok (.iinc 1 1, 3) := by decide +kernel
theorem dX1_clear_16 : decode cX1_clear 16 = .ok (.goto (-14), 3) := by decide +kernel
theorem dX1_clear_19 : decode cX1_clear 19 = .ok (.return_, 1) := by decide +kernel
theorem dX1_empty_0 : decode cX1_empty 0 = .ok (.iload_n 1, 1) := by decide +kernel
theorem dX1_empty_1 : decode cX1_empty 1 = .ok (.sipush 144, 3) := by decide +kernel
theorem dX1_empty_4 : decode cX1_empty 4 = .ok (.imul, 1) := by decide +kernel
theorem dX1_empty_5 : decode cX1_empty 5 = .ok (.istore_n 2, 1) := by decide +kernel
theorem dX1_empty_6 : decode cX1_empty 6 = .ok (.aload_n 0, 1) := by decide +kernel
theorem dX1_empty_7 : decode cX1_empty 7 = .ok (.getfield 15, 3) := by decide +kernel
theorem dX1_empty_10 : decode cX1_empty 10 = .ok (.iload_n 1, 1) := by decide +kernel
theorem dX1_empty_11 : decode cX1_empty 11 = .ok (.iaload, 1) := by decide +kernel
theorem dX1_empty_12 : decode cX1_empty 12 = .ok (.ifCond .le 27, 3) := by decide +kernel
theorem dX1_empty_15 : decode cX1_empty 15 = .ok (.iload_n 2, 1) := by decide +kernel
theorem dX1_empty_16 : decode cX1_empty 16 = .ok (.iload_n 1, 1) := by decide +kernel
theorem dX1_empty_17 : decode cX1_empty 17 = .ok (.iconst 1, 1) := by decide +kernel
theorem dX1_empty_18 : decode cX1_empty 18 = .ok (.iadd, 1) := by decide +kernel
theorem dX1_empty_19 : decode cX1_empty 19 = .ok (.sipush 144, 3) := by decide +kernel
theorem dX1_empty_22 : decode cX1_empty 22 = .ok (.imul, 1) := by decide +kernel
theorem dX1_empty_23 : decode cX1_empty 23 = .ok (.if_icmp .ge 16, 3) := by decide +kernel
theorem dX1_empty_26 : decode cX1_empty 26 = .ok (.aload_n 0, 1) := by decide +kernel
theorem dX1_empty_27 : decode cX1_empty 27 = .ok (.getfield 11, 3) := by decide +kernel
theorem dX1_empty_30 : decode cX1_empty 30 = .ok (.iload_n 2, 1) := by decide +kernel
theorem dX1_empty_31 : decode cX1_empty 31 = .ok (.iconst 0, 1) := by decide +kernel
theorem dX1_empty_32 : decode cX1_empty 32 = .ok (.iastore, 1) := by decide +kernel
theorem dX1_empty_33 : decode cX1_empty 33 = .ok (.iinc 2 1, 3) := by decide +kernel
theorem dX1_empty_36 : decode cX1_empty 36 = .ok (.goto (-30), 3) := by decide +kernel
theorem dX1_empty_39 : decode cX1_empty 39 = .ok (.aload_n 0, 1) := by decide +kernel
theorem dX1_empty_40 : decode cX1_empty 40 = .ok (.getfield 15, 3) := by decide +kernel
theorem dX1_empty_43 : decode cX1_empty 43 = .ok (.iload_n 1, 1) := by decide +kernel
theorem dX1_empty_44 : decode cX1_empty 44 = .ok (.iconst 0, 1) := by decide +kernel
theorem dX1_empty_45 : decode cX1_empty 45 = .ok (.iastore, 1) := by decide +kernel
theorem dX1_empty_46 : decode cX1_empty 46 = .ok (.return_, 1) := by decide +kernel
theorem dX1_copyAll_0 : decode cX1_copyAll 0 = .ok (.aload_n 1, 1) := by decide +kernel
theorem dX1_copyAll_1 : decode cX1_copyAll 1 = .ok (.getfield 11, 3) := by decide +kernel
theorem dX1_copyAll_4 : decode cX1_copyAll 4 = .ok (.iconst 0, 1) := by decide +kernel
theorem dX1_copyAll_5 : decode cX1_copyAll 5 = .ok (.aload_n 0, 1) := by decide +kernel
theorem dX1_copyAll_6 : decode cX1_copyAll 6 = .ok (.getfield 11, 3) := by decide +kernel
theorem dX1_copyAll_9 : decode cX1_copyAll 9 = .ok (.iconst 0, 1) := by decide +kernel
theorem dX1_copyAll_10 : decode cX1_copyAll 10 = .ok (.aload_n 0, 1) := by decide +kernel
theorem dX1_copyAll_11 : decode cX1_copyAll 11 = .ok (.getfield 11, 3) := by decide +kernel
theorem dX1_copyAll_14 : decode cX1_copyAll 14 = .ok (.arraylength, 1) := by decide +kernel
theorem dX1_copyAll_15 : decode cX1_copyAll 15 = .ok (.invokestatic 26, 3) := by decide +kernel
theorem dX1_copyAll_18 : decode cX1_copyAll 18 = .ok (.aload_n 1, 1) := by decide +kernel
theorem dX1_copyAll_19 : decode cX1_copyAll 19 = .ok (.getfield 15, 3) := by decide +kernel
theorem dX1_copyAll_22 : decode cX1_copyAll 22 = .ok (.iconst 0, 1) := by decide +kernel
theorem dX1_copyAll_23 : decode cX1_copyAll 23 = .ok (.aload_n 0, 1) := by decide +kernel
theorem dX1_copyAll_24 : decode cX1_copyAll 24 = .ok (.getfield 15, 3) := by decide +kernel
theorem dX1_copyAll_27 : decode cX1_copyAll 27 = .ok (.iconst 0, 1) := by decide +kernel
theorem dX1_copyAll_28 : decode cX1_copyAll 28 = .ok (.aload_n 0, 1) := by decide +kernel
theorem dX1_copyAll_29 : decode cX1_copyAll 29 = .ok (.getfield 15, 3) := by decide +kernel
theorem dX1_copyAll_32 : decode cX1_copyAll 32 = .ok (.arraylength, 1) := by decide +kernel
theorem dX1_copyAll_33 : decode cX1_copyAll 33 = .ok (.invokestatic 26, 3) := by decide +kernel
theorem dX1_copyAll_36 : decode cX1_copyAll 36 = .ok (.return_, 1) := by decide +kernel
theorem dX1_copyOne_0 : decode cX1_copyOne 0 = .ok (.aload_n 1, 1) := by decide +kernel
theorem dX1_copyOne_1 : decode cX1_copyOne 1 = .ok (.getfield 11, 3) := by decide +kernel
theorem dX1_copyOne_4 : decode cX1_copyOne 4 = .ok (.iload_n 2, 1) := by decide +kernel
theorem dX1_copyOne_5 : decode cX1_copyOne 5 = .ok (.sipush 144, 3) := by decide +kernel
theorem dX1_copyOne_8 : decode cX1_copyOne 8 = .ok (.imul, 1) := by decide +kernel
theorem dX1_copyOne_9 : decode cX1_copyOne 9 = .ok (.aload_n 0, 1) := by decide +kernel
theorem dX1_copyOne_10 : decode cX1_copyOne 10 = .ok (.getfield 11, 3) := by decide +kernel
theorem dX1_copyOne_13 : decode cX1_copyOne 13 = .ok (.iload_n 2, 1) := by decide +kernel
theorem dX1_copyOne_14 : decode cX1_copyOne 14 = .ok (.sipush 144, 3) := by decide +kernel
theorem dX1_copyOne_17 : decode cX1_copyOne 17 = .ok (.imul, 1) := by decide +kernel
theorem dX1_copyOne_18 : decode cX1_copyOne 18 = .ok (.sipush 144, 3) := by decide +kernel
theorem dX1_copyOne_21 : decode cX1_copyOne 21 = .ok (.invokestatic 26, 3) := by decide +kernel
theorem dX1_copyOne_24 : decode cX1_copyOne 24 = .ok (.aload_n 0, 1) := by decide +kernel
theorem dX1_copyOne_25 : decode cX1_copyOne 25 = .ok (.getfield 15, 3) := by decide +kernel
theorem dX1_copyOne_28 : decode cX1_copyOne 28 = .ok (.iload_n 2, 1) := by decide +kernel
theorem dX1_copyOne_29 : decode cX1_copyOne 29 = .ok (.aload_n 1, 1) := by decide +kernel
theorem dX1_copyOne_30 : decode cX1_copyOne 30 = .ok (.getfield 15, 3) := by decide +kernel
theorem dX1_copyOne_33 : decode cX1_copyOne 33 = .ok (.iload_n 2, 1) := by decide +kernel
theorem dX1_copyOne_34 : decode cX1_copyOne 34 = .ok (.iaload, 1) := by decide +kernel
theorem dX1_copyOne_35 : decode cX1_copyOne 35 = .ok (.iastore, 1) := by decide +kernel
theorem dX1_copyOne_36 : decode cX1_copyOne 36 = .ok (.return_, 1) := by decide +kernel
theorem dX1_absorb_0 : decode cX1_absorb 0 = .ok (.aload_n 1, 1) := by decide +kernel
theorem dX1_absorb_1 : decode cX1_absorb 1 = .ok (.getfield 15, 3) := by decide +kernel
theorem dX1_absorb_4 : decode cX1_absorb 4 = .ok (.iload_n 2, 1) := by decide +kernel
theorem dX1_absorb_5 : decode cX1_absorb 5 = .ok (.iaload, 1) := by decide +kernel
theorem dX1_absorb_6 : decode cX1_absorb 6 = .ok (.istore_n 3, 1) := by decide +kernel
theorem dX1_absorb_7 : decode cX1_absorb 7 = .ok (.iload_n 2, 1) := by decide +kernel
theorem dX1_absorb_8 : decode cX1_absorb 8 = .ok (.sipush 144, 3) := by decide +kernel
theorem dX1_absorb_11 : decode cX1_absorb 11 = .ok (.imul, 1) := by decide +kernel
theorem dX1_absorb_12 : decode cX1_absorb 12 = .ok (.istore 4, 2) := by decide +kernel
theorem dX1_absorb_14 : decode cX1_absorb 14 = .ok (.iload_n 3, 1) := by decide +kernel
theorem dX1_absorb_15 : decode cX1_absorb 15 = .ok (.ifCond .le 51, 3) := by decide +kernel
theorem dX1_absorb_18 : decode cX1_absorb 18 = .ok (.iload 4, 2) := by decide +kernel
theorem dX1_absorb_20 : decode cX1_absorb 20 = .ok (.iload_n 2, 1) := by decide +kernel
theorem dX1_absorb_21 : decode cX1_absorb 21 = .ok (.iconst 1, 1) := by decide +kernel
theorem dX1_absorb_22 : decode cX1_absorb 22 = .ok (.iadd, 1) := by decide +kernel
theorem dX1_absorb_23 : decode cX1_absorb 23 = .ok (.sipush 144, 3) := by decide +kernel
theorem dX1_absorb_26 : decode cX1_absorb 26 = .ok (.imul, 1) := by decide +kernel
theorem dX1_absorb_27 : decode cX1_absorb 27 = .ok (.if_icmp .ge 39, 3) := by decide +kernel
theorem dX1_absorb_30 : decode cX1_absorb 30 = .ok (.aload_n 0, 1) := by decide +kernel
theorem dX1_absorb_31 : decode cX1_absorb 31 = .ok (.getfield 11, 3) := by decide +kernel
theorem dX1_absorb_34 : decode cX1_absorb 34 = .ok (.iload 4, 2) := by decide +kernel
theorem dX1_absorb_36 : decode cX1_absorb 36 = .ok (.dup2, 1) := by decide +kernel
theorem dX1_absorb_37 : decode cX1_absorb 37 = .ok (.iaload, 1) := by decide +kernel
theorem dX1_absorb_38 : decode cX1_absorb 38 = .ok (.aload_n 1, 1) := by decide +kernel
theorem dX1_absorb_39 : decode cX1_absorb 39 = .ok (.getfield 11, 3) := by decide +kernel
theorem dX1_absorb_42 : decode cX1_absorb 42 = .ok (.iload 4, 2) := by decide +kernel
theorem dX1_absorb_44 : decode cX1_absorb 44 = .ok (.iaload, 1) := by decide +kernel
theorem dX1_absorb_45 : decode cX1_absorb 45 = .ok (.ior, 1) := by decide +kernel
theorem dX1_absorb_46 : decode cX1_absorb 46 = .ok (.iastore, 1) := by decide +kernel
theorem dX1_absorb_47 : decode cX1_absorb 47 = .ok (.iload_n 3, 1) := by decide +kernel
theorem dX1_absorb_48 : decode cX1_absorb 48 = .ok (.aload_n 1, 1) := by decide +kernel
theorem dX1_absorb_49 : decode cX1_absorb 49 = .ok (.getfield 11, 3) := by decide +kernel
theorem dX1_absorb_52 : decode cX1_absorb 52 = .ok (.iload 4, 2) := by decide +kernel
theorem dX1_absorb_54 : decode cX1_absorb 54 = .ok (.iaload, 1) := by decide +kernel
theorem dX1_absorb_55 : decode cX1_absorb 55 = .ok (.invokestatic 32, 3) := by decide +kernel
theorem dX1_absorb_58 : decode cX1_absorb 58 = .ok (.isub, 1) := by decide +kernel
theorem dX1_absorb_59 : decode cX1_absorb 59 = .ok (.istore_n 3, 1) := by decide +kernel
theorem dX1_absorb_60 : decode cX1_absorb 60 = .ok (.iinc 4 1, 3) := by decide +kernel
theorem dX1_absorb_63 : decode cX1_absorb 63 = .ok (.goto (-49), 3) := by decide +kernel
theorem dX1_absorb_66 : decode cX1_absorb 66 = .ok (.aload_n 0, 1) := by decide +kernel
theorem dX1_absorb_67 : decode cX1_absorb 67 = .ok (.getfield 15, 3) := by decide +kernel
theorem dX1_absorb_70 : decode cX1_absorb 70 = .ok (.iload_n 2, 1) := by decide +kernel
theorem dX1_absorb_71 : decode cX1_absorb 71 = .ok (.dup2, 1) := by decide +kernel
theorem dX1_absorb_72 : decode cX1_absorb 72 = .ok (.iaload, 1) := by decide +kernel
theorem dX1_absorb_73 : decode cX1_absorb 73 = .ok (.aload_n 1, 1) := by decide +kernel
theorem dX1_absorb_74 : decode cX1_absorb 74 = .ok (.getfield 15, 3) := by decide +kernel
theorem dX1_absorb_77 : decode cX1_absorb 77 = .ok (.iload_n 2, 1) := by decide +kernel
theorem dX1_absorb_78 : decode cX1_absorb 78 = .ok (.iaload, 1) := by decide +kernel
theorem dX1_absorb_79 : decode cX1_absorb 79 = .ok (.iadd, 1) := by decide +kernel
theorem dX1_absorb_80 : decode cX1_absorb 80 = .ok (.iastore, 1) := by decide +kernel
theorem dX1_absorb_81 : decode cX1_absorb 81 = .ok (.return_, 1) := by decide +kernel
theorem dX1_nth_0 : decode cX1_nth 0 = .ok (.iload_n 1, 1) := by decide +kernel
theorem dX1_nth_1 : decode cX1_nth 1 = .ok (.ifCond .lt 23, 3) := by decide +kernel
theorem dX1_nth_4 : decode cX1_nth 4 = .ok (.iload_n 1, 1) := by decide +kernel
theorem dX1_nth_5 : decode cX1_nth 5 = .ok (.bipush 10, 2) := by decide +kernel
theorem dX1_nth_7 : decode cX1_nth 7 = .ok (.if_icmp .ge 17, 3) := by decide +kernel
theorem dX1_nth_10 : decode cX1_nth 10 = .ok (.iload_n 2, 1) := by decide +kernel
theorem dX1_nth_11 : decode cX1_nth 11 = .ok (.ifCond .lt 13, 3) := by decide +kernel
theorem dX1_nth_14 : decode cX1_nth 14 = .ok (.iload_n 2, 1) := by decide +kernel
theorem dX1_nth_15 : decode cX1_nth 15 = .ok (.aload_n 0, 1) := by decide +kernel
theorem dX1_nth_16 : decode cX1_nth 16 = .ok (.getfield 15, 3) := by decide +kernel
theorem dX1_nth_19 : decode cX1_nth 19 = .ok (.iload_n 1, 1) := by decide +kernel
theorem dX1_nth_20 : decode cX1_nth 20 = .ok (.iaload, 1) := by decide +kernel
theorem dX1_nth_21 : decode cX1_nth 21 = .ok (.if_icmp .lt 5, 3) := by decide +kernel
theorem dX1_nth_24 : decode cX1_nth 24 = .ok (.iconst (-1), 1) := by decide +kernel
theorem dX1_nth_25 : decode cX1_nth 25 = .ok (.ireturn, 1) := by decide +kernel
theorem dX1_nth_26 : decode cX1_nth 26 = .ok (.iload_n 2, 1) := by decide +kernel
theorem dX1_nth_27 : decode cX1_nth 27 = .ok (.istore_n 3, 1) := by decide +kernel
theorem dX1_nth_28 : decode cX1_nth 28 = .ok (.iconst 0, 1) := by decide +kernel
theorem dX1_nth_29 : decode cX1_nth 29 = .ok (.istore 4, 2) := by decide +kernel
theorem dX1_nth_31 : decode cX1_nth 31 = .ok (.iload 4, 2) := by decide +kernel
theorem dX1_nth_33 : decode cX1_nth 33 = .ok (.sipush 144, 3) := by decide +kernel
theorem dX1_nth_36 : decode cX1_nth 36 = .ok (.if_icmp .ge 54, 3) := by decide +kernel
theorem dX1_nth_39 : decode cX1_nth 39 = .ok (.aload_n 0, 1) := by decide +kernel
theorem dX1_nth_40 : decode cX1_nth 40 = .ok (.getfield 11, 3) := by decide +kernel
theorem dX1_nth_43 : decode cX1_nth 43 = .ok (.iload_n 1, 1) := by decide +kernel
theorem dX1_nth_44 : decode cX1_nth 44 = .ok (.sipush 144, 3) := by decide +kernel
theorem dX1_nth_47 : decode cX1_nth 47 = .ok (.imul, 1) := by decide +kernel
theorem dX1_nth_48 : decode cX1_nth 48 = .ok (.iload 4, 2) := by decide +kernel
theorem dX1_nth_50 : decode cX1_nth 50 = .ok (.iadd, 1) := by decide +kernel
theorem dX1_nth_51 : decode cX1_nth 51 = .ok (.iaload, 1) := by decide +kernel
theorem dX1_nth_52 : decode cX1_nth 52 = .ok (.istore 5, 2) := by decide +kernel
theorem dX1_nth_54 : decode cX1_nth 54 = .ok (.iload_n 3, 1) := by decide +kernel
theorem dX1_nth_55 : decode cX1_nth 55 = .ok (.iload 5, 2) := by decide +kernel
theorem dX1_nth_57 : decode cX1_nth 57 = .ok (.invokestatic 32, 3) := by decide +kernel
theorem dX1_nth_60 : decode cX1_nth 60 = .ok (.if_icmp .ge 16, 3) := by decide +kernel
theorem dX1_nth_63 : decode cX1_nth 63 = .ok (.iload 4, 2) := by decide +kernel
theorem dX1_nth_65 : decode cX1_nth 65 = .ok (.bipush 12, 2) := by decide +kernel
theorem dX1_nth_67 : decode cX1_nth 67 = .ok (.imul, 1) := by decide +kernel
theorem dX1_nth_68 : decode cX1_nth 68 = .ok (.iload 5, 2) := by decide +kernel
theorem dX1_nth_70 : decode cX1_nth 70 = .ok (.iload_n 3, 1) := by decide +kernel
theorem dX1_nth_71 : decode cX1_nth 71 = .ok (.invokestatic 38, 3) := by decide +kernel
theorem dX1_nth_74 : decode cX1_nth 74 = .ok (.iadd, 1) := by decide +kernel
theorem dX1_nth_75 : decode cX1_nth 75 = .ok (.ireturn, 1) := by decide +kernel
theorem dX1_nth_76 : decode cX1_nth 76 = .ok (.iload_n 3, 1) := by decide +kernel
theorem dX1_nth_77 : decode cX1_nth 77 = .ok (.iload 5, 2) := by decide +kernel
theorem dX1_nth_79 : decode cX1_nth 79 = .ok (.invokestatic 32, 3) := by decide +kernel
theorem dX1_nth_82 : decode cX1_nth 82 = .ok (.isub, 1) := by decide +kernel
theorem dX1_nth_83 : decode cX1_nth 83 = .ok (.istore_n 3, 1) := by decide +kernel
theorem dX1_nth_84 : decode cX1_nth 84 = .ok (.iinc 4 1, 3) := by decide +kernel
theorem dX1_nth_87 : decode cX1_nth 87 = .ok (.goto (-56), 3) := by decide +kernel
theorem dX1_nth_90 : decode cX1_nth 90 = .ok (.iconst (-1), 1) := by decide +kernel
theorem dX1_nth_91 : decode cX1_nth 91 = .ok (.ireturn, 1) := by decide +kernel
theorem dX1_differences_0 : decode cX1_differences 0 = .ok (.iconst 0, 1) := by decide +kernel
theorem dX1_differences_1 : decode cX1_differences 1 = .ok (.istore_n 3, 1) := by decide +kernel
theorem dX1_differences_2 : decode cX1_differences 2 = .ok (.aload_n 0, 1) := by decide +kernel
theorem dX1_differences_3 : decode cX1_differences 3 = .ok (.getfield 15, 3) := by decide +kernel
theorem dX1_differences_6 : decode cX1_differences 6 = .ok (.iload_n 2, 1) := by decide +kernel
theorem dX1_differences_7 : decode cX1_differences 7 = .ok (.iaload, 1) := by decide +kernel
theorem dX1_differences_8 : decode cX1_differences 8 = .ok (.aload_n 1, 1) := by decide +kernel
theorem dX1_differences_9 : decode cX1_differences 9 = .ok (.getfield 15, 3) := by decide +kernel
theorem dX1_differences_12 : decode cX1_differences 12 = .ok (.iload_n 2, 1) := by decide +kernel
theorem dX1_differences_13 : decode cX1_differences 13 = .ok (.iaload, 1) := by decide +kernel
theorem dX1_differences_14 : decode cX1_differences 14 = .ok (.iadd, 1) := by decide +kernel
theorem dX1_differences_15 : decode cX1_differences 15 = .ok (.istore 4, 2) := by decide +kernel
theorem dX1_differences_17 : decode cX1_differences 17 = .ok (.iload_n 2, 1) := by decide +kernel
theorem dX1_differences_18 : decode cX1_differences 18 = .ok (.sipush 144, 3) := by decide +kernel
theorem dX1_differences_21 : decode cX1_differences 21 = .ok (.imul, 1) := by decide +kernel
theorem dX1_differences_22 : decode cX1_differences 22 = .ok (.istore 5, 2) := by decide +kernel
theorem dX1_differences_24 : decode cX1_differences 24 = .ok (.iload 4, 2) := by decide +kernel
theorem dX1_differences_26 : decode cX1_differences 26 = .ok (.ifCond .le 68, 3) := by decide +kernel
theorem dX1_differences_29 : decode cX1_differences 29 = .ok (.iload 5, 2) := by decide +kernel
theorem dX1_differences_31 : decode cX1_differences 31 = .ok (.iload_n 2, 1) := by decide +kernel
theorem dX1_differences_32 : decode cX1_differences 32 = .ok (.iconst 1, 1) := by decide +kernel
theorem dX1_differences_33 : decode cX1_differences 33 = .ok (.iadd, 1) := by decide +kernel
theorem dX1_differences_34 : decode cX1_differences 34 = .ok (.sipush 144, 3) := by decide +kernel
theorem dX1_differences_37 : decode cX1_differences 37 = .ok (.imul, 1) := by decide +kernel
theorem dX1_differences_38 : decode cX1_differences 38 = .ok (.if_icmp .ge 56, 3) := by decide +kernel
theorem dX1_differences_41 : decode cX1_differences 41 = .ok (.iload_n 3, 1) := by decide +kernel
theorem dX1_differences_42 : decode cX1_differences 42 = .ok (.aload_n 0, 1) := by decide +kernel
theorem dX1_differences_43 : decode cX1_differences 43 = .ok (.getfield 11, 3) := by decide +kernel
theorem dX1_differences_46 : decode cX1_differences 46 = .ok (.iload 5, 2) := by decide +kernel
theorem dX1_differences_48 : decode cX1_differences 48 = .ok (.iaload, 1) := by decide +kernel
theorem dX1_differences_49 : decode cX1_differences 49 = .ok (.aload_n 1, 1) := by decide +kernel
theorem dX1_differences_50 : decode cX1_differences 50 = .ok (.getfield 11, 3) := by decide +kernel
theorem dX1_differences_53 : decode cX1_differences 53 = .ok (.iload 5, 2) := by decide +kernel
theorem dX1_differences_55 : decode cX1_differences 55 = .ok (.iaload, 1) := by decide +kernel
theorem dX1_differences_56 : decode cX1_differences 56 = .ok (.ixor, 1) := by decide +kernel
theorem dX1_differences_57 : decode cX1_differences 57 = .ok (.invokestatic 32, 3) := by decide +kernel
theorem dX1_differences_60 : decode cX1_differences 60 = .ok (.iadd, 1) := by decide +kernel
theorem dX1_differences_61 : decode cX1_differences 61 = .ok (.istore_n 3, 1) := by decide +kernel
theorem dX1_differences_62 : decode cX1_differences 62 = .ok (.iload 4, 2) := by decide +kernel
theorem dX1_differences_64 : decode cX1_differences 64 = .ok (.aload_n 0, 1) := by decide +kernel
theorem dX1_differences_65 : decode cX1_differences 65 = .ok (.getfield 11, 3) := by decide +kernel
theorem dX1_differences_68 : decode cX1_differences 68 = .ok (.iload 5, 2) := by decide +kernel
theorem dX1_differences_70 : decode cX1_differences 70 = .ok (.iaload, 1) := by decide +kernel
theorem dX1_differences_71 : decode cX1_differences 71 = .ok (.invokestatic 32, 3) := by decide +kernel
theorem dX1_differences_74 : decode cX1_differences 74 = .ok (.aload_n 1, 1) := by decide +kernel
theorem dX1_differences_75 : decode cX1_differences 75 = .ok (.getfield 11, 3) := by decide +kernel
theorem dX1_differences_78 : decode cX1_differences 78 = .ok (.iload 5, 2) := by decide +kernel
theorem dX1_differences_80 : decode cX1_differences 80 = .ok (.iaload, 1) := by decide +kernel
theorem dX1_differences_81 : decode cX1_differences 81 = .ok (.invokestatic 32, 3) := by decide +kernel
theorem dX1_differences_84 : decode cX1_differences 84 = .ok (.iadd, 1) := by decide +kernel
theorem dX1_differences_85 : decode cX1_differences 85 = .ok (.isub, 1) := by decide +kernel
theorem dX1_differences_86 : decode cX1_differences 86 = .ok (.istore 4, 2) := by decide +kernel
theorem dX1_differences_88 : decode cX1_differences 88 = .ok (.iinc 5 1, 3) := by decide +kernel
theorem dX1_differences_91 : decode cX1_differences 91 = .ok (.goto (-67), 3) := by decide +kernel
theorem dX1_differences_94 : decode cX1_differences 94 = .ok (.iload_n 3, 1) := by decide +kernel
theorem dX1_differences_95 : decode cX1_differences 95 = .ok (.ireturn, 1) := by decide +kernel
theorem dX1_nthDifference_0 : decode cX1_nthDifference 0 = .ok (.iload_n 3, 1) := by decide +kernel
theorem dX1_nthDifference_1 : decode cX1_nthDifference 1 = .ok (.istore 4, 2) := by decide +kernel
theorem dX1_nthDifference_3 : decode cX1_nthDifference 3 = .ok (.iconst 0, 1) := by decide +kernel
theorem dX1_nthDifference_4 : decode cX1_nthDifference 4 = .ok (.istore 5, 2) := by decide +kernel
theorem dX1_nthDifference_6 : decode cX1_nthDifference 6 = .ok (.iload 5, 2) := by decide +kernel
theorem dX1_nthDifference_8 : decode cX1_nthDifference 8 = .ok (.sipush 144, 3) := by decide +kernel
theorem dX1_nthDifference_11 : decode cX1_nthDifference 11 = .ok (.if_icmp .ge 72, 3) := by decide +kernel
theorem dX1_nthDifference_14 : decode cX1_nthDifference 14 = .ok (.aload_n 0, 1) := by decide +kernel
theorem dX1_nthDifference_15 : decode cX1_nthDifference 15 = .ok (.getfield 11, 3) := by decide +kernel
theorem dX1_nthDifference_18 : decode cX1_nthDifference 18 = .ok (.iload_n 2, 1) := by decide +kernel
theorem dX1_nthDifference_19 : decode cX1_nthDifference 19 = .ok (.sipush 144, 3) := by decide +kernel
theorem dX1_nthDifference_22 : decode cX1_nthDifference 22 = .ok (.imul, 1) := by decide +kernel
theorem dX1_nthDifference_23 : decode cX1_nthDifference 23 = .ok (.iload 5, 2) := by decide +kernel
theorem dX1_nthDifference_25 : decode cX1_nthDifference 25 = .ok (.iadd, 1) := by decide +kernel
theorem dX1_nthDifference_26 : decode cX1_nthDifference 26 = .ok (.iaload, 1) := by decide +kernel
theorem dX1_nthDifference_27 : decode cX1_nthDifference 27 = .ok (.aload_n 1, 1) := by decide +kernel
theorem dX1_nthDifference_28 : decode cX1_nthDifference 28 = .ok (.getfield 11, 3) := by decide +kernel
theorem dX1_nthDifference_31 : decode cX1_nthDifference 31 = .ok (.iload_n 2, 1) := by decide +kernel
theorem dX1_nthDifference_32 : decode cX1_nthDifference 32 = .ok (.sipush 144, 3) := by decide +kernel
theorem dX1_nthDifference_35 : decode cX1_nthDifference 35 = .ok (.imul, 1) := by decide +kernel
theorem dX1_nthDifference_36 : decode cX1_nthDifference 36 = .ok (.iload 5, 2) := by decide +kernel
theorem dX1_nthDifference_38 : decode cX1_nthDifference 38 = .ok (.iadd, 1) := by decide +kernel
theorem dX1_nthDifference_39 : decode cX1_nthDifference 39 = .ok (.iaload, 1) := by decide +kernel
theorem dX1_nthDifference_40 : decode cX1_nthDifference 40 = .ok (.ixor, 1) := by decide +kernel
theorem dX1_nthDifference_41 : decode cX1_nthDifference 41 = .ok (.istore 6, 2) := by decide +kernel
theorem dX1_nthDifference_43 : decode cX1_nthDifference 43 = .ok (.iload 4, 2) := by decide +kernel
theorem dX1_nthDifference_45 : decode cX1_nthDifference 45 = .ok (.iload 6, 2) := by decide +kernel
theorem dX1_nthDifference_47 : decode cX1_nthDifference 47 = .ok (.invokestatic 32, 3) := by decide +kernel
theorem dX1_nthDifference_50 : decode cX1_nthDifference 50 = .ok (.if_icmp .ge 17, 3) := by decide +kernel
theorem dX1_nthDifference_53 : decode cX1_nthDifference 53 = .ok (.iload 5, 2) := by decide +kernel
theorem dX1_nthDifference_55 : decode cX1_nthDifference 55 = .ok (.bipush 12, 2) := by decide +kernel
theorem dX1_nthDifference_57 : decode cX1_nthDifference 57 = .ok (.imul, 1) := by decide +kernel
theorem dX1_nthDifference_58 : decode cX1_nthDifference 58 = .ok (.iload 6, 2) := by decide +kernel
theorem dX1_nthDifference_60 : decode cX1_nthDifference 60 = .ok (.iload 4, 2) := by decide +kernel
theorem dX1_nthDifference_62 : decode cX1_nthDifference 62 = .ok (.invokestatic 38, 3) := by decide +kernel
theorem dX1_nthDifference_65 : decode cX1_nthDifference 65 = .ok (.iadd, 1) := by decide +kernel
theorem dX1_nthDifference_66 : decode cX1_nthDifference 66 = .ok (.ireturn, 1) := by decide +kernel
theorem dX1_nthDifference_67 : decode cX1_nthDifference 67 = .ok (.iload 4, 2) := by decide +kernel
theorem dX1_nthDifference_69 : decode cX1_nthDifference 69 = .ok (.iload 6, 2) := by decide +kernel
theorem dX1_nthDifference_71 : decode cX1_nthDifference 71 = .ok (.invokestatic 32, 3) := by decide +kernel
theorem dX1_nthDifference_74 : decode cX1_nthDifference 74 = .ok (.isub, 1) := by decide +kernel
theorem dX1_nthDifference_75 : decode cX1_nthDifference 75 = .ok (.istore 4, 2) := by decide +kernel
theorem dX1_nthDifference_77 : decode cX1_nthDifference 77 = .ok (.iinc 5 1, 3) := by decide +kernel
theorem dX1_nthDifference_80 : decode cX1_nthDifference 80 = .ok (.goto (-74), 3) := by decide +kernel
theorem dX1_nthDifference_83 : decode cX1_nthDifference 83 = .ok (.iconst (-1), 1) := by decide +kernel
theorem dX1_nthDifference_84 : decode cX1_nthDifference 84 = .ok (.ireturn, 1) := by decide +kernel
theorem dX1_touched_0 : decode cX1_touched 0 = .ok (.iconst 0, 1) := by decide +kernel
theorem dX1_touched_1 : decode cX1_touched 1 = .ok (.istore_n 2, 1) := by decide +kernel
theorem dX1_touched_2 : decode cX1_touched 2 = .ok (.iconst 0, 1) := by decide +kernel
theorem dX1_touched_3 : decode cX1_touched 3 = .ok (.istore_n 3, 1) := by decide +kernel
theorem dX1_touched_4 : decode cX1_touched 4 = .ok (.iload_n 3, 1) := by decide +kernel
theorem dX1_touched_5 : decode cX1_touched 5 = .ok (.bipush 10, 2) := by decide +kernel
theorem dX1_touched_7 : decode cX1_touched 7 = .ok (.if_icmp .ge 24, 3) := by decide +kernel
theorem dX1_touched_10 : decode cX1_touched 10 = .ok (.aload_n 0, 1) := by decide +kernel
theorem dX1_touched_11 : decode cX1_touched 11 = .ok (.aload_n 1, 1) := by decide +kernel
theorem dX1_touched_12 : decode cX1_touched 12 = .ok (.iload_n 3, 1) := by decide +kernel
theorem dX1_touched_13 : decode cX1_touched 13 = .ok (.invokevirtual 42, 3) := by decide +kernel
theorem dX1_touched_16 : decode cX1_touched 16 = .ok (.ifCond .le 9, 3) := by decide +kernel
theorem dX1_touched_19 : decode cX1_touched 19 = .ok (.iload_n 2, 1) := by decide +kernel
theorem dX1_touched_20 : decode cX1_touched 20 = .ok (.iconst 1, 1) := by decide +kernel
theorem dX1_touched_21 : decode cX1_touched 21 = .ok (.iload_n 3, 1) := by decide +kernel
theorem dX1_touched_22 : decode cX1_touched 22 = .ok (.ishl, 1) := by decide +kernel
theorem dX1_touched_23 : decode cX1_touched 23 = .ok (.ior, 1) := by decide +kernel
theorem dX1_touched_24 : decode cX1_touched 24 = .ok (.istore_n 2, 1) := by decide +kernel
theorem dX1_touched_25 : decode cX1_touched 25 = .ok (.iinc 3 1, 3) := by decide +kernel
theorem dX1_touched_28 : decode cX1_touched 28 = .ok (.goto (-24), 3) := by decide +kernel
theorem dX1_touched_31 : decode cX1_touched 31 = .ok (.iload_n 2, 1) := by decide +kernel
theorem dX1_touched_32 : decode cX1_touched 32 = .ok (.ireturn, 1) := by decide +kernel
theorem dX1_nthBit_0 : decode cX1_nthBit 0 = .ok (.iload_n 1, 1) := by decide +kernel
theorem dX1_nthBit_1 : decode cX1_nthBit 1 = .ok (.istore_n 2, 1) := by decide +kernel
theorem dX1_nthBit_2 : decode cX1_nthBit 2 = .ok (.iconst 0, 1) := by decide +kernel
theorem dX1_nthBit_3 : decode cX1_nthBit 3 = .ok (.istore_n 3, 1) := by decide +kernel
theorem dX1_nthBit_4 : decode cX1_nthBit 4 = .ok (.iload_n 3, 1) := by decide +kernel
theorem dX1_nthBit_5 : decode cX1_nthBit 5 = .ok (.bipush 12, 2) := by decide +kernel
theorem dX1_nthBit_7 : decode cX1_nthBit 7 = .ok (.if_icmp .ge 26, 3) := by decide +kernel
theorem dX1_nthBit_10 : decode cX1_nthBit 10 = .ok (.iload_n 0, 1) := by decide +kernel
theorem dX1_nthBit_11 : decode cX1_nthBit 11 = .ok (.iload_n 3, 1) := by decide +kernel
theorem dX1_nthBit_12 : decode cX1_nthBit 12 = .ok (.ishr, 1) := by decide +kernel
theorem dX1_nthBit_13 : decode cX1_nthBit 13 = .ok (.iconst 1, 1) := by decide +kernel
theorem dX1_nthBit_14 : decode cX1_nthBit 14 = .ok (.iand, 1) := by decide +kernel
theorem dX1_nthBit_15 : decode cX1_nthBit 15 = .ok (.ifCond .eq 12, 3) := by decide +kernel
theorem dX1_nthBit_18 : decode cX1_nthBit 18 = .ok (.iload_n 2, 1) := by decide +kernel
theorem dX1_nthBit_19 : decode cX1_nthBit 19 = .ok (.ifCond .ne 5, 3) := by decide +kernel
theorem dX1_nthBit_22 : decode cX1_nthBit 22 = .ok (.iload_n 3, 1) := by decide +kernel
theorem dX1_nthBit_23 : decode cX1_nthBit 23 = .ok (.ireturn, 1) := by decide +kernel
theorem dX1_nthBit_24 : decode cX1_nthBit 24 = .ok (.iinc 2 (-1), 3) := by decide +kernel
theorem dX1_nthBit_27 : decode cX1_nthBit 27 = .ok (.iinc 3 1, 3) := by decide +kernel
theorem dX1_nthBit_30 : decode cX1_nthBit 30 = .ok (.goto (-26), 3) := by decide +kernel
theorem dX1_nthBit_33 : decode cX1_nthBit 33 = .ok (.iconst (-1), 1) := by decide +kernel
theorem dX1_nthBit_34 : decode cX1_nthBit 34 = .ok (.ireturn, 1) := by decide +kernel
