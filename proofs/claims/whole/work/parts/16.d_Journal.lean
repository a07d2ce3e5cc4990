theorem dX3_init_0 : decode cX3_init 0 = .ok (.aload_n 0, 1) := by decide +kernel
theorem dX3_init_1 : decode cX3_init 1 = .ok (.invokespecial 1, 3) := by decide +kernel
theorem dX3_init_4 : decode cX3_init 4 = .ok (.aload_n 0, 1) := by decide +kernel
theorem dX3_init_5 : decode cX3_init 5 = .ok (.iconst 0, 1) := by decide +kernel
theorem dX3_init_6 : decode cX3_init 6 = .ok (.putfield 7, 3) := by decide +kernel
theorem dX3_init_9 : decode cX3_init 9 = .ok (.aload_n 0, 1) := by decide +kernel
theorem dX3_init_10 : decode cX3_init 10 = .ok (.iload_n 1, 1) := by decide +kernel
theorem dX3_init_11 : decode cX3_init 11 = .ok (.newarray .boolean, 2) := by decide +kernel
theorem dX3_init_13 : decode cX3_init 13 = .ok (.putfield 13, 3) := by decide +kernel
theorem dX3_init_16 : decode cX3_init 16 = .ok (.aload_n 0, 1) := by decide +kernel
theorem dX3_init_17 : decode cX3_init 17 = .ok (.iload_n 1, 1) := by decide +kernel
theorem dX3_init_18 : decode cX3_init 18 = .ok (.newarray .int, 2) := by decide +kernel
theorem dX3_init_20 : decode cX3_init 20 = .ok (.putfield 17, 3) := by decide +kernel
theorem dX3_init_23 : decode cX3_init 23 = .ok (.aload_n 0, 1) := by decide +kernel
theorem dX3_init_24 : decode cX3_init 24 = .ok (.iload_n 1, 1) := by decide +kernel
theorem dX3_init_25 : decode cX3_init 25 = .ok (.newarray .int, 2) := by decide +kernel
theorem dX3_init_27 : decode cX3_init 27 = .ok (.putfield 21, 3) := by decide +kernel
theorem dX3_init_30 : decode cX3_init 30 = .ok (.return_, 1) := by decide +kernel
theorem dX3_size_0 : decode cX3_size 0 = .ok (.aload_n 0, 1) := by decide +kernel
theorem dX3_size_1 : decode cX3_size 1 = .ok (.getfield 7, 3) := by decide +kernel
theorem dX3_size_4 : decode cX3_size 4 = .ok (.ireturn, 1) := by decide +kernel
theorem dX3_add_0 : decode cX3_add 0 = .ok (.aload_n 0, 1) := by decide +kernel
theorem dX3_add_1 : decode cX3_add 1 = .ok (.getfield 7, 3) := by decide +kernel
theorem dX3_add_4 : decode cX3_add 4 = .ok (.aload_n 0, 1) := by decide +kernel
theorem dX3_add_5 : decode cX3_add 5 = .ok (.getfield 17, 3) := by decide +kernel
theorem dX3_add_8 : decode cX3_add 8 = .ok (.arraylength, 1) := by decide +kernel
theorem dX3_add_9 : decode cX3_add 9 = .ok (.if_icmp .lt 5, 3) := by decide +kernel
theorem dX3_add_12 : decode cX3_add 12 = .ok (.iconst 0, 1) := by decide +kernel
theorem dX3_add_13 : decode cX3_add 13 = .ok (.ireturn, 1) := by decide +kernel
theorem dX3_add_14 : decode cX3_add 14 = .ok (.aload_n 0, 1) := by decide +kernel
theorem dX3_add_15 : decode cX3_add 15 = .ok (.getfield 13, 3) := by decide +kernel
theorem dX3_add_18 : decode cX3_add 18 = .ok (.aload_n 0, 1) := by decide +kernel
theorem dX3_add_19 : decode cX3_add 19 = .ok (.getfield 7, 3) := by decide +kernel
theorem dX3_add_22 : decode cX3_add 22 = .ok (.iload_n 1, 1) := by decide +kernel
theorem dX3_add_23 : decode cX3_add 23 = .ok (.bastore, 1) := by decide +kernel
theorem dX3_add_24 : decode cX3_add 24 = .ok (.aload_n 0, 1) := by decide +kernel
theorem dX3_add_25 : decode cX3_add 25 = .ok (.getfield 17, 3) := by decide +kernel
theorem dX3_add_28 : decode cX3_add 28 = .ok (.aload_n 0, 1) := by decide +kernel
theorem dX3_add_29 : decode cX3_add 29 = .ok (.getfield 7, 3) := by decide +kernel
theorem dX3_add_32 : decode cX3_add 32 = .ok (.iload_n 2, 1) := by decide +kernel
theorem dX3_add_33 : decode cX3_add 33 = .ok (.iastore, 1) := by decide +kernel
theorem dX3_add_34 : decode cX3_add 34 = .ok (.aload_n 0, 1) := by decide +kernel
theorem dX3_add_35 : decode cX3_add 35 = .ok (.getfield 21, 3) := by decide +kernel
theorem dX3_add_38 : decode cX3_add 38 = .ok (.aload_n 0, 1) := by decide +kernel
theorem dX3_add_39 : decode cX3_add 39 = .ok (.getfield 7, 3) := by decide +kernel
theorem dX3_add_42 : decode cX3_add 42 = .ok (.iload_n 3, 1) := by decide +kernel
theorem dX3_add_43 : decode cX3_add 43 = .ok (.iastore, 1) := by decide +kernel
theorem dX3_add_44 : decode cX3_add 44 = .ok (.aload_n 0, 1) := by decide +kernel
theorem dX3_add_45 : decode cX3_add 45 = .ok (.dup, 1) := by decide +kernel
theorem dX3_add_46 : decode cX3_add 46 = .ok (.getfield 7, 3) := by decide +kernel
theorem dX3_add_49 : decode cX3_add 49 = .ok (.iconst 1, 1) := by decide +kernel
theorem dX3_add_50 : decode cX3_add 50 = .ok (.iadd, 1) := by decide +kernel
theorem dX3_add_51 : decode cX3_add 51 = .ok (.putfield 7, 3) := by decide +kernel
theorem dX3_add_54 : decode cX3_add 54 = .ok (.iconst 1, 1) := by decide +kernel
theorem dX3_add_55 : decode cX3_add 55 = .ok (.ireturn, 1) := by decide +kernel
theorem dX3_append_0 : decode cX3_append 0 = .ok (.iconst 0, 1) := by decide +kernel
theorem dX3_append_1 : decode cX3_append 1 = .ok (.istore_n 2, 1) := by decide +kernel
theorem dX3_append_2 : decode cX3_append 2 = .ok (.iload_n 2, 1) := by decide +kernel
theorem dX3_append_3 : decode cX3_append 3 = .ok (.aload_n 1, 1) := by decide +kernel
theorem dX3_append_4 : decode cX3_append 4 = .ok (.getfield 7, 3) := by decide +kernel
theorem dX3_append_7 : decode cX3_append 7 = .ok (.if_icmp .ge 32, 3) := by decide +kernel
theorem dX3_append_10 : decode cX3_append 10 = .ok (.aload_n 0, 1) := by decide +kernel
theorem dX3_append_11 : decode cX3_append 11 = .ok (.aload_n 1, 1) := by decide +kernel
theorem dX3_append_12 : decode cX3_append 12 = .ok (.getfield 13, 3) := by decide +kernel
theorem dX3_append_15 : decode cX3_append 15 = .ok (.iload_n 2, 1) := by decide +kernel
theorem dX3_append_16 : decode cX3_append 16 = .ok (.baload, 1) := by decide +kernel
theorem dX3_append_17 : decode cX3_append 17 = .ok (.aload_n 1, 1) := by decide +kernel
theorem dX3_append_18 : decode cX3_append 18 = .ok (.getfield 17, 3) := by decide +kernel
theorem dX3_append_21 : decode cX3_append 21 = .ok (.iload_n 2, 1) := by decide +kernel
theorem dX3_append_22 : decode cX3_append 22 = .ok (.iaload, 1) := by decide +kernel
theorem dX3_append_23 : decode cX3_append 23 = .ok (.aload_n 1, 1) := by decide +kernel
theorem dX3_append_24 : decode cX3_append 24 = .ok (.getfield 21, 3) := by decide +kernel
theorem dX3_append_27 : decode cX3_append 27 = .ok (.iload_n 2, 1) := by decide +kernel
theorem dX3_append_28 : decode cX3_append 28 = .ok (.iaload, 1) := by decide +kernel
theorem dX3_append_29 : decode cX3_append 29 = .ok (.invokevirtual 24, 3) := by decide +kernel
theorem dX3_append_32 : decode cX3_append 32 = .ok (.pop, 1) := by decide +kernel
theorem dX3_append_33 : decode cX3_append 33 = .ok (.iinc 2 1, 3) := by decide +kernel
theorem dX3_append_36 : decode cX3_append 36 = .ok (.goto (-34), 3) := by decide +kernel
theorem dX3_append_39 : decode cX3_append 39 = .ok (.return_, 1) := by decide +kernel
theorem dX3_shorten_0 : decode cX3_shorten 0 = .ok (.aload_n 0, 1) := by decide +kernel
theorem dX3_shorten_1 : decode cX3_shorten 1 = .ok (.iconst 0, 1) := by decide +kernel
theorem dX3_shorten_2 : decode cX3_shorten 2 = .ok (.aload_n 0, 1) := by decide +kernel
theorem dX3_shorten_3 : decode cX3_shorten 3 = .ok (.getfield 7, 3) := by decide +kernel
theorem dX3_shorten_6 : decode cX3_shorten 6 = .ok (.iload_n 1, 1) := by decide +kernel
theorem dX3_shorten_7 : decode cX3_shorten 7 = .ok (.invokestatic 28, 3) := by decide +kernel
theorem dX3_shorten_10 : decode cX3_shorten 10 = .ok (.invokestatic 34, 3) := by decide +kernel
theorem dX3_shorten_13 : decode cX3_shorten 13 = .ok (.putfield 7, 3) := by decide +kernel
theorem dX3_shorten_16 : decode cX3_shorten 16 = .ok (.return_, 1) := by decide +kernel
theorem dX3_replay_0 : decode cX3_replay 0 = .ok (.iconst 0, 1) := by decide +kernel
theorem dX3_replay_1 : decode cX3_replay 1 = .ok (.istore_n 2, 1) := by decide +kernel
theorem dX3_replay_2 : decode cX3_replay 2 = .ok (.iload_n 2, 1) := by decide +kernel
theorem dX3_replay_3 : decode cX3_replay 3 = .ok (.aload_n 0, 1) := by decide +kernel
theorem dX3_replay_4 : decode cX3_replay 4 = .ok (.getfield 7, 3) := by decide +kernel
theorem dX3_replay_7 : decode cX3_replay 7 = .ok (.if_icmp .ge 53, 3) := by decide +kernel
theorem dX3_replay_10 : decode cX3_replay 10 = .ok (.aload_n 0, 1) := by decide +kernel
theorem dX3_replay_11 : decode cX3_replay 11 = .ok (.getfield 13, 3) := by decide +kernel
theorem dX3_replay_14 : decode cX3_replay 14 = .ok (.iload_n 2, 1) := by decide +kernel
theorem dX3_replay_15 : decode cX3_replay 15 = .ok (.baload, 1) := by decide +kernel
theorem dX3_replay_16 : decode cX3_replay 16 = .ok (.ifCond .eq 22, 3) := by decide +kernel
theorem dX3_replay_19 : decode cX3_replay 19 = .ok (.aload_n 1, 1) := by decide +kernel
theorem dX3_replay_20 : decode cX3_replay 20 = .ok (.aload_n 0, 1) := by decide +kernel
theorem dX3_replay_21 : decode cX3_replay 21 = .ok (.getfield 17, 3) := by decide +kernel
theorem dX3_replay_24 : decode cX3_replay 24 = .ok (.iload_n 2, 1) := by decide +kernel
theorem dX3_replay_25 : decode cX3_replay 25 = .ok (.iaload, 1) := by decide +kernel
theorem dX3_replay_26 : decode cX3_replay 26 = .ok (.aload_n 0, 1) := by decide +kernel
theorem dX3_replay_27 : decode cX3_replay 27 = .ok (.getfield 21, 3) := by decide +kernel
theorem dX3_replay_30 : decode cX3_replay 30 = .ok (.iload_n 2, 1) := by decide +kernel
theorem dX3_replay_31 : decode cX3_replay 31 = .ok (.iaload, 1) := by decide +kernel
theorem dX3_replay_32 : decode cX3_replay 32 = .ok (.invokevirtual 37, 3) := by decide +kernel
theorem dX3_replay_35 : decode cX3_replay 35 = .ok (.goto 19, 3) := by decide +kernel
theorem dX3_replay_38 : decode cX3_replay 38 = .ok (.aload_n 1, 1) := by decide +kernel
theorem dX3_replay_39 : decode cX3_replay 39 = .ok (.aload_n 0, 1) := by decide +kernel
theorem dX3_replay_40 : decode cX3_replay 40 = .ok (.getfield 17, 3) := by decide +kernel
theorem dX3_replay_43 : decode cX3_replay 43 = .ok (.iload_n 2, 1) := by decide +kernel
theorem dX3_replay_44 : decode cX3_replay 44 = .ok (.iaload, 1) := by decide +kernel
theorem dX3_replay_45 : decode cX3_replay 45 = .ok (.aload_n 0, 1) := by decide +kernel
theorem dX3_replay_46 : decode cX3_replay 46 = .ok (.getfield 21, 3) := by decide +kernel
theorem dX3_replay_49 : decode cX3_replay 49 = .ok (.iload_n 2, 1) := by decide +kernel
theorem dX3_replay_50 : decode cX3_replay 50 = .ok (.iaload, 1) := by decide +kernel
theorem dX3_replay_51 : decode cX3_replay 51 = .ok (.invokevirtual 42, 3) := by decide +kernel
theorem dX3_replay_54 : decode cX3_replay 54 = .ok (.iinc 2 1, 3) := by decide +kernel
theorem dX3_replay_57 : decode cX3_replay 57 = .ok (.goto (-55), 3) := by decide +kernel
theorem dX3_replay_60 : decode cX3_replay 60 = .ok (.return_, 1) := by decide +kernel
