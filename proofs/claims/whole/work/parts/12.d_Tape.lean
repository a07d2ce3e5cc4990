theorem dX7_init_0 : decode cX7_init 0 = .ok (.aload_n 0, 1) := by decide +kernel
theorem dX7_init_1 : decode cX7_init 1 = .ok (.invokespecial 1, 3) := by decide +kernel
theorem dX7_init_4 : decode cX7_init 4 = .ok (.aload_n 0, 1) := by decide +kernel
theorem dX7_init_5 : decode cX7_init 5 = .ok (.sipush 480, 3) := by decide +kernel
theorem dX7_init_8 : decode cX7_init 8 = .ok (.newarray .byte, 2) := by decide +kernel
theorem dX7_init_10 : decode cX7_init 10 = .ok (.putfield 9, 3) := by decide +kernel
theorem dX7_init_13 : decode cX7_init 13 = .ok (.aload_n 0, 1) := by decide +kernel
theorem dX7_init_14 : decode cX7_init 14 = .ok (.iconst 0, 1) := by decide +kernel
theorem dX7_init_15 : decode cX7_init 15 = .ok (.putfield 13, 3) := by decide +kernel
theorem dX7_init_18 : decode cX7_init 18 = .ok (.return_, 1) := by decide +kernel
theorem dX7_append_0 : decode cX7_append 0 = .ok (.iload_n 3, 1) := by decide +kernel
theorem dX7_append_1 : decode cX7_append 1 = .ok (.iconst 1, 1) := by decide +kernel
theorem dX7_append_2 : decode cX7_append 2 = .ok (.if_icmp .lt 29, 3) := by decide +kernel
theorem dX7_append_5 : decode cX7_append 5 = .ok (.iload_n 3, 1) := by decide +kernel
theorem dX7_append_6 : decode cX7_append 6 = .ok (.bipush 8, 2) := by decide +kernel
theorem dX7_append_8 : decode cX7_append 8 = .ok (.if_icmp .gt 23, 3) := by decide +kernel
theorem dX7_append_11 : decode cX7_append 11 = .ok (.aload_n 0, 1) := by decide +kernel
theorem dX7_append_12 : decode cX7_append 12 = .ok (.getfield 13, 3) := by decide +kernel
theorem dX7_append_15 : decode cX7_append 15 = .ok (.iload_n 3, 1) := by decide +kernel
theorem dX7_append_16 : decode cX7_append 16 = .ok (.iadd, 1) := by decide +kernel
theorem dX7_append_17 : decode cX7_append 17 = .ok (.sipush 480, 3) := by decide +kernel
theorem dX7_append_20 : decode cX7_append 20 = .ok (.if_icmp .gt 11, 3) := by decide +kernel
theorem dX7_append_23 : decode cX7_append 23 = .ok (.lload_n 1, 1) := by decide +kernel
theorem dX7_append_24 : decode cX7_append 24 = .ok (.iload_n 3, 1) := by decide +kernel
theorem dX7_append_25 : decode cX7_append 25 = .ok (.invokestatic 17, 3) := by decide +kernel
theorem dX7_append_28 : decode cX7_append 28 = .ok (.ifCond .ne 5, 3) := by decide +kernel
theorem dX7_append_31 : decode cX7_append 31 = .ok (.iconst 0, 1) := by decide +kernel
theorem dX7_append_32 : decode cX7_append 32 = .ok (.ireturn, 1) := by decide +kernel
theorem dX7_append_33 : decode cX7_append 33 = .ok (.iload_n 3, 1) := by decide +kernel
theorem dX7_append_34 : decode cX7_append 34 = .ok (.iconst 1, 1) := by decide +kernel
theorem dX7_append_35 : decode cX7_append 35 = .ok (.isub, 1) := by decide +kernel
theorem dX7_append_36 : decode cX7_append 36 = .ok (.istore 4, 2) := by decide +kernel
theorem dX7_append_38 : decode cX7_append 38 = .ok (.iload 4, 2) := by decide +kernel
theorem dX7_append_40 : decode cX7_append 40 = .ok (.ifCond .lt 35, 3) := by decide +kernel
theorem dX7_append_43 : decode cX7_append 43 = .ok (.aload_n 0, 1) := by decide +kernel
theorem dX7_append_44 : decode cX7_append 44 = .ok (.getfield 9, 3) := by decide +kernel
theorem dX7_append_47 : decode cX7_append 47 = .ok (.aload_n 0, 1) := by decide +kernel
theorem dX7_append_48 : decode cX7_append 48 = .ok (.getfield 13, 3) := by decide +kernel
theorem dX7_append_51 : decode cX7_append 51 = .ok (.lload_n 1, 1) := by decide +kernel
theorem dX7_append_52 : decode cX7_append 52 = .ok (.iload 4, 2) := by decide +kernel
theorem dX7_append_54 : decode cX7_append 54 = .ok (.invokestatic 21, 3) := by decide +kernel
theorem dX7_append_57 : decode cX7_append 57 = .ok (.i2b, 1) := by decide +kernel
theorem dX7_append_58 : decode cX7_append 58 = .ok (.bastore, 1) := by decide +kernel
theorem dX7_append_59 : decode cX7_append 59 = .ok (.aload_n 0, 1) := by decide +kernel
theorem dX7_append_60 : decode cX7_append 60 = .ok (.dup, 1) := by decide +kernel
theorem dX7_append_61 : decode cX7_append 61 = .ok (.getfield 13, 3) := by decide +kernel
theorem dX7_append_64 : decode cX7_append 64 = .ok (.iconst 1, 1) := by decide +kernel
theorem dX7_append_65 : decode cX7_append 65 = .ok (.iadd, 1) := by decide +kernel
theorem dX7_append_66 : decode cX7_append 66 = .ok (.putfield 13, 3) := by decide +kernel
theorem dX7_append_69 : decode cX7_append 69 = .ok (.iinc 4 (-1), 3) := by decide +kernel
theorem dX7_append_72 : decode cX7_append 72 = .ok (.goto (-34), 3) := by decide +kernel
theorem dX7_append_75 : decode cX7_append 75 = .ok (.iconst 1, 1) := by decide +kernel
theorem dX7_append_76 : decode cX7_append 76 = .ok (.ireturn, 1) := by decide +kernel
theorem dX7_clear_0 : decode cX7_clear 0 = .ok (.aload_n 0, 1) := by decide +kernel
theorem dX7_clear_1 : decode cX7_clear 1 = .ok (.iconst 0, 1) := by decide +kernel
theorem dX7_clear_2 : decode cX7_clear 2 = .ok (.putfield 13, 3) := by decide +kernel
theorem dX7_clear_5 : decode cX7_clear 5 = .ok (.return_, 1) := by decide +kernel
theorem dX7_at_0 : decode cX7_at 0 = .ok (.iload_n 1, 1) := by decide +kernel
theorem dX7_at_1 : decode cX7_at 1 = .ok (.ifCond .lt 20, 3) := by decide +kernel
theorem dX7_at_4 : decode cX7_at 4 = .ok (.iload_n 1, 1) := by decide +kernel
theorem dX7_at_5 : decode cX7_at 5 = .ok (.aload_n 0, 1) := by decide +kernel
theorem dX7_at_6 : decode cX7_at 6 = .ok (.getfield 13, 3) := by decide +kernel
theorem dX7_at_9 : decode cX7_at 9 = .ok (.if_icmp .ge 12, 3) := by decide +kernel
theorem dX7_at_12 : decode cX7_at 12 = .ok (.aload_n 0, 1) := by decide +kernel
theorem dX7_at_13 : decode cX7_at 13 = .ok (.getfield 9, 3) := by decide +kernel
theorem dX7_at_16 : decode cX7_at 16 = .ok (.iload_n 1, 1) := by decide +kernel
theorem dX7_at_17 : decode cX7_at 17 = .ok (.baload, 1) := by decide +kernel
theorem dX7_at_18 : decode cX7_at 18 = .ok (.goto 4, 3) := by decide +kernel
theorem dX7_at_21 : decode cX7_at 21 = .ok (.iconst (-1), 1) := by decide +kernel
theorem dX7_at_22 : decode cX7_at 22 = .ok (.ireturn, 1) := by decide +kernel
theorem dX7_isPrintable_0 : decode cX7_isPrintable 0 = .ok (.iconst 0, 1) := by decide +kernel
theorem dX7_isPrintable_1 : decode cX7_isPrintable 1 = .ok (.istore_n 3, 1) := by decide +kernel
theorem dX7_isPrintable_2 : decode cX7_isPrintable 2 = .ok (.iload_n 3, 1) := by decide +kernel
theorem dX7_isPrintable_3 : decode cX7_isPrintable 3 = .ok (.iload_n 2, 1) := by decide +kernel
theorem dX7_isPrintable_4 : decode cX7_isPrintable 4 = .ok (.if_icmp .ge 32, 3) := by decide +kernel
theorem dX7_isPrintable_7 : decode cX7_isPrintable 7 = .ok (.lload_n 0, 1) := by decide +kernel
theorem dX7_isPrintable_8 : decode cX7_isPrintable 8 = .ok (.iload_n 3, 1) := by decide +kernel
theorem dX7_isPrintable_9 : decode cX7_isPrintable 9 = .ok (.invokestatic 21, 3) := by decide +kernel
theorem dX7_isPrintable_12 : decode cX7_isPrintable 12 = .ok (.istore 4, 2) := by decide +kernel
theorem dX7_isPrintable_14 : decode cX7_isPrintable 14 = .ok (.iload 4, 2) := by decide +kernel
theorem dX7_isPrintable_16 : decode cX7_isPrintable 16 = .ok (.bipush 32, 2) := by decide +kernel
theorem dX7_isPrintable_18 : decode cX7_isPrintable 18 = .ok (.if_icmp .lt 10, 3) := by decide +kernel
theorem dX7_isPrintable_21 : decode cX7_isPrintable 21 = .ok (.iload 4, 2) := by decide +kernel
theorem dX7_isPrintable_23 : decode cX7_isPrintable 23 = .ok (.bipush 126, 2) := by decide +kernel
theorem dX7_isPrintable_25 : decode cX7_isPrintable 25 = .ok (.if_icmp .le 5, 3) := by decide +kernel
theorem dX7_isPrintable_28 : decode cX7_isPrintable 28 = .ok (.iconst 0, 1) := by decide +kernel
theorem dX7_isPrintable_29 : decode cX7_isPrintable 29 = .ok (.ireturn, 1) := by decide +kernel
theorem dX7_isPrintable_30 : decode cX7_isPrintable 30 = .ok (.iinc 3 1, 3) := by decide +kernel
theorem dX7_isPrintable_33 : decode cX7_isPrintable 33 = .ok (.goto (-31), 3) := by decide +kernel
theorem dX7_isPrintable_36 : decode cX7_isPrintable 36 = .ok (.iconst 1, 1) := by decide +kernel
theorem dX7_isPrintable_37 : decode cX7_isPrintable 37 = .ok (.ireturn, 1) := by decide +kernel
theorem dX7_byteOf_0 : decode cX7_byteOf 0 = .ok (.lload_n 0, 1) := by decide +kernel
theorem dX7_byteOf_1 : decode cX7_byteOf 1 = .ok (.bipush 8, 2) := by decide +kernel
theorem dX7_byteOf_3 : decode cX7_byteOf 3 = .ok (.iload_n 2, 1) := by decide +kernel
theorem dX7_byteOf_4 : decode cX7_byteOf 4 = .ok (.imul, 1) := by decide +kernel
theorem dX7_byteOf_5 : decode cX7_byteOf 5 = .ok (.lushr, 1) := by decide +kernel
theorem dX7_byteOf_6 : decode cX7_byteOf 6 = .ok (.l2i, 1) := by decide +kernel
theorem dX7_byteOf_7 : decode cX7_byteOf 7 = .ok (.sipush 255, 3) := by decide +kernel
theorem dX7_byteOf_10 : decode cX7_byteOf 10 = .ok (.iand, 1) := by decide +kernel
theorem dX7_byteOf_11 : decode cX7_byteOf 11 = .ok (.ireturn, 1) := by decide +kernel
