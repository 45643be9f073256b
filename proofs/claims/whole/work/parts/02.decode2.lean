theorem d_Mo_init_0 : decode c_Mo_init 0 = .ok (.aload_n 0, 1) := by decide +kernel
theorem d_Mo_init_1 : decode c_Mo_init 1 = .ok (.invokespecial 1, 3) := by decide +kernel
theorem d_Mo_init_4 : decode c_Mo_init 4 = .ok (.aload_n 0, 1) := by decide +kernel
theorem d_Mo_init_5 : decode c_Mo_init 5 = .ok (.sipush 10000, 3) := by decide +kernel
theorem d_Mo_init_8 : decode c_Mo_init 8 = .ok (.newarray .byte, 2) := by decide +kernel
theorem d_Mo_init_10 : decode c_Mo_init 10 = .ok (.putfield 7, 3) := by decide +kernel
theorem d_Mo_init_13 : decode c_Mo_init 13 = .ok (.aload_n 0, 1) := by decide +kernel
theorem d_Mo_init_14 : decode c_Mo_init 14 = .ok (.sipush 10000, 3) := by decide +kernel
theorem d_Mo_init_17 : decode c_Mo_init 17 = .ok (.newarray .byte, 2) := by decide +kernel
theorem d_Mo_init_19 : decode c_Mo_init 19 = .ok (.putfield 13, 3) := by decide +kernel
theorem d_Mo_init_22 : decode c_Mo_init 22 = .ok (.aload_n 0, 1) := by decide +kernel
theorem d_Mo_init_23 : decode c_Mo_init 23 = .ok (.sipush 20000, 3) := by decide +kernel
theorem d_Mo_init_26 : decode c_Mo_init 26 = .ok (.newarray .byte, 2) := by decide +kernel
theorem d_Mo_init_28 : decode c_Mo_init 28 = .ok (.putfield 16, 3) := by decide +kernel
theorem d_Mo_init_31 : decode c_Mo_init 31 = .ok (.aload_n 0, 1) := by decide +kernel
theorem d_Mo_init_32 : decode c_Mo_init 32 = .ok (.sipush 10001, 3) := by decide +kernel
theorem d_Mo_init_35 : decode c_Mo_init 35 = .ok (.newarray .int, 2) := by decide +kernel
theorem d_Mo_init_37 : decode c_Mo_init 37 = .ok (.putfield 19, 3) := by decide +kernel
theorem d_Mo_init_40 : decode c_Mo_init 40 = .ok (.aload_n 0, 1) := by decide +kernel
theorem d_Mo_init_41 : decode c_Mo_init 41 = .ok (.sipush 10001, 3) := by decide +kernel
theorem d_Mo_init_44 : decode c_Mo_init 44 = .ok (.newarray .int, 2) := by decide +kernel
theorem d_Mo_init_46 : decode c_Mo_init 46 = .ok (.putfield 23, 3) := by decide +kernel
theorem d_Mo_init_49 : decode c_Mo_init 49 = .ok (.return_, 1) := by decide +kernel
theorem d_Mo_write_0 : decode c_Mo_write 0 = .ok (.iload_n 3, 1) := by decide +kernel
theorem d_Mo_write_1 : decode c_Mo_write 1 = .ok (.iconst 1, 1) := by decide +kernel
theorem d_Mo_write_2 : decode c_Mo_write 2 = .ok (.if_icmp .lt 21, 3) := by decide +kernel
theorem d_Mo_write_5 : decode c_Mo_write 5 = .ok (.iload_n 3, 1) := by decide +kernel
theorem d_Mo_write_6 : decode c_Mo_write 6 = .ok (.bipush 8, 2) := by decide +kernel
theorem d_Mo_write_8 : decode c_Mo_write 8 = .ok (.if_icmp .gt 15, 3) := by decide +kernel
theorem d_Mo_write_11 : decode c_Mo_write 11 = .ok (.aload_n 0, 1) := by decide +kernel
theorem d_Mo_write_12 : decode c_Mo_write 12 = .ok (.getfield 26, 3) := by decide +kernel
theorem d_Mo_write_15 : decode c_Mo_write 15 = .ok (.iload_n 3, 1) := by decide +kernel
theorem d_Mo_write_16 : decode c_Mo_write 16 = .ok (.iadd, 1) := by decide +kernel
theorem d_Mo_write_17 : decode c_Mo_write 17 = .ok (.sipush 10000, 3) := by decide +kernel
theorem d_Mo_write_20 : decode c_Mo_write 20 = .ok (.if_icmp .le 5, 3) := by decide +kernel
theorem d_Mo_write_23 : decode c_Mo_write 23 = .ok (.iconst 0, 1) := by decide +kernel
theorem d_Mo_write_24 : decode c_Mo_write 24 = .ok (.ireturn, 1) := by decide +kernel
theorem d_Mo_write_25 : decode c_Mo_write 25 = .ok (.iconst 0, 1) := by decide +kernel
theorem d_Mo_write_26 : decode c_Mo_write 26 = .ok (.istore 4, 2) := by decide +kernel
theorem d_Mo_write_28 : decode c_Mo_write 28 = .ok (.iload 4, 2) := by decide +kernel
theorem d_Mo_write_30 : decode c_Mo_write 30 = .ok (.iload_n 3, 1) := by decide +kernel
theorem d_Mo_write_31 : decode c_Mo_write 31 = .ok (.if_icmp .ge 40, 3) := by decide +kernel
theorem d_Mo_write_34 : decode c_Mo_write 34 = .ok (.aload_n 0, 1) := by decide +kernel
theorem d_Mo_write_35 : decode c_Mo_write 35 = .ok (.getfield 7, 3) := by decide +kernel
theorem d_Mo_write_38 : decode c_Mo_write 38 = .ok (.aload_n 0, 1) := by decide +kernel
theorem d_Mo_write_39 : decode c_Mo_write 39 = .ok (.getfield 26, 3) := by decide +kernel
theorem d_Mo_write_42 : decode c_Mo_write 42 = .ok (.lload_n 1, 1) := by decide +kernel
theorem d_Mo_write_43 : decode c_Mo_write 43 = .ok (.bipush 56, 2) := by decide +kernel
theorem d_Mo_write_45 : decode c_Mo_write 45 = .ok (.bipush 8, 2) := by decide +kernel
theorem d_Mo_write_47 : decode c_Mo_write 47 = .ok (.iload 4, 2) := by decide +kernel
theorem d_Mo_write_49 : decode c_Mo_write 49 = .ok (.imul, 1) := by decide +kernel
theorem d_Mo_write_50 : decode c_Mo_write 50 = .ok (.isub, 1) := by decide +kernel
theorem d_Mo_write_51 : decode c_Mo_write 51 = .ok (.lushr, 1) := by decide +kernel
theorem d_Mo_write_52 : decode c_Mo_write 52 = .ok (.l2i, 1) := by decide +kernel
theorem d_Mo_write_53 : decode c_Mo_write 53 = .ok (.i2b, 1) := by decide +kernel
theorem d_Mo_write_54 : decode c_Mo_write 54 = .ok (.bastore, 1) := by decide +kernel
theorem d_Mo_write_55 : decode c_Mo_write 55 = .ok (.aload_n 0, 1) := by decide +kernel
theorem d_Mo_write_56 : decode c_Mo_write 56 = .ok (.dup, 1) := by decide +kernel
theorem d_Mo_write_57 : decode c_Mo_write 57 = .ok (.getfield 26, 3) := by decide +kernel
theorem d_Mo_write_60 : decode c_Mo_write 60 = .ok (.iconst 1, 1) := by decide +kernel
theorem d_Mo_write_61 : decode c_Mo_write 61 = .ok (.iadd, 1) := by decide +kernel
theorem d_Mo_write_62 : decode c_Mo_write 62 = .ok (.putfield 26, 3) := by decide +kernel
theorem d_Mo_write_65 : decode c_Mo_write 65 = .ok (.iinc 4 1, 3) := by decide +kernel
theorem d_Mo_write_68 : decode c_Mo_write 68 = .ok (.goto (-40), 3) := by decide +kernel
theorem d_Mo_write_71 : decode c_Mo_write 71 = .ok (.iconst 1, 1) := by decide +kernel
theorem d_Mo_write_72 : decode c_Mo_write 72 = .ok (.ireturn, 1) := by decide +kernel
theorem d_Mo_again_0 : decode c_Mo_again 0 = .ok (.iload_n 1, 1) := by decide +kernel
theorem d_Mo_again_1 : decode c_Mo_again 1 = .ok (.iconst 1, 1) := by decide +kernel
theorem d_Mo_again_2 : decode c_Mo_again 2 = .ok (.if_icmp .lt 33, 3) := by decide +kernel
theorem d_Mo_again_5 : decode c_Mo_again 5 = .ok (.iload_n 1, 1) := by decide +kernel
theorem d_Mo_again_6 : decode c_Mo_again 6 = .ok (.aload_n 0, 1) := by decide +kernel
theorem d_Mo_again_7 : decode c_Mo_again 7 = .ok (.getfield 26, 3) := by decide +kernel
theorem d_Mo_again_10 : decode c_Mo_again 10 = .ok (.if_icmp .gt 25, 3) := by decide +kernel
theorem d_Mo_again_13 : decode c_Mo_again 13 = .ok (.iload_n 2, 1) := by decide +kernel
theorem d_Mo_again_14 : decode c_Mo_again 14 = .ok (.ifCond .lt 21, 3) := by decide +kernel
theorem d_Mo_again_17 : decode c_Mo_again 17 = .ok (.aload_n 0, 1) := by decide +kernel
theorem d_Mo_again_18 : decode c_Mo_again 18 = .ok (.getfield 26, 3) := by decide +kernel
theorem d_Mo_again_21 : decode c_Mo_again 21 = .ok (.i2l, 1) := by decide +kernel
theorem d_Mo_again_22 : decode c_Mo_again 22 = .ok (.iload_n 1, 1) := by decide +kernel
theorem d_Mo_again_23 : decode c_Mo_again 23 = .ok (.i2l, 1) := by decide +kernel
theorem d_Mo_again_24 : decode c_Mo_again 24 = .ok (.iload_n 2, 1) := by decide +kernel
theorem d_Mo_again_25 : decode c_Mo_again 25 = .ok (.i2l, 1) := by decide +kernel
theorem d_Mo_again_26 : decode c_Mo_again 26 = .ok (.lmul, 1) := by decide +kernel
theorem d_Mo_again_27 : decode c_Mo_again 27 = .ok (.ladd, 1) := by decide +kernel
theorem d_Mo_again_28 : decode c_Mo_again 28 = .ok (.ldc2_w 30, 3) := by decide +kernel
theorem d_Mo_again_31 : decode c_Mo_again 31 = .ok (.lcmp, 1) := by decide +kernel
theorem d_Mo_again_32 : decode c_Mo_again 32 = .ok (.ifCond .le 5, 3) := by decide +kernel
theorem d_Mo_again_35 : decode c_Mo_again 35 = .ok (.iconst 0, 1) := by decide +kernel
theorem d_Mo_again_36 : decode c_Mo_again 36 = .ok (.ireturn, 1) := by decide +kernel
theorem d_Mo_again_37 : decode c_Mo_again 37 = .ok (.iload_n 1, 1) := by decide +kernel
theorem d_Mo_again_38 : decode c_Mo_again 38 = .ok (.iload_n 2, 1) := by decide +kernel
theorem d_Mo_again_39 : decode c_Mo_again 39 = .ok (.imul, 1) := by decide +kernel
theorem d_Mo_again_40 : decode c_Mo_again 40 = .ok (.istore_n 3, 1) := by decide +kernel
theorem d_Mo_again_41 : decode c_Mo_again 41 = .ok (.iconst 0, 1) := by decide +kernel
theorem d_Mo_again_42 : decode c_Mo_again 42 = .ok (.istore 4, 2) := by decide +kernel
theorem d_Mo_again_44 : decode c_Mo_again 44 = .ok (.iload 4, 2) := by decide +kernel
theorem d_Mo_again_46 : decode c_Mo_again 46 = .ok (.iload_n 3, 1) := by decide +kernel
theorem d_Mo_again_47 : decode c_Mo_again 47 = .ok (.if_icmp .ge 39, 3) := by decide +kernel
theorem d_Mo_again_50 : decode c_Mo_again 50 = .ok (.aload_n 0, 1) := by decide +kernel
theorem d_Mo_again_51 : decode c_Mo_again 51 = .ok (.getfield 7, 3) := by decide +kernel
theorem d_Mo_again_54 : decode c_Mo_again 54 = .ok (.aload_n 0, 1) := by decide +kernel
theorem d_Mo_again_55 : decode c_Mo_again 55 = .ok (.getfield 26, 3) := by decide +kernel
theorem d_Mo_again_58 : decode c_Mo_again 58 = .ok (.aload_n 0, 1) := by decide +kernel
theorem d_Mo_again_59 : decode c_Mo_again 59 = .ok (.getfield 7, 3) := by decide +kernel
theorem d_Mo_again_62 : decode c_Mo_again 62 = .ok (.aload_n 0, 1) := by decide +kernel
theorem d_Mo_again_63 : decode c_Mo_again 63 = .ok (.getfield 26, 3) := by decide +kernel
theorem d_Mo_again_66 : decode c_Mo_again 66 = .ok (.iload_n 1, 1) := by decide +kernel
theorem d_Mo_again_67 : decode c_Mo_again 67 = .ok (.isub, 1) := by decide +kernel
theorem d_Mo_again_68 : decode c_Mo_again 68 = .ok (.baload, 1) := by decide +kernel
theorem d_Mo_again_69 : decode c_Mo_again 69 = .ok (.bastore, 1) := by decide +kernel
theorem d_Mo_again_70 : decode c_Mo_again 70 = .ok (.aload_n 0, 1) := by decide +kernel
theorem d_Mo_again_71 : decode c_Mo_again 71 = .ok (.dup, 1) := by decide +kernel
theorem d_Mo_again_72 : decode c_Mo_again 72 = .ok (.getfield 26, 3) := by decide +kernel
theorem d_Mo_again_75 : decode c_Mo_again 75 = .ok (.iconst 1, 1) := by decide +kernel
theorem d_Mo_again_76 : decode c_Mo_again 76 = .ok (.iadd, 1) := by decide +kernel
theorem d_Mo_again_77 : decode c_Mo_again 77 = .ok (.putfield 26, 3) := by decide +kernel
theorem d_Mo_again_80 : decode c_Mo_again 80 = .ok (.iinc 4 1, 3) := by decide +kernel
theorem d_Mo_again_83 : decode c_Mo_again 83 = .ok (.goto (-39), 3) := by decide +kernel
theorem d_Mo_again_86 : decode c_Mo_again 86 = .ok (.iconst 1, 1) := by decide +kernel
theorem d_Mo_again_87 : decode c_Mo_again 87 = .ok (.ireturn, 1) := by decide +kernel
theorem d_Mo_clear_0 : decode c_Mo_clear 0 = .ok (.aload_n 0, 1) := by decide +kernel
theorem d_Mo_clear_1 : decode c_Mo_clear 1 = .ok (.iconst 0, 1) := by decide +kernel
theorem d_Mo_clear_2 : decode c_Mo_clear 2 = .ok (.putfield 26, 3) := by decide +kernel
theorem d_Mo_clear_5 : decode c_Mo_clear 5 = .ok (.return_, 1) := by decide +kernel
theorem d_Mo_turn_0 : decode c_Mo_turn 0 = .ok (.iconst 0, 1) := by decide +kernel
theorem d_Mo_turn_1 : decode c_Mo_turn 1 = .ok (.istore_n 1, 1) := by decide +kernel
theorem d_Mo_turn_2 : decode c_Mo_turn 2 = .ok (.iload_n 1, 1) := by decide +kernel
theorem d_Mo_turn_3 : decode c_Mo_turn 3 = .ok (.aload_n 0, 1) := by decide +kernel
theorem d_Mo_turn_4 : decode c_Mo_turn 4 = .ok (.getfield 32, 3) := by decide +kernel
theorem d_Mo_turn_7 : decode c_Mo_turn 7 = .ok (.if_icmp .ge 21, 3) := by decide +kernel
theorem d_Mo_turn_10 : decode c_Mo_turn 10 = .ok (.aload_n 0, 1) := by decide +kernel
theorem d_Mo_turn_11 : decode c_Mo_turn 11 = .ok (.getfield 7, 3) := by decide +kernel
theorem d_Mo_turn_14 : decode c_Mo_turn 14 = .ok (.iload_n 1, 1) := by decide +kernel
theorem d_Mo_turn_15 : decode c_Mo_turn 15 = .ok (.aload_n 0, 1) := by decide +kernel
theorem d_Mo_turn_16 : decode c_Mo_turn 16 = .ok (.getfield 13, 3) := by decide +kernel
theorem d_Mo_turn_19 : decode c_Mo_turn 19 = .ok (.iload_n 1, 1) := by decide +kernel
theorem d_Mo_turn_20 : decode c_Mo_turn 20 = .ok (.baload, 1) := by decide +kernel
theorem d_Mo_turn_21 : decode c_Mo_turn 21 = .ok (.bastore, 1) := by decide +kernel
theorem d_Mo_turn_22 : decode c_Mo_turn 22 = .ok (.iinc 1 1, 3) := by decide +kernel
theorem d_Mo_turn_25 : decode c_Mo_turn 25 = .ok (.goto (-23), 3) := by decide +kernel
theorem d_Mo_turn_28 : decode c_Mo_turn 28 = .ok (.aload_n 0, 1) := by decide +kernel
theorem d_Mo_turn_29 : decode c_Mo_turn 29 = .ok (.aload_n 0, 1) := by decide +kernel
theorem d_Mo_turn_30 : decode c_Mo_turn 30 = .ok (.getfield 32, 3) := by decide +kernel
theorem d_Mo_turn_33 : decode c_Mo_turn 33 = .ok (.putfield 26, 3) := by decide +kernel
theorem d_Mo_turn_36 : decode c_Mo_turn 36 = .ok (.return_, 1) := by decide +kernel
theorem d_Mo_put_0 : decode c_Mo_put 0 = .ok (.aload_n 0, 1) := by decide +kernel
theorem d_Mo_put_1 : decode c_Mo_put 1 = .ok (.getfield 35, 3) := by decide +kernel
theorem d_Mo_put_4 : decode c_Mo_put 4 = .ok (.sipush 20000, 3) := by decide +kernel
theorem d_Mo_put_7 : decode c_Mo_put 7 = .ok (.if_icmp .ge 14, 3) := by decide +kernel
theorem d_Mo_put_10 : decode c_Mo_put 10 = .ok (.aload_n 0, 1) := by decide +kernel
theorem d_Mo_put_11 : decode c_Mo_put 11 = .ok (.getfield 16, 3) := by decide +kernel
theorem d_Mo_put_14 : decode c_Mo_put 14 = .ok (.aload_n 0, 1) := by decide +kernel
theorem d_Mo_put_15 : decode c_Mo_put 15 = .ok (.getfield 35, 3) := by decide +kernel
theorem d_Mo_put_18 : decode c_Mo_put 18 = .ok (.iload_n 1, 1) := by decide +kernel
theorem d_Mo_put_19 : decode c_Mo_put 19 = .ok (.i2b, 1) := by decide +kernel
theorem d_Mo_put_20 : decode c_Mo_put 20 = .ok (.bastore, 1) := by decide +kernel
theorem d_Mo_put_21 : decode c_Mo_put 21 = .ok (.aload_n 0, 1) := by decide +kernel
theorem d_Mo_put_22 : decode c_Mo_put 22 = .ok (.dup, 1) := by decide +kernel
theorem d_Mo_put_23 : decode c_Mo_put 23 = .ok (.getfield 35, 3) := by decide +kernel
theorem d_Mo_put_26 : decode c_Mo_put 26 = .ok (.iconst 1, 1) := by decide +kernel
theorem d_Mo_put_27 : decode c_Mo_put 27 = .ok (.iadd, 1) := by decide +kernel
theorem d_Mo_put_28 : decode c_Mo_put 28 = .ok (.putfield 35, 3) := by decide +kernel
theorem d_Mo_put_31 : decode c_Mo_put 31 = .ok (.return_, 1) := by decide +kernel
theorem d_Mo_putNumber_0 : decode c_Mo_putNumber 0 = .ok (.iconst 0, 1) := by decide +kernel
theorem d_Mo_putNumber_1 : decode c_Mo_putNumber 1 = .ok (.istore_n 3, 1) := by decide +kernel
theorem d_Mo_putNumber_2 : decode c_Mo_putNumber 2 = .ok (.iload_n 3, 1) := by decide +kernel
theorem d_Mo_putNumber_3 : decode c_Mo_putNumber 3 = .ok (.iload_n 2, 1) := by decide +kernel
theorem d_Mo_putNumber_4 : decode c_Mo_putNumber 4 = .ok (.if_icmp .ge 19, 3) := by decide +kernel
theorem d_Mo_putNumber_7 : decode c_Mo_putNumber 7 = .ok (.aload_n 0, 1) := by decide +kernel
theorem d_Mo_putNumber_8 : decode c_Mo_putNumber 8 = .ok (.iload_n 1, 1) := by decide +kernel
theorem d_Mo_putNumber_9 : decode c_Mo_putNumber 9 = .ok (.bipush 8, 2) := by decide +kernel
theorem d_Mo_putNumber_11 : decode c_Mo_putNumber 11 = .ok (.iload_n 3, 1) := by decide +kernel
theorem d_Mo_putNumber_12 : decode c_Mo_putNumber 12 = .ok (.imul, 1) := by decide +kernel
theorem d_Mo_putNumber_13 : decode c_Mo_putNumber 13 = .ok (.iushr, 1) := by decide +kernel
theorem d_Mo_putNumber_14 : decode c_Mo_putNumber 14 = .ok (.invokevirtual 38, 3) := by decide +kernel
theorem d_Mo_putNumber_17 : decode c_Mo_putNumber 17 = .ok (.iinc 3 1, 3) := by decide +kernel
theorem d_Mo_putNumber_20 : decode c_Mo_putNumber 20 = .ok (.goto (-18), 3) := by decide +kernel
theorem d_Mo_putNumber_23 : decode c_Mo_putNumber 23 = .ok (.return_, 1) := by decide +kernel
theorem d_Mo_settle_0 : decode c_Mo_settle 0 = .ok (.iconst 0, 1) := by decide +kernel
theorem d_Mo_settle_1 : decode c_Mo_settle 1 = .ok (.istore_n 1, 1) := by decide +kernel
theorem d_Mo_settle_2 : decode c_Mo_settle 2 = .ok (.iload_n 1, 1) := by decide +kernel
theorem d_Mo_settle_3 : decode c_Mo_settle 3 = .ok (.aload_n 0, 1) := by decide +kernel
theorem d_Mo_settle_4 : decode c_Mo_settle 4 = .ok (.getfield 35, 3) := by decide +kernel
theorem d_Mo_settle_7 : decode c_Mo_settle 7 = .ok (.if_icmp .ge 21, 3) := by decide +kernel
theorem d_Mo_settle_10 : decode c_Mo_settle 10 = .ok (.aload_n 0, 1) := by decide +kernel
theorem d_Mo_settle_11 : decode c_Mo_settle 11 = .ok (.getfield 13, 3) := by decide +kernel
theorem d_Mo_settle_14 : decode c_Mo_settle 14 = .ok (.iload_n 1, 1) := by decide +kernel
theorem d_Mo_settle_15 : decode c_Mo_settle 15 = .ok (.aload_n 0, 1) := by decide +kernel
theorem d_Mo_settle_16 : decode c_Mo_settle 16 = .ok (.getfield 16, 3) := by decide +kernel
theorem d_Mo_settle_19 : decode c_Mo_settle 19 = .ok (.iload_n 1, 1) := by decide +kernel
theorem d_Mo_settle_20 : decode c_Mo_settle 20 = .ok (.baload, 1) := by decide +kernel
theorem d_Mo_settle_21 : decode c_Mo_settle 21 = .ok (.bastore, 1) := by decide +kernel
theorem d_Mo_settle_22 : decode c_Mo_settle 22 = .ok (.iinc 1 1, 3) := by decide +kernel
theorem d_Mo_settle_25 : decode c_Mo_settle 25 = .ok (.goto (-23), 3) := by decide +kernel
theorem d_Mo_settle_28 : decode c_Mo_settle 28 = .ok (.aload_n 0, 1) := by decide +kernel
theorem d_Mo_settle_29 : decode c_Mo_settle 29 = .ok (.aload_n 0, 1) := by decide +kernel
theorem d_Mo_settle_30 : decode c_Mo_settle 30 = .ok (.getfield 35, 3) := by decide +kernel
theorem d_Mo_settle_33 : decode c_Mo_settle 33 = .ok (.putfield 32, 3) := by decide +kernel
theorem d_Mo_settle_36 : decode c_Mo_settle 36 = .ok (.aload_n 0, 1) := by decide +kernel
theorem d_Mo_settle_37 : decode c_Mo_settle 37 = .ok (.getfield 32, 3) := by decide +kernel
theorem d_Mo_settle_40 : decode c_Mo_settle 40 = .ok (.ireturn, 1) := by decide +kernel
theorem d_Mo_alike_0 : decode c_Mo_alike 0 = .ok (.iconst 0, 1) := by decide +kernel
theorem d_Mo_alike_1 : decode c_Mo_alike 1 = .ok (.istore 4, 2) := by decide +kernel
theorem d_Mo_alike_3 : decode c_Mo_alike 3 = .ok (.iload_n 2, 1) := by decide +kernel
theorem d_Mo_alike_4 : decode c_Mo_alike 4 = .ok (.iload 4, 2) := by decide +kernel
theorem d_Mo_alike_6 : decode c_Mo_alike 6 = .ok (.iadd, 1) := by decide +kernel
theorem d_Mo_alike_7 : decode c_Mo_alike 7 = .ok (.iload_n 3, 1) := by decide +kernel
theorem d_Mo_alike_8 : decode c_Mo_alike 8 = .ok (.if_icmp .ge 30, 3) := by decide +kernel
theorem d_Mo_alike_11 : decode c_Mo_alike 11 = .ok (.aload_n 0, 1) := by decide +kernel
theorem d_Mo_alike_12 : decode c_Mo_alike 12 = .ok (.getfield 7, 3) := by decide +kernel
theorem d_Mo_alike_15 : decode c_Mo_alike 15 = .ok (.iload_n 1, 1) := by decide +kernel
theorem d_Mo_alike_16 : decode c_Mo_alike 16 = .ok (.iload 4, 2) := by decide +kernel
theorem d_Mo_alike_18 : decode c_Mo_alike 18 = .ok (.iadd, 1) := by decide +kernel
theorem d_Mo_alike_19 : decode c_Mo_alike 19 = .ok (.baload, 1) := by decide +kernel
theorem d_Mo_alike_20 : decode c_Mo_alike 20 = .ok (.aload_n 0, 1) := by decide +kernel
theorem d_Mo_alike_21 : decode c_Mo_alike 21 = .ok (.getfield 7, 3) := by decide +kernel
theorem d_Mo_alike_24 : decode c_Mo_alike 24 = .ok (.iload_n 2, 1) := by decide +kernel
theorem d_Mo_alike_25 : decode c_Mo_alike 25 = .ok (.iload 4, 2) := by decide +kernel
theorem d_Mo_alike_27 : decode c_Mo_alike 27 = .ok (.iadd, 1) := by decide +kernel
theorem d_Mo_alike_28 : decode c_Mo_alike 28 = .ok (.baload, 1) := by decide +kernel
theorem d_Mo_alike_29 : decode c_Mo_alike 29 = .ok (.if_icmp .ne 9, 3) := by decide +kernel
theorem d_Mo_alike_32 : decode c_Mo_alike 32 = .ok (.iinc 4 1, 3) := by decide +kernel
theorem d_Mo_alike_35 : decode c_Mo_alike 35 = .ok (.goto (-32), 3) := by decide +kernel
theorem d_Mo_alike_38 : decode c_Mo_alike 38 = .ok (.iload 4, 2) := by decide +kernel
theorem d_Mo_alike_40 : decode c_Mo_alike 40 = .ok (.ireturn, 1) := by decide +kernel
theorem d_Mo_nearest_0 : decode c_Mo_nearest 0 = .ok (.aload_n 0, 1) := by decide +kernel
theorem d_Mo_nearest_1 : decode c_Mo_nearest 1 = .ok (.iconst 0, 1) := by decide +kernel
theorem d_Mo_nearest_2 : decode c_Mo_nearest 2 = .ok (.putfield 42, 3) := by decide +kernel
theorem d_Mo_nearest_5 : decode c_Mo_nearest 5 = .ok (.iload_n 2, 1) := by decide +kernel
theorem d_Mo_nearest_6 : decode c_Mo_nearest 6 = .ok (.iconst 1, 1) := by decide +kernel
theorem d_Mo_nearest_7 : decode c_Mo_nearest 7 = .ok (.isub, 1) := by decide +kernel
theorem d_Mo_nearest_8 : decode c_Mo_nearest 8 = .ok (.istore 5, 2) := by decide +kernel
theorem d_Mo_nearest_10 : decode c_Mo_nearest 10 = .ok (.iload 5, 2) := by decide +kernel
theorem d_Mo_nearest_12 : decode c_Mo_nearest 12 = .ok (.iload_n 1, 1) := by decide +kernel
theorem d_Mo_nearest_13 : decode c_Mo_nearest 13 = .ok (.if_icmp .lt 45, 3) := by decide +kernel
theorem d_Mo_nearest_16 : decode c_Mo_nearest 16 = .ok (.aload_n 0, 1) := by decide +kernel
theorem d_Mo_nearest_17 : decode c_Mo_nearest 17 = .ok (.getfield 42, 3) := by decide +kernel
theorem d_Mo_nearest_20 : decode c_Mo_nearest 20 = .ok (.ifCond .ne 38, 3) := by decide +kernel
theorem d_Mo_nearest_23 : decode c_Mo_nearest 23 = .ok (.aload_n 0, 1) := by decide +kernel
theorem d_Mo_nearest_24 : decode c_Mo_nearest 24 = .ok (.iload 5, 2) := by decide +kernel
theorem d_Mo_nearest_26 : decode c_Mo_nearest 26 = .ok (.iload_n 2, 1) := by decide +kernel
theorem d_Mo_nearest_27 : decode c_Mo_nearest 27 = .ok (.iload_n 3, 1) := by decide +kernel
theorem d_Mo_nearest_28 : decode c_Mo_nearest 28 = .ok (.invokevirtual 45, 3) := by decide +kernel
theorem d_Mo_nearest_31 : decode c_Mo_nearest 31 = .ok (.istore 6, 2) := by decide +kernel
theorem d_Mo_nearest_33 : decode c_Mo_nearest 33 = .ok (.iload 6, 2) := by decide +kernel
theorem d_Mo_nearest_35 : decode c_Mo_nearest 35 = .ok (.iload 4, 2) := by decide +kernel
theorem d_Mo_nearest_37 : decode c_Mo_nearest 37 = .ok (.if_icmp .lt 15, 3) := by decide +kernel
theorem d_Mo_nearest_40 : decode c_Mo_nearest 40 = .ok (.aload_n 0, 1) := by decide +kernel
theorem d_Mo_nearest_41 : decode c_Mo_nearest 41 = .ok (.iload 5, 2) := by decide +kernel
theorem d_Mo_nearest_43 : decode c_Mo_nearest 43 = .ok (.putfield 49, 3) := by decide +kernel
theorem d_Mo_nearest_46 : decode c_Mo_nearest 46 = .ok (.aload_n 0, 1) := by decide +kernel
theorem d_Mo_nearest_47 : decode c_Mo_nearest 47 = .ok (.iload 6, 2) := by decide +kernel
theorem d_Mo_nearest_49 : decode c_Mo_nearest 49 = .ok (.putfield 42, 3) := by decide +kernel
theorem d_Mo_nearest_52 : decode c_Mo_nearest 52 = .ok (.iinc 5 (-1), 3) := by decide +kernel
theorem d_Mo_nearest_55 : decode c_Mo_nearest 55 = .ok (.goto (-45), 3) := by decide +kernel
theorem d_Mo_nearest_58 : decode c_Mo_nearest 58 = .ok (.return_, 1) := by decide +kernel
theorem d_Mo_longest_0 : decode c_Mo_longest 0 = .ok (.aload_n 0, 1) := by decide +kernel
theorem d_Mo_longest_1 : decode c_Mo_longest 1 = .ok (.iconst 0, 1) := by decide +kernel
theorem d_Mo_longest_2 : decode c_Mo_longest 2 = .ok (.putfield 42, 3) := by decide +kernel
theorem d_Mo_longest_5 : decode c_Mo_longest 5 = .ok (.iload_n 2, 1) := by decide +kernel
theorem d_Mo_longest_6 : decode c_Mo_longest 6 = .ok (.iconst 1, 1) := by decide +kernel
theorem d_Mo_longest_7 : decode c_Mo_longest 7 = .ok (.isub, 1) := by decide +kernel
theorem d_Mo_longest_8 : decode c_Mo_longest 8 = .ok (.istore 4, 2) := by decide +kernel
theorem d_Mo_longest_10 : decode c_Mo_longest 10 = .ok (.iload 4, 2) := by decide +kernel
theorem d_Mo_longest_12 : decode c_Mo_longest 12 = .ok (.iload_n 1, 1) := by decide +kernel
theorem d_Mo_longest_13 : decode c_Mo_longest 13 = .ok (.if_icmp .lt 46, 3) := by decide +kernel
theorem d_Mo_longest_16 : decode c_Mo_longest 16 = .ok (.aload_n 0, 1) := by decide +kernel
theorem d_Mo_longest_17 : decode c_Mo_longest 17 = .ok (.iload 4, 2) := by decide +kernel
theorem d_Mo_longest_19 : decode c_Mo_longest 19 = .ok (.iload_n 2, 1) := by decide +kernel
theorem d_Mo_longest_20 : decode c_Mo_longest 20 = .ok (.iload_n 3, 1) := by decide +kernel
theorem d_Mo_longest_21 : decode c_Mo_longest 21 = .ok (.invokevirtual 45, 3) := by decide +kernel
theorem d_Mo_longest_24 : decode c_Mo_longest 24 = .ok (.istore 5, 2) := by decide +kernel
theorem d_Mo_longest_26 : decode c_Mo_longest 26 = .ok (.iload 5, 2) := by decide +kernel
theorem d_Mo_longest_28 : decode c_Mo_longest 28 = .ok (.iconst 4, 1) := by decide +kernel
theorem d_Mo_longest_29 : decode c_Mo_longest 29 = .ok (.if_icmp .lt 24, 3) := by decide +kernel
theorem d_Mo_longest_32 : decode c_Mo_longest 32 = .ok (.iload 5, 2) := by decide +kernel
theorem d_Mo_longest_34 : decode c_Mo_longest 34 = .ok (.aload_n 0, 1) := by decide +kernel
theorem d_Mo_longest_35 : decode c_Mo_longest 35 = .ok (.getfield 42, 3) := by decide +kernel
theorem d_Mo_longest_38 : decode c_Mo_longest 38 = .ok (.if_icmp .le 15, 3) := by decide +kernel
theorem d_Mo_longest_41 : decode c_Mo_longest 41 = .ok (.aload_n 0, 1) := by decide +kernel
theorem d_Mo_longest_42 : decode c_Mo_longest 42 = .ok (.iload 4, 2) := by decide +kernel
theorem d_Mo_longest_44 : decode c_Mo_longest 44 = .ok (.putfield 49, 3) := by decide +kernel
theorem d_Mo_longest_47 : decode c_Mo_longest 47 = .ok (.aload_n 0, 1) := by decide +kernel
theorem d_Mo_longest_48 : decode c_Mo_longest 48 = .ok (.iload 5, 2) := by decide +kernel
theorem d_Mo_longest_50 : decode c_Mo_longest 50 = .ok (.putfield 42, 3) := by decide +kernel
theorem d_Mo_longest_53 : decode c_Mo_longest 53 = .ok (.iinc 4 (-1), 3) := by decide +kernel
theorem d_Mo_longest_56 : decode c_Mo_longest 56 = .ok (.goto (-46), 3) := by decide +kernel
theorem d_Mo_longest_59 : decode c_Mo_longest 59 = .ok (.return_, 1) := by decide +kernel
theorem d_Mo_match_0 : decode c_Mo_match 0 = .ok (.iload 4, 2) := by decide +kernel
theorem d_Mo_match_2 : decode c_Mo_match 2 = .ok (.iconst 1, 1) := by decide +kernel
theorem d_Mo_match_3 : decode c_Mo_match 3 = .ok (.if_icmp .ne 12, 3) := by decide +kernel
theorem d_Mo_match_6 : decode c_Mo_match 6 = .ok (.aload_n 0, 1) := by decide +kernel
theorem d_Mo_match_7 : decode c_Mo_match 7 = .ok (.iload_n 1, 1) := by decide +kernel
theorem d_Mo_match_8 : decode c_Mo_match 8 = .ok (.iload_n 2, 1) := by decide +kernel
theorem d_Mo_match_9 : decode c_Mo_match 9 = .ok (.iload_n 3, 1) := by decide +kernel
theorem d_Mo_match_10 : decode c_Mo_match 10 = .ok (.bipush 8, 2) := by decide +kernel
theorem d_Mo_match_12 : decode c_Mo_match 12 = .ok (.invokevirtual 52, 3) := by decide +kernel
theorem d_Mo_match_15 : decode c_Mo_match 15 = .ok (.iload 4, 2) := by decide +kernel
theorem d_Mo_match_17 : decode c_Mo_match 17 = .ok (.ifCond .eq 16, 3) := by decide +kernel
theorem d_Mo_match_20 : decode c_Mo_match 20 = .ok (.iload 4, 2) := by decide +kernel
theorem d_Mo_match_22 : decode c_Mo_match 22 = .ok (.iconst 1, 1) := by decide +kernel
theorem d_Mo_match_23 : decode c_Mo_match 23 = .ok (.if_icmp .ne 18, 3) := by decide +kernel
theorem d_Mo_match_26 : decode c_Mo_match 26 = .ok (.aload_n 0, 1) := by decide +kernel
theorem d_Mo_match_27 : decode c_Mo_match 27 = .ok (.getfield 42, 3) := by decide +kernel
theorem d_Mo_match_30 : decode c_Mo_match 30 = .ok (.ifCond .ne 11, 3) := by decide +kernel
theorem d_Mo_match_33 : decode c_Mo_match 33 = .ok (.aload_n 0, 1) := by decide +kernel
theorem d_Mo_match_34 : decode c_Mo_match 34 = .ok (.iload_n 1, 1) := by decide +kernel
theorem d_Mo_match_35 : decode c_Mo_match 35 = .ok (.iload_n 2, 1) := by decide +kernel
theorem d_Mo_match_36 : decode c_Mo_match 36 = .ok (.iload_n 3, 1) := by decide +kernel
theorem d_Mo_match_37 : decode c_Mo_match 37 = .ok (.iconst 4, 1) := by decide +kernel
theorem d_Mo_match_38 : decode c_Mo_match 38 = .ok (.invokevirtual 52, 3) := by decide +kernel
theorem d_Mo_match_41 : decode c_Mo_match 41 = .ok (.iload 4, 2) := by decide +kernel
theorem d_Mo_match_43 : decode c_Mo_match 43 = .ok (.iconst 3, 1) := by decide +kernel
theorem d_Mo_match_44 : decode c_Mo_match 44 = .ok (.if_icmp .ne 12, 3) := by decide +kernel
theorem d_Mo_match_47 : decode c_Mo_match 47 = .ok (.aload_n 0, 1) := by decide +kernel
theorem d_Mo_match_48 : decode c_Mo_match 48 = .ok (.iload_n 1, 1) := by decide +kernel
theorem d_Mo_match_49 : decode c_Mo_match 49 = .ok (.iload_n 2, 1) := by decide +kernel
theorem d_Mo_match_50 : decode c_Mo_match 50 = .ok (.iconst 1, 1) := by decide +kernel
theorem d_Mo_match_51 : decode c_Mo_match 51 = .ok (.iadd, 1) := by decide +kernel
theorem d_Mo_match_52 : decode c_Mo_match 52 = .ok (.iload_n 3, 1) := by decide +kernel
theorem d_Mo_match_53 : decode c_Mo_match 53 = .ok (.invokevirtual 56, 3) := by decide +kernel
theorem d_Mo_match_56 : decode c_Mo_match 56 = .ok (.aload_n 0, 1) := by decide +kernel
theorem d_Mo_match_57 : decode c_Mo_match 57 = .ok (.getfield 42, 3) := by decide +kernel
theorem d_Mo_match_60 : decode c_Mo_match 60 = .ok (.istore 5, 2) := by decide +kernel
theorem d_Mo_match_62 : decode c_Mo_match 62 = .ok (.iload 4, 2) := by decide +kernel
theorem d_Mo_match_64 : decode c_Mo_match 64 = .ok (.iconst 2, 1) := by decide +kernel
theorem d_Mo_match_65 : decode c_Mo_match 65 = .ok (.if_icmp .lt 10, 3) := by decide +kernel
theorem d_Mo_match_68 : decode c_Mo_match 68 = .ok (.aload_n 0, 1) := by decide +kernel
theorem d_Mo_match_69 : decode c_Mo_match 69 = .ok (.iload_n 1, 1) := by decide +kernel
theorem d_Mo_match_70 : decode c_Mo_match 70 = .ok (.iload_n 2, 1) := by decide +kernel
theorem d_Mo_match_71 : decode c_Mo_match 71 = .ok (.iload_n 3, 1) := by decide +kernel
theorem d_Mo_match_72 : decode c_Mo_match 72 = .ok (.invokevirtual 56, 3) := by decide +kernel
theorem d_Mo_match_75 : decode c_Mo_match 75 = .ok (.iload 4, 2) := by decide +kernel
theorem d_Mo_match_77 : decode c_Mo_match 77 = .ok (.iconst 3, 1) := by decide +kernel
theorem d_Mo_match_78 : decode c_Mo_match 78 = .ok (.if_icmp .ne 17, 3) := by decide +kernel
theorem d_Mo_match_81 : decode c_Mo_match 81 = .ok (.iload 5, 2) := by decide +kernel
theorem d_Mo_match_83 : decode c_Mo_match 83 = .ok (.aload_n 0, 1) := by decide +kernel
theorem d_Mo_match_84 : decode c_Mo_match 84 = .ok (.getfield 42, 3) := by decide +kernel
theorem d_Mo_match_87 : decode c_Mo_match 87 = .ok (.if_icmp .le 8, 3) := by decide +kernel
theorem d_Mo_match_90 : decode c_Mo_match 90 = .ok (.aload_n 0, 1) := by decide +kernel
theorem d_Mo_match_91 : decode c_Mo_match 91 = .ok (.iconst 0, 1) := by decide +kernel
theorem d_Mo_match_92 : decode c_Mo_match 92 = .ok (.putfield 42, 3) := by decide +kernel
theorem d_Mo_match_95 : decode c_Mo_match 95 = .ok (.return_, 1) := by decide +kernel
theorem d_Mo_bytesFor_0 : decode c_Mo_bytesFor 0 = .ok (.iload_n 1, 1) := by decide +kernel
theorem d_Mo_bytesFor_1 : decode c_Mo_bytesFor 1 = .ok (.ifCond .eq 18, 3) := by decide +kernel
theorem d_Mo_bytesFor_4 : decode c_Mo_bytesFor 4 = .ok (.iload_n 0, 1) := by decide +kernel
theorem d_Mo_bytesFor_5 : decode c_Mo_bytesFor 5 = .ok (.iconst 4, 1) := by decide +kernel
theorem d_Mo_bytesFor_6 : decode c_Mo_bytesFor 6 = .ok (.if_icmp .lt 13, 3) := by decide +kernel
theorem d_Mo_bytesFor_9 : decode c_Mo_bytesFor 9 = .ok (.iload_n 0, 1) := by decide +kernel
theorem d_Mo_bytesFor_10 : decode c_Mo_bytesFor 10 = .ok (.bipush 11, 2) := by decide +kernel
theorem d_Mo_bytesFor_12 : decode c_Mo_bytesFor 12 = .ok (.if_icmp .gt 7, 3) := by decide +kernel
theorem d_Mo_bytesFor_15 : decode c_Mo_bytesFor 15 = .ok (.iconst 2, 1) := by decide +kernel
theorem d_Mo_bytesFor_16 : decode c_Mo_bytesFor 16 = .ok (.goto 4, 3) := by decide +kernel
theorem d_Mo_bytesFor_19 : decode c_Mo_bytesFor 19 = .ok (.iconst 3, 1) := by decide +kernel
theorem d_Mo_bytesFor_20 : decode c_Mo_bytesFor 20 = .ok (.ireturn, 1) := by decide +kernel
theorem d_Mo_fewest_0 : decode c_Mo_fewest 0 = .ok (.iload_n 2, 1) := by decide +kernel
theorem d_Mo_fewest_1 : decode c_Mo_fewest 1 = .ok (.ifCond .eq 12, 3) := by decide +kernel
theorem d_Mo_fewest_4 : decode c_Mo_fewest 4 = .ok (.aload_n 0, 1) := by decide +kernel
theorem d_Mo_fewest_5 : decode c_Mo_fewest 5 = .ok (.getfield 19, 3) := by decide +kernel
theorem d_Mo_fewest_8 : decode c_Mo_fewest 8 = .ok (.iload_n 1, 1) := by decide +kernel
theorem d_Mo_fewest_9 : decode c_Mo_fewest 9 = .ok (.iaload, 1) := by decide +kernel
theorem d_Mo_fewest_10 : decode c_Mo_fewest 10 = .ok (.goto 9, 3) := by decide +kernel
theorem d_Mo_fewest_13 : decode c_Mo_fewest 13 = .ok (.aload_n 0, 1) := by decide +kernel
theorem d_Mo_fewest_14 : decode c_Mo_fewest 14 = .ok (.getfield 23, 3) := by decide +kernel
theorem d_Mo_fewest_17 : decode c_Mo_fewest 17 = .ok (.iload_n 1, 1) := by decide +kernel
theorem d_Mo_fewest_18 : decode c_Mo_fewest 18 = .ok (.iaload, 1) := by decide +kernel
theorem d_Mo_fewest_19 : decode c_Mo_fewest 19 = .ok (.ireturn, 1) := by decide +kernel
theorem d_Mo_tried_0 : decode c_Mo_tried 0 = .ok (.iload_n 2, 1) := by decide +kernel
theorem d_Mo_tried_1 : decode c_Mo_tried 1 = .ok (.iload_n 3, 1) := by decide +kernel
theorem d_Mo_tried_2 : decode c_Mo_tried 2 = .ok (.invokestatic 60, 3) := by decide +kernel
theorem d_Mo_tried_5 : decode c_Mo_tried 5 = .ok (.aload_n 0, 1) := by decide +kernel
theorem d_Mo_tried_6 : decode c_Mo_tried 6 = .ok (.iload_n 1, 1) := by decide +kernel
theorem d_Mo_tried_7 : decode c_Mo_tried 7 = .ok (.iload_n 2, 1) := by decide +kernel
theorem d_Mo_tried_8 : decode c_Mo_tried 8 = .ok (.isub, 1) := by decide +kernel
theorem d_Mo_tried_9 : decode c_Mo_tried 9 = .ok (.iload_n 3, 1) := by decide +kernel
theorem d_Mo_tried_10 : decode c_Mo_tried 10 = .ok (.invokevirtual 64, 3) := by decide +kernel
theorem d_Mo_tried_13 : decode c_Mo_tried 13 = .ok (.iadd, 1) := by decide +kernel
theorem d_Mo_tried_14 : decode c_Mo_tried 14 = .ok (.ireturn, 1) := by decide +kernel
theorem d_Mo_know_0 : decode c_Mo_know 0 = .ok (.aload_n 0, 1) := by decide +kernel
theorem d_Mo_know_1 : decode c_Mo_know 1 = .ok (.getfield 67, 3) := by decide +kernel
theorem d_Mo_know_4 : decode c_Mo_know 4 = .ok (.iconst 1, 1) := by decide +kernel
theorem d_Mo_know_5 : decode c_Mo_know 5 = .ok (.iadd, 1) := by decide +kernel
theorem d_Mo_know_6 : decode c_Mo_know 6 = .ok (.istore_n 2, 1) := by decide +kernel
theorem d_Mo_know_7 : decode c_Mo_know 7 = .ok (.iload_n 2, 1) := by decide +kernel
theorem d_Mo_know_8 : decode c_Mo_know 8 = .ok (.iload_n 1, 1) := by decide +kernel
theorem d_Mo_know_9 : decode c_Mo_know 9 = .ok (.if_icmp .gt 107, 3) := by decide +kernel
theorem d_Mo_know_12 : decode c_Mo_know 12 = .ok (.aload_n 0, 1) := by decide +kernel
theorem d_Mo_know_13 : decode c_Mo_know 13 = .ok (.getfield 19, 3) := by decide +kernel
theorem d_Mo_know_16 : decode c_Mo_know 16 = .ok (.iload_n 2, 1) := by decide +kernel
theorem d_Mo_know_17 : decode c_Mo_know 17 = .ok (.ldc 70, 2) := by decide +kernel
theorem d_Mo_know_19 : decode c_Mo_know 19 = .ok (.iastore, 1) := by decide +kernel
theorem d_Mo_know_20 : decode c_Mo_know 20 = .ok (.aload_n 0, 1) := by decide +kernel
theorem d_Mo_know_21 : decode c_Mo_know 21 = .ok (.getfield 23, 3) := by decide +kernel
theorem d_Mo_know_24 : decode c_Mo_know 24 = .ok (.iload_n 2, 1) := by decide +kernel
theorem d_Mo_know_25 : decode c_Mo_know 25 = .ok (.ldc 70, 2) := by decide +kernel
theorem d_Mo_know_27 : decode c_Mo_know 27 = .ok (.iastore, 1) := by decide +kernel
theorem d_Mo_know_28 : decode c_Mo_know 28 = .ok (.iconst 1, 1) := by decide +kernel
theorem d_Mo_know_29 : decode c_Mo_know 29 = .ok (.istore_n 3, 1) := by decide +kernel
theorem d_Mo_know_30 : decode c_Mo_know 30 = .ok (.iload_n 3, 1) := by decide +kernel
theorem d_Mo_know_31 : decode c_Mo_know 31 = .ok (.bipush 64, 2) := by decide +kernel
theorem d_Mo_know_33 : decode c_Mo_know 33 = .ok (.if_icmp .gt 72, 3) := by decide +kernel
theorem d_Mo_know_36 : decode c_Mo_know 36 = .ok (.iload_n 3, 1) := by decide +kernel
theorem d_Mo_know_37 : decode c_Mo_know 37 = .ok (.iload_n 2, 1) := by decide +kernel
theorem d_Mo_know_38 : decode c_Mo_know 38 = .ok (.if_icmp .gt 67, 3) := by decide +kernel
theorem d_Mo_know_41 : decode c_Mo_know 41 = .ok (.aload_n 0, 1) := by decide +kernel
theorem d_Mo_know_42 : decode c_Mo_know 42 = .ok (.iload_n 2, 1) := by decide +kernel
theorem d_Mo_know_43 : decode c_Mo_know 43 = .ok (.iload_n 3, 1) := by decide +kernel
theorem d_Mo_know_44 : decode c_Mo_know 44 = .ok (.iconst 1, 1) := by decide +kernel
theorem d_Mo_know_45 : decode c_Mo_know 45 = .ok (.invokevirtual 71, 3) := by decide +kernel
theorem d_Mo_know_48 : decode c_Mo_know 48 = .ok (.aload_n 0, 1) := by decide +kernel
theorem d_Mo_know_49 : decode c_Mo_know 49 = .ok (.getfield 19, 3) := by decide +kernel
theorem d_Mo_know_52 : decode c_Mo_know 52 = .ok (.iload_n 2, 1) := by decide +kernel
theorem d_Mo_know_53 : decode c_Mo_know 53 = .ok (.iaload, 1) := by decide +kernel
theorem d_Mo_know_54 : decode c_Mo_know 54 = .ok (.if_icmp .ge 16, 3) := by decide +kernel
theorem d_Mo_know_57 : decode c_Mo_know 57 = .ok (.aload_n 0, 1) := by decide +kernel
theorem d_Mo_know_58 : decode c_Mo_know 58 = .ok (.getfield 19, 3) := by decide +kernel
theorem d_Mo_know_61 : decode c_Mo_know 61 = .ok (.iload_n 2, 1) := by decide +kernel
theorem d_Mo_know_62 : decode c_Mo_know 62 = .ok (.aload_n 0, 1) := by decide +kernel
theorem d_Mo_know_63 : decode c_Mo_know 63 = .ok (.iload_n 2, 1) := by decide +kernel
theorem d_Mo_know_64 : decode c_Mo_know 64 = .ok (.iload_n 3, 1) := by decide +kernel
theorem d_Mo_know_65 : decode c_Mo_know 65 = .ok (.iconst 1, 1) := by decide +kernel
theorem d_Mo_know_66 : decode c_Mo_know 66 = .ok (.invokevirtual 71, 3) := by decide +kernel
theorem d_Mo_know_69 : decode c_Mo_know 69 = .ok (.iastore, 1) := by decide +kernel
theorem d_Mo_know_70 : decode c_Mo_know 70 = .ok (.aload_n 0, 1) := by decide +kernel
theorem d_Mo_know_71 : decode c_Mo_know 71 = .ok (.iload_n 2, 1) := by decide +kernel
theorem d_Mo_know_72 : decode c_Mo_know 72 = .ok (.iload_n 3, 1) := by decide +kernel
theorem d_Mo_know_73 : decode c_Mo_know 73 = .ok (.iconst 0, 1) := by decide +kernel
theorem d_Mo_know_74 : decode c_Mo_know 74 = .ok (.invokevirtual 71, 3) := by decide +kernel
theorem d_Mo_know_77 : decode c_Mo_know 77 = .ok (.aload_n 0, 1) := by decide +kernel
theorem d_Mo_know_78 : decode c_Mo_know 78 = .ok (.getfield 23, 3) := by decide +kernel
theorem d_Mo_know_81 : decode c_Mo_know 81 = .ok (.iload_n 2, 1) := by decide +kernel
theorem d_Mo_know_82 : decode c_Mo_know 82 = .ok (.iaload, 1) := by decide +kernel
theorem d_Mo_know_83 : decode c_Mo_know 83 = .ok (.if_icmp .ge 16, 3) := by decide +kernel
theorem d_Mo_know_86 : decode c_Mo_know 86 = .ok (.aload_n 0, 1) := by decide +kernel
theorem d_Mo_know_87 : decode c_Mo_know 87 = .ok (.getfield 23, 3) := by decide +kernel
theorem d_Mo_know_90 : decode c_Mo_know 90 = .ok (.iload_n 2, 1) := by decide +kernel
theorem d_Mo_know_91 : decode c_Mo_know 91 = .ok (.aload_n 0, 1) := by decide +kernel
theorem d_Mo_know_92 : decode c_Mo_know 92 = .ok (.iload_n 2, 1) := by decide +kernel
theorem d_Mo_know_93 : decode c_Mo_know 93 = .ok (.iload_n 3, 1) := by decide +kernel
theorem d_Mo_know_94 : decode c_Mo_know 94 = .ok (.iconst 0, 1) := by decide +kernel
theorem d_Mo_know_95 : decode c_Mo_know 95 = .ok (.invokevirtual 71, 3) := by decide +kernel
theorem d_Mo_know_98 : decode c_Mo_know 98 = .ok (.iastore, 1) := by decide +kernel
theorem d_Mo_know_99 : decode c_Mo_know 99 = .ok (.iinc 3 1, 3) := by decide +kernel
theorem d_Mo_know_102 : decode c_Mo_know 102 = .ok (.goto (-72), 3) := by decide +kernel
theorem d_Mo_know_105 : decode c_Mo_know 105 = .ok (.aload_n 0, 1) := by decide +kernel
theorem d_Mo_know_106 : decode c_Mo_know 106 = .ok (.iload_n 2, 1) := by decide +kernel
theorem d_Mo_know_107 : decode c_Mo_know 107 = .ok (.putfield 67, 3) := by decide +kernel
theorem d_Mo_know_110 : decode c_Mo_know 110 = .ok (.iinc 2 1, 3) := by decide +kernel
theorem d_Mo_know_113 : decode c_Mo_know 113 = .ok (.goto (-106), 3) := by decide +kernel
theorem d_Mo_know_116 : decode c_Mo_know 116 = .ok (.return_, 1) := by decide +kernel
theorem d_Mo_putCopies_0 : decode c_Mo_putCopies 0 = .ok (.aload_n 0, 1) := by decide +kernel
theorem d_Mo_putCopies_1 : decode c_Mo_putCopies 1 = .ok (.iload_n 1, 1) := by decide +kernel
theorem d_Mo_putCopies_2 : decode c_Mo_putCopies 2 = .ok (.invokevirtual 75, 3) := by decide +kernel
theorem d_Mo_putCopies_5 : decode c_Mo_putCopies 5 = .ok (.iload_n 2, 1) := by decide +kernel
theorem d_Mo_putCopies_6 : decode c_Mo_putCopies 6 = .ok (.sipush 2048, 3) := by decide +kernel
theorem d_Mo_putCopies_9 : decode c_Mo_putCopies 9 = .ok (.if_icmp .ge 7, 3) := by decide +kernel
theorem d_Mo_putCopies_12 : decode c_Mo_putCopies 12 = .ok (.iconst 1, 1) := by decide +kernel
theorem d_Mo_putCopies_13 : decode c_Mo_putCopies 13 = .ok (.goto 4, 3) := by decide +kernel
theorem d_Mo_putCopies_16 : decode c_Mo_putCopies 16 = .ok (.iconst 0, 1) := by decide +kernel
theorem d_Mo_putCopies_17 : decode c_Mo_putCopies 17 = .ok (.istore_n 3, 1) := by decide +kernel
theorem d_Mo_putCopies_18 : decode c_Mo_putCopies 18 = .ok (.iload_n 1, 1) := by decide +kernel
theorem d_Mo_putCopies_19 : decode c_Mo_putCopies 19 = .ok (.istore 4, 2) := by decide +kernel
theorem d_Mo_putCopies_21 : decode c_Mo_putCopies 21 = .ok (.iload 4, 2) := by decide +kernel
theorem d_Mo_putCopies_23 : decode c_Mo_putCopies 23 = .ok (.ifCond .le 111, 3) := by decide +kernel
theorem d_Mo_putCopies_26 : decode c_Mo_putCopies 26 = .ok (.iload 4, 2) := by decide +kernel
theorem d_Mo_putCopies_28 : decode c_Mo_putCopies 28 = .ok (.bipush 64, 2) := by decide +kernel
theorem d_Mo_putCopies_30 : decode c_Mo_putCopies 30 = .ok (.if_icmp .ge 8, 3) := by decide +kernel
theorem d_Mo_putCopies_33 : decode c_Mo_putCopies 33 = .ok (.iload 4, 2) := by decide +kernel
theorem d_Mo_putCopies_35 : decode c_Mo_putCopies 35 = .ok (.goto 5, 3) := by decide +kernel
theorem d_Mo_putCopies_38 : decode c_Mo_putCopies 38 = .ok (.bipush 64, 2) := by decide +kernel
theorem d_Mo_putCopies_40 : decode c_Mo_putCopies 40 = .ok (.istore 5, 2) := by decide +kernel
theorem d_Mo_putCopies_42 : decode c_Mo_putCopies 42 = .ok (.aload_n 0, 1) := by decide +kernel
theorem d_Mo_putCopies_43 : decode c_Mo_putCopies 43 = .ok (.iload 4, 2) := by decide +kernel
theorem d_Mo_putCopies_45 : decode c_Mo_putCopies 45 = .ok (.iload 5, 2) := by decide +kernel
theorem d_Mo_putCopies_47 : decode c_Mo_putCopies 47 = .ok (.iload_n 3, 1) := by decide +kernel
theorem d_Mo_putCopies_48 : decode c_Mo_putCopies 48 = .ok (.invokevirtual 71, 3) := by decide +kernel
theorem d_Mo_putCopies_51 : decode c_Mo_putCopies 51 = .ok (.aload_n 0, 1) := by decide +kernel
theorem d_Mo_putCopies_52 : decode c_Mo_putCopies 52 = .ok (.iload 4, 2) := by decide +kernel
theorem d_Mo_putCopies_54 : decode c_Mo_putCopies 54 = .ok (.iload_n 3, 1) := by decide +kernel
theorem d_Mo_putCopies_55 : decode c_Mo_putCopies 55 = .ok (.invokevirtual 64, 3) := by decide +kernel
theorem d_Mo_putCopies_58 : decode c_Mo_putCopies 58 = .ok (.if_icmp .le 9, 3) := by decide +kernel
theorem d_Mo_putCopies_61 : decode c_Mo_putCopies 61 = .ok (.iinc 5 (-1), 3) := by decide +kernel
theorem d_Mo_putCopies_64 : decode c_Mo_putCopies 64 = .ok (.goto (-22), 3) := by decide +kernel
theorem d_Mo_putCopies_67 : decode c_Mo_putCopies 67 = .ok (.iload 5, 2) := by decide +kernel
theorem d_Mo_putCopies_69 : decode c_Mo_putCopies 69 = .ok (.iload_n 3, 1) := by decide +kernel
theorem d_Mo_putCopies_70 : decode c_Mo_putCopies 70 = .ok (.invokestatic 60, 3) := by decide +kernel
theorem d_Mo_putCopies_73 : decode c_Mo_putCopies 73 = .ok (.iconst 2, 1) := by decide +kernel
theorem d_Mo_putCopies_74 : decode c_Mo_putCopies 74 = .ok (.if_icmp .ne 32, 3) := by decide +kernel
theorem d_Mo_putCopies_77 : decode c_Mo_putCopies 77 = .ok (.aload_n 0, 1) := by decide +kernel
theorem d_Mo_putCopies_78 : decode c_Mo_putCopies 78 = .ok (.iconst 1, 1) := by decide +kernel
theorem d_Mo_putCopies_79 : decode c_Mo_putCopies 79 = .ok (.iconst 4, 1) := by decide +kernel
theorem d_Mo_putCopies_80 : decode c_Mo_putCopies 80 = .ok (.iload 5, 2) := by decide +kernel
theorem d_Mo_putCopies_82 : decode c_Mo_putCopies 82 = .ok (.iconst 4, 1) := by decide +kernel
theorem d_Mo_putCopies_83 : decode c_Mo_putCopies 83 = .ok (.isub, 1) := by decide +kernel
theorem d_Mo_putCopies_84 : decode c_Mo_putCopies 84 = .ok (.bipush 8, 2) := by decide +kernel
theorem d_Mo_putCopies_86 : decode c_Mo_putCopies 86 = .ok (.iload_n 2, 1) := by decide +kernel
theorem d_Mo_putCopies_87 : decode c_Mo_putCopies 87 = .ok (.sipush 256, 3) := by decide +kernel
theorem d_Mo_putCopies_90 : decode c_Mo_putCopies 90 = .ok (.idiv, 1) := by decide +kernel
theorem d_Mo_putCopies_91 : decode c_Mo_putCopies 91 = .ok (.imul, 1) := by decide +kernel
theorem d_Mo_putCopies_92 : decode c_Mo_putCopies 92 = .ok (.iadd, 1) := by decide +kernel
theorem d_Mo_putCopies_93 : decode c_Mo_putCopies 93 = .ok (.imul, 1) := by decide +kernel
theorem d_Mo_putCopies_94 : decode c_Mo_putCopies 94 = .ok (.iadd, 1) := by decide +kernel
theorem d_Mo_putCopies_95 : decode c_Mo_putCopies 95 = .ok (.invokevirtual 38, 3) := by decide +kernel
theorem d_Mo_putCopies_98 : decode c_Mo_putCopies 98 = .ok (.aload_n 0, 1) := by decide +kernel
theorem d_Mo_putCopies_99 : decode c_Mo_putCopies 99 = .ok (.iload_n 2, 1) := by decide +kernel
theorem d_Mo_putCopies_100 : decode c_Mo_putCopies 100 = .ok (.invokevirtual 38, 3) := by decide +kernel
theorem d_Mo_putCopies_103 : decode c_Mo_putCopies 103 = .ok (.goto 21, 3) := by decide +kernel
theorem d_Mo_putCopies_106 : decode c_Mo_putCopies 106 = .ok (.aload_n 0, 1) := by decide +kernel
theorem d_Mo_putCopies_107 : decode c_Mo_putCopies 107 = .ok (.iconst 2, 1) := by decide +kernel
theorem d_Mo_putCopies_108 : decode c_Mo_putCopies 108 = .ok (.iconst 4, 1) := by decide +kernel
theorem d_Mo_putCopies_109 : decode c_Mo_putCopies 109 = .ok (.iload 5, 2) := by decide +kernel
theorem d_Mo_putCopies_111 : decode c_Mo_putCopies 111 = .ok (.iconst 1, 1) := by decide +kernel
theorem d_Mo_putCopies_112 : decode c_Mo_putCopies 112 = .ok (.isub, 1) := by decide +kernel
theorem d_Mo_putCopies_113 : decode c_Mo_putCopies 113 = .ok (.imul, 1) := by decide +kernel
theorem d_Mo_putCopies_114 : decode c_Mo_putCopies 114 = .ok (.iadd, 1) := by decide +kernel
theorem d_Mo_putCopies_115 : decode c_Mo_putCopies 115 = .ok (.invokevirtual 38, 3) := by decide +kernel
theorem d_Mo_putCopies_118 : decode c_Mo_putCopies 118 = .ok (.aload_n 0, 1) := by decide +kernel
theorem d_Mo_putCopies_119 : decode c_Mo_putCopies 119 = .ok (.iload_n 2, 1) := by decide +kernel
theorem d_Mo_putCopies_120 : decode c_Mo_putCopies 120 = .ok (.iconst 2, 1) := by decide +kernel
theorem d_Mo_putCopies_121 : decode c_Mo_putCopies 121 = .ok (.invokevirtual 78, 3) := by decide +kernel
theorem d_Mo_putCopies_124 : decode c_Mo_putCopies 124 = .ok (.iload 4, 2) := by decide +kernel
theorem d_Mo_putCopies_126 : decode c_Mo_putCopies 126 = .ok (.iload 5, 2) := by decide +kernel
theorem d_Mo_putCopies_128 : decode c_Mo_putCopies 128 = .ok (.isub, 1) := by decide +kernel
theorem d_Mo_putCopies_129 : decode c_Mo_putCopies 129 = .ok (.istore 4, 2) := by decide +kernel
theorem d_Mo_putCopies_131 : decode c_Mo_putCopies 131 = .ok (.goto (-110), 3) := by decide +kernel
theorem d_Mo_putCopies_134 : decode c_Mo_putCopies 134 = .ok (.return_, 1) := by decide +kernel
theorem d_Mo_putLiterals_0 : decode c_Mo_putLiterals 0 = .ok (.iload_n 2, 1) := by decide +kernel
theorem d_Mo_putLiterals_1 : decode c_Mo_putLiterals 1 = .ok (.iload_n 1, 1) := by decide +kernel
theorem d_Mo_putLiterals_2 : decode c_Mo_putLiterals 2 = .ok (.isub, 1) := by decide +kernel
theorem d_Mo_putLiterals_3 : decode c_Mo_putLiterals 3 = .ok (.istore_n 3, 1) := by decide +kernel
theorem d_Mo_putLiterals_4 : decode c_Mo_putLiterals 4 = .ok (.iload_n 3, 1) := by decide +kernel
theorem d_Mo_putLiterals_5 : decode c_Mo_putLiterals 5 = .ok (.ifCond .ne 4, 3) := by decide +kernel
theorem d_Mo_putLiterals_8 : decode c_Mo_putLiterals 8 = .ok (.return_, 1) := by decide +kernel
theorem d_Mo_putLiterals_9 : decode c_Mo_putLiterals 9 = .ok (.iload_n 3, 1) := by decide +kernel
theorem d_Mo_putLiterals_10 : decode c_Mo_putLiterals 10 = .ok (.bipush 60, 2) := by decide +kernel
theorem d_Mo_putLiterals_12 : decode c_Mo_putLiterals 12 = .ok (.if_icmp .gt 7, 3) := by decide +kernel
theorem d_Mo_putLiterals_15 : decode c_Mo_putLiterals 15 = .ok (.iconst 0, 1) := by decide +kernel
theorem d_Mo_putLiterals_16 : decode c_Mo_putLiterals 16 = .ok (.goto 25, 3) := by decide +kernel
theorem d_Mo_putLiterals_19 : decode c_Mo_putLiterals 19 = .ok (.iload_n 3, 1) := by decide +kernel
theorem d_Mo_putLiterals_20 : decode c_Mo_putLiterals 20 = .ok (.sipush 256, 3) := by decide +kernel
theorem d_Mo_putLiterals_23 : decode c_Mo_putLiterals 23 = .ok (.if_icmp .gt 7, 3) := by decide +kernel
theorem d_Mo_putLiterals_26 : decode c_Mo_putLiterals 26 = .ok (.iconst 1, 1) := by decide +kernel
theorem d_Mo_putLiterals_27 : decode c_Mo_putLiterals 27 = .ok (.goto 14, 3) := by decide +kernel
theorem d_Mo_putLiterals_30 : decode c_Mo_putLiterals 30 = .ok (.iload_n 3, 1) := by decide +kernel
theorem d_Mo_putLiterals_31 : decode c_Mo_putLiterals 31 = .ok (.ldc 82, 2) := by decide +kernel
theorem d_Mo_putLiterals_33 : decode c_Mo_putLiterals 33 = .ok (.if_icmp .gt 7, 3) := by decide +kernel
theorem d_Mo_putLiterals_36 : decode c_Mo_putLiterals 36 = .ok (.iconst 2, 1) := by decide +kernel
theorem d_Mo_putLiterals_37 : decode c_Mo_putLiterals 37 = .ok (.goto 4, 3) := by decide +kernel
theorem d_Mo_putLiterals_40 : decode c_Mo_putLiterals 40 = .ok (.iconst 3, 1) := by decide +kernel
theorem d_Mo_putLiterals_41 : decode c_Mo_putLiterals 41 = .ok (.istore 4, 2) := by decide +kernel
theorem d_Mo_putLiterals_43 : decode c_Mo_putLiterals 43 = .ok (.aload_n 0, 1) := by decide +kernel
theorem d_Mo_putLiterals_44 : decode c_Mo_putLiterals 44 = .ok (.iload 4, 2) := by decide +kernel
theorem d_Mo_putLiterals_46 : decode c_Mo_putLiterals 46 = .ok (.ifCond .ne 11, 3) := by decide +kernel
theorem d_Mo_putLiterals_49 : decode c_Mo_putLiterals 49 = .ok (.iconst 4, 1) := by decide +kernel
theorem d_Mo_putLiterals_50 : decode c_Mo_putLiterals 50 = .ok (.iload_n 3, 1) := by decide +kernel
theorem d_Mo_putLiterals_51 : decode c_Mo_putLiterals 51 = .ok (.iconst 1, 1) := by decide +kernel
theorem d_Mo_putLiterals_52 : decode c_Mo_putLiterals 52 = .ok (.isub, 1) := by decide +kernel
theorem d_Mo_putLiterals_53 : decode c_Mo_putLiterals 53 = .ok (.imul, 1) := by decide +kernel
theorem d_Mo_putLiterals_54 : decode c_Mo_putLiterals 54 = .ok (.goto 10, 3) := by decide +kernel
theorem d_Mo_putLiterals_57 : decode c_Mo_putLiterals 57 = .ok (.iconst 4, 1) := by decide +kernel
theorem d_Mo_putLiterals_58 : decode c_Mo_putLiterals 58 = .ok (.bipush 59, 2) := by decide +kernel
theorem d_Mo_putLiterals_60 : decode c_Mo_putLiterals 60 = .ok (.iload 4, 2) := by decide +kernel
theorem d_Mo_putLiterals_62 : decode c_Mo_putLiterals 62 = .ok (.iadd, 1) := by decide +kernel
theorem d_Mo_putLiterals_63 : decode c_Mo_putLiterals 63 = .ok (.imul, 1) := by decide +kernel
theorem d_Mo_putLiterals_64 : decode c_Mo_putLiterals 64 = .ok (.invokevirtual 38, 3) := by decide +kernel
theorem d_Mo_putLiterals_67 : decode c_Mo_putLiterals 67 = .ok (.aload_n 0, 1) := by decide +kernel
theorem d_Mo_putLiterals_68 : decode c_Mo_putLiterals 68 = .ok (.iload_n 3, 1) := by decide +kernel
theorem d_Mo_putLiterals_69 : decode c_Mo_putLiterals 69 = .ok (.iconst 1, 1) := by decide +kernel
theorem d_Mo_putLiterals_70 : decode c_Mo_putLiterals 70 = .ok (.isub, 1) := by decide +kernel
theorem d_Mo_putLiterals_71 : decode c_Mo_putLiterals 71 = .ok (.iload 4, 2) := by decide +kernel
theorem d_Mo_putLiterals_73 : decode c_Mo_putLiterals 73 = .ok (.invokevirtual 78, 3) := by decide +kernel
theorem d_Mo_putLiterals_76 : decode c_Mo_putLiterals 76 = .ok (.iload_n 1, 1) := by decide +kernel
theorem d_Mo_putLiterals_77 : decode c_Mo_putLiterals 77 = .ok (.istore 5, 2) := by decide +kernel
theorem d_Mo_putLiterals_79 : decode c_Mo_putLiterals 79 = .ok (.iload 5, 2) := by decide +kernel
theorem d_Mo_putLiterals_81 : decode c_Mo_putLiterals 81 = .ok (.iload_n 2, 1) := by decide +kernel
theorem d_Mo_putLiterals_82 : decode c_Mo_putLiterals 82 = .ok (.if_icmp .ge 20, 3) := by decide +kernel
theorem d_Mo_putLiterals_85 : decode c_Mo_putLiterals 85 = .ok (.aload_n 0, 1) := by decide +kernel
theorem d_Mo_putLiterals_86 : decode c_Mo_putLiterals 86 = .ok (.aload_n 0, 1) := by decide +kernel
theorem d_Mo_putLiterals_87 : decode c_Mo_putLiterals 87 = .ok (.getfield 7, 3) := by decide +kernel
theorem d_Mo_putLiterals_90 : decode c_Mo_putLiterals 90 = .ok (.iload 5, 2) := by decide +kernel
theorem d_Mo_putLiterals_92 : decode c_Mo_putLiterals 92 = .ok (.baload, 1) := by decide +kernel
theorem d_Mo_putLiterals_93 : decode c_Mo_putLiterals 93 = .ok (.invokevirtual 38, 3) := by decide +kernel
theorem d_Mo_putLiterals_96 : decode c_Mo_putLiterals 96 = .ok (.iinc 5 1, 3) := by decide +kernel
theorem d_Mo_putLiterals_99 : decode c_Mo_putLiterals 99 = .ok (.goto (-20), 3) := by decide +kernel
theorem d_Mo_putLiterals_102 : decode c_Mo_putLiterals 102 = .ok (.return_, 1) := by decide +kernel
theorem d_Mo_putBlock_0 : decode c_Mo_putBlock 0 = .ok (.iload_n 2, 1) := by decide +kernel
theorem d_Mo_putBlock_1 : decode c_Mo_putBlock 1 = .ok (.iload_n 1, 1) := by decide +kernel
theorem d_Mo_putBlock_2 : decode c_Mo_putBlock 2 = .ok (.isub, 1) := by decide +kernel
theorem d_Mo_putBlock_3 : decode c_Mo_putBlock 3 = .ok (.istore 4, 2) := by decide +kernel
theorem d_Mo_putBlock_5 : decode c_Mo_putBlock 5 = .ok (.iload 4, 2) := by decide +kernel
theorem d_Mo_putBlock_7 : decode c_Mo_putBlock 7 = .ok (.sipush 128, 3) := by decide +kernel
theorem d_Mo_putBlock_10 : decode c_Mo_putBlock 10 = .ok (.if_icmp .lt 28, 3) := by decide +kernel
theorem d_Mo_putBlock_13 : decode c_Mo_putBlock 13 = .ok (.aload_n 0, 1) := by decide +kernel
theorem d_Mo_putBlock_14 : decode c_Mo_putBlock 14 = .ok (.iload 4, 2) := by decide +kernel
theorem d_Mo_putBlock_16 : decode c_Mo_putBlock 16 = .ok (.sipush 128, 3) := by decide +kernel
theorem d_Mo_putBlock_19 : decode c_Mo_putBlock 19 = .ok (.irem, 1) := by decide +kernel
theorem d_Mo_putBlock_20 : decode c_Mo_putBlock 20 = .ok (.sipush 128, 3) := by decide +kernel
theorem d_Mo_putBlock_23 : decode c_Mo_putBlock 23 = .ok (.iadd, 1) := by decide +kernel
theorem d_Mo_putBlock_24 : decode c_Mo_putBlock 24 = .ok (.invokevirtual 38, 3) := by decide +kernel
theorem d_Mo_putBlock_27 : decode c_Mo_putBlock 27 = .ok (.iload 4, 2) := by decide +kernel
theorem d_Mo_putBlock_29 : decode c_Mo_putBlock 29 = .ok (.sipush 128, 3) := by decide +kernel
theorem d_Mo_putBlock_32 : decode c_Mo_putBlock 32 = .ok (.idiv, 1) := by decide +kernel
theorem d_Mo_putBlock_33 : decode c_Mo_putBlock 33 = .ok (.istore 4, 2) := by decide +kernel
theorem d_Mo_putBlock_35 : decode c_Mo_putBlock 35 = .ok (.goto (-30), 3) := by decide +kernel
theorem d_Mo_putBlock_38 : decode c_Mo_putBlock 38 = .ok (.aload_n 0, 1) := by decide +kernel
theorem d_Mo_putBlock_39 : decode c_Mo_putBlock 39 = .ok (.iload 4, 2) := by decide +kernel
theorem d_Mo_putBlock_41 : decode c_Mo_putBlock 41 = .ok (.invokevirtual 38, 3) := by decide +kernel
theorem d_Mo_putBlock_44 : decode c_Mo_putBlock 44 = .ok (.iload_n 1, 1) := by decide +kernel
theorem d_Mo_putBlock_45 : decode c_Mo_putBlock 45 = .ok (.istore 5, 2) := by decide +kernel
theorem d_Mo_putBlock_47 : decode c_Mo_putBlock 47 = .ok (.iload_n 1, 1) := by decide +kernel
theorem d_Mo_putBlock_48 : decode c_Mo_putBlock 48 = .ok (.istore 6, 2) := by decide +kernel
theorem d_Mo_putBlock_50 : decode c_Mo_putBlock 50 = .ok (.iload 6, 2) := by decide +kernel
theorem d_Mo_putBlock_52 : decode c_Mo_putBlock 52 = .ok (.iload_n 2, 1) := by decide +kernel
theorem d_Mo_putBlock_53 : decode c_Mo_putBlock 53 = .ok (.if_icmp .ge 66, 3) := by decide +kernel
theorem d_Mo_putBlock_56 : decode c_Mo_putBlock 56 = .ok (.aload_n 0, 1) := by decide +kernel
theorem d_Mo_putBlock_57 : decode c_Mo_putBlock 57 = .ok (.iload_n 1, 1) := by decide +kernel
theorem d_Mo_putBlock_58 : decode c_Mo_putBlock 58 = .ok (.iload 6, 2) := by decide +kernel
theorem d_Mo_putBlock_60 : decode c_Mo_putBlock 60 = .ok (.iload_n 2, 1) := by decide +kernel
theorem d_Mo_putBlock_61 : decode c_Mo_putBlock 61 = .ok (.iload_n 3, 1) := by decide +kernel
theorem d_Mo_putBlock_62 : decode c_Mo_putBlock 62 = .ok (.invokevirtual 83, 3) := by decide +kernel
theorem d_Mo_putBlock_65 : decode c_Mo_putBlock 65 = .ok (.aload_n 0, 1) := by decide +kernel
theorem d_Mo_putBlock_66 : decode c_Mo_putBlock 66 = .ok (.getfield 42, 3) := by decide +kernel
theorem d_Mo_putBlock_69 : decode c_Mo_putBlock 69 = .ok (.ifCond .ne 9, 3) := by decide +kernel
theorem d_Mo_putBlock_72 : decode c_Mo_putBlock 72 = .ok (.iinc 6 1, 3) := by decide +kernel
theorem d_Mo_putBlock_75 : decode c_Mo_putBlock 75 = .ok (.goto (-25), 3) := by decide +kernel
theorem d_Mo_putBlock_78 : decode c_Mo_putBlock 78 = .ok (.aload_n 0, 1) := by decide +kernel
theorem d_Mo_putBlock_79 : decode c_Mo_putBlock 79 = .ok (.iload 5, 2) := by decide +kernel
theorem d_Mo_putBlock_81 : decode c_Mo_putBlock 81 = .ok (.iload 6, 2) := by decide +kernel
theorem d_Mo_putBlock_83 : decode c_Mo_putBlock 83 = .ok (.invokevirtual 86, 3) := by decide +kernel
theorem d_Mo_putBlock_86 : decode c_Mo_putBlock 86 = .ok (.aload_n 0, 1) := by decide +kernel
theorem d_Mo_putBlock_87 : decode c_Mo_putBlock 87 = .ok (.getfield 42, 3) := by decide +kernel
theorem d_Mo_putBlock_90 : decode c_Mo_putBlock 90 = .ok (.istore 7, 2) := by decide +kernel
theorem d_Mo_putBlock_92 : decode c_Mo_putBlock 92 = .ok (.aload_n 0, 1) := by decide +kernel
theorem d_Mo_putBlock_93 : decode c_Mo_putBlock 93 = .ok (.iload 7, 2) := by decide +kernel
theorem d_Mo_putBlock_95 : decode c_Mo_putBlock 95 = .ok (.iload 6, 2) := by decide +kernel
theorem d_Mo_putBlock_97 : decode c_Mo_putBlock 97 = .ok (.aload_n 0, 1) := by decide +kernel
theorem d_Mo_putBlock_98 : decode c_Mo_putBlock 98 = .ok (.getfield 49, 3) := by decide +kernel
theorem d_Mo_putBlock_101 : decode c_Mo_putBlock 101 = .ok (.isub, 1) := by decide +kernel
theorem d_Mo_putBlock_102 : decode c_Mo_putBlock 102 = .ok (.invokevirtual 89, 3) := by decide +kernel
theorem d_Mo_putBlock_105 : decode c_Mo_putBlock 105 = .ok (.iload 6, 2) := by decide +kernel
theorem d_Mo_putBlock_107 : decode c_Mo_putBlock 107 = .ok (.iload 7, 2) := by decide +kernel
theorem d_Mo_putBlock_109 : decode c_Mo_putBlock 109 = .ok (.iadd, 1) := by decide +kernel
theorem d_Mo_putBlock_110 : decode c_Mo_putBlock 110 = .ok (.istore 6, 2) := by decide +kernel
theorem d_Mo_putBlock_112 : decode c_Mo_putBlock 112 = .ok (.iload 6, 2) := by decide +kernel
theorem d_Mo_putBlock_114 : decode c_Mo_putBlock 114 = .ok (.istore 5, 2) := by decide +kernel
theorem d_Mo_putBlock_116 : decode c_Mo_putBlock 116 = .ok (.goto (-66), 3) := by decide +kernel
theorem d_Mo_putBlock_119 : decode c_Mo_putBlock 119 = .ok (.aload_n 0, 1) := by decide +kernel
theorem d_Mo_putBlock_120 : decode c_Mo_putBlock 120 = .ok (.iload 5, 2) := by decide +kernel
theorem d_Mo_putBlock_122 : decode c_Mo_putBlock 122 = .ok (.iload_n 2, 1) := by decide +kernel
theorem d_Mo_putBlock_123 : decode c_Mo_putBlock 123 = .ok (.invokevirtual 86, 3) := by decide +kernel
theorem d_Mo_putBlock_126 : decode c_Mo_putBlock 126 = .ok (.return_, 1) := by decide +kernel
theorem d_Mo_pack_0 : decode c_Mo_pack 0 = .ok (.iload_n 1, 1) := by decide +kernel
theorem d_Mo_pack_1 : decode c_Mo_pack 1 = .ok (.ifCond .lt 8, 3) := by decide +kernel
theorem d_Mo_pack_4 : decode c_Mo_pack 4 = .ok (.iload_n 1, 1) := by decide +kernel
theorem d_Mo_pack_5 : decode c_Mo_pack 5 = .ok (.iconst 3, 1) := by decide +kernel
theorem d_Mo_pack_6 : decode c_Mo_pack 6 = .ok (.if_icmp .le 5, 3) := by decide +kernel
theorem d_Mo_pack_9 : decode c_Mo_pack 9 = .ok (.iconst (-1), 1) := by decide +kernel
theorem d_Mo_pack_10 : decode c_Mo_pack 10 = .ok (.ireturn, 1) := by decide +kernel
theorem d_Mo_pack_11 : decode c_Mo_pack 11 = .ok (.aload_n 0, 1) := by decide +kernel
theorem d_Mo_pack_12 : decode c_Mo_pack 12 = .ok (.iconst 0, 1) := by decide +kernel
theorem d_Mo_pack_13 : decode c_Mo_pack 13 = .ok (.putfield 35, 3) := by decide +kernel
theorem d_Mo_pack_16 : decode c_Mo_pack 16 = .ok (.aload_n 0, 1) := by decide +kernel
theorem d_Mo_pack_17 : decode c_Mo_pack 17 = .ok (.iconst 0, 1) := by decide +kernel
theorem d_Mo_pack_18 : decode c_Mo_pack 18 = .ok (.aload_n 0, 1) := by decide +kernel
theorem d_Mo_pack_19 : decode c_Mo_pack 19 = .ok (.getfield 26, 3) := by decide +kernel
theorem d_Mo_pack_22 : decode c_Mo_pack 22 = .ok (.iload_n 1, 1) := by decide +kernel
theorem d_Mo_pack_23 : decode c_Mo_pack 23 = .ok (.invokevirtual 92, 3) := by decide +kernel
theorem d_Mo_pack_26 : decode c_Mo_pack 26 = .ok (.aload_n 0, 1) := by decide +kernel
theorem d_Mo_pack_27 : decode c_Mo_pack 27 = .ok (.getfield 35, 3) := by decide +kernel
theorem d_Mo_pack_30 : decode c_Mo_pack 30 = .ok (.sipush 10000, 3) := by decide +kernel
theorem d_Mo_pack_33 : decode c_Mo_pack 33 = .ok (.if_icmp .le 7, 3) := by decide +kernel
theorem d_Mo_pack_36 : decode c_Mo_pack 36 = .ok (.iconst (-1), 1) := by decide +kernel
theorem d_Mo_pack_37 : decode c_Mo_pack 37 = .ok (.goto 7, 3) := by decide +kernel
theorem d_Mo_pack_40 : decode c_Mo_pack 40 = .ok (.aload_n 0, 1) := by decide +kernel
theorem d_Mo_pack_41 : decode c_Mo_pack 41 = .ok (.invokevirtual 95, 3) := by decide +kernel
theorem d_Mo_pack_44 : decode c_Mo_pack 44 = .ok (.ireturn, 1) := by decide +kernel
theorem d_Mo_fails_0 : decode c_Mo_fails 0 = .ok (.aload_n 0, 1) := by decide +kernel
theorem d_Mo_fails_1 : decode c_Mo_fails 1 = .ok (.getfield 99, 3) := by decide +kernel
theorem d_Mo_fails_4 : decode c_Mo_fails 4 = .ok (.ifCond .ne 13, 3) := by decide +kernel
theorem d_Mo_fails_7 : decode c_Mo_fails 7 = .ok (.aload_n 0, 1) := by decide +kernel
theorem d_Mo_fails_8 : decode c_Mo_fails 8 = .ok (.iload_n 1, 1) := by decide +kernel
theorem d_Mo_fails_9 : decode c_Mo_fails 9 = .ok (.putfield 99, 3) := by decide +kernel
theorem d_Mo_fails_12 : decode c_Mo_fails 12 = .ok (.aload_n 0, 1) := by decide +kernel
theorem d_Mo_fails_13 : decode c_Mo_fails 13 = .ok (.iload_n 2, 1) := by decide +kernel
theorem d_Mo_fails_14 : decode c_Mo_fails 14 = .ok (.putfield 102, 3) := by decide +kernel
theorem d_Mo_fails_17 : decode c_Mo_fails 17 = .ok (.iconst 0, 1) := by decide +kernel
theorem d_Mo_fails_18 : decode c_Mo_fails 18 = .ok (.ireturn, 1) := by decide +kernel
theorem d_Mo_take_0 : decode c_Mo_take 0 = .ok (.aload_n 0, 1) := by decide +kernel
theorem d_Mo_take_1 : decode c_Mo_take 1 = .ok (.getfield 99, 3) := by decide +kernel
theorem d_Mo_take_4 : decode c_Mo_take 4 = .ok (.ifCond .eq 7, 3) := by decide +kernel
theorem d_Mo_take_7 : decode c_Mo_take 7 = .ok (.ldc2_w 105, 3) := by decide +kernel
theorem d_Mo_take_10 : decode c_Mo_take 10 = .ok (.lreturn, 1) := by decide +kernel
theorem d_Mo_take_11 : decode c_Mo_take 11 = .ok (.lconst 0, 1) := by decide +kernel
theorem d_Mo_take_12 : decode c_Mo_take 12 = .ok (.lstore_n 2, 1) := by decide +kernel
theorem d_Mo_take_13 : decode c_Mo_take 13 = .ok (.iconst 0, 1) := by decide +kernel
theorem d_Mo_take_14 : decode c_Mo_take 14 = .ok (.istore 4, 2) := by decide +kernel
theorem d_Mo_take_16 : decode c_Mo_take 16 = .ok (.iload 4, 2) := by decide +kernel
theorem d_Mo_take_18 : decode c_Mo_take 18 = .ok (.iload_n 1, 1) := by decide +kernel
theorem d_Mo_take_19 : decode c_Mo_take 19 = .ok (.if_icmp .ge 67, 3) := by decide +kernel
theorem d_Mo_take_22 : decode c_Mo_take 22 = .ok (.aload_n 0, 1) := by decide +kernel
theorem d_Mo_take_23 : decode c_Mo_take 23 = .ok (.getfield 107, 3) := by decide +kernel
theorem d_Mo_take_26 : decode c_Mo_take 26 = .ok (.aload_n 0, 1) := by decide +kernel
theorem d_Mo_take_27 : decode c_Mo_take 27 = .ok (.getfield 110, 3) := by decide +kernel
theorem d_Mo_take_30 : decode c_Mo_take 30 = .ok (.if_icmp .ne 17, 3) := by decide +kernel
theorem d_Mo_take_33 : decode c_Mo_take 33 = .ok (.aload_n 0, 1) := by decide +kernel
theorem d_Mo_take_34 : decode c_Mo_take 34 = .ok (.iconst 1, 1) := by decide +kernel
theorem d_Mo_take_35 : decode c_Mo_take 35 = .ok (.aload_n 0, 1) := by decide +kernel
theorem d_Mo_take_36 : decode c_Mo_take 36 = .ok (.getfield 110, 3) := by decide +kernel
theorem d_Mo_take_39 : decode c_Mo_take 39 = .ok (.invokevirtual 113, 3) := by decide +kernel
theorem d_Mo_take_42 : decode c_Mo_take 42 = .ok (.pop, 1) := by decide +kernel
theorem d_Mo_take_43 : decode c_Mo_take 43 = .ok (.ldc2_w 105, 3) := by decide +kernel
theorem d_Mo_take_46 : decode c_Mo_take 46 = .ok (.lreturn, 1) := by decide +kernel
theorem d_Mo_take_47 : decode c_Mo_take 47 = .ok (.lload_n 2, 1) := by decide +kernel
theorem d_Mo_take_48 : decode c_Mo_take 48 = .ok (.aload_n 0, 1) := by decide +kernel
theorem d_Mo_take_49 : decode c_Mo_take 49 = .ok (.getfield 7, 3) := by decide +kernel
theorem d_Mo_take_52 : decode c_Mo_take 52 = .ok (.aload_n 0, 1) := by decide +kernel
theorem d_Mo_take_53 : decode c_Mo_take 53 = .ok (.getfield 107, 3) := by decide +kernel
theorem d_Mo_take_56 : decode c_Mo_take 56 = .ok (.baload, 1) := by decide +kernel
theorem d_Mo_take_57 : decode c_Mo_take 57 = .ok (.i2l, 1) := by decide +kernel
theorem d_Mo_take_58 : decode c_Mo_take 58 = .ok (.ldc2_w 117, 3) := by decide +kernel
theorem d_Mo_take_61 : decode c_Mo_take 61 = .ok (.land, 1) := by decide +kernel
theorem d_Mo_take_62 : decode c_Mo_take 62 = .ok (.bipush 8, 2) := by decide +kernel
theorem d_Mo_take_64 : decode c_Mo_take 64 = .ok (.iload 4, 2) := by decide +kernel
theorem d_Mo_take_66 : decode c_Mo_take 66 = .ok (.imul, 1) := by decide +kernel
theorem d_Mo_take_67 : decode c_Mo_take 67 = .ok (.lshl, 1) := by decide +kernel
theorem d_Mo_take_68 : decode c_Mo_take 68 = .ok (.lor, 1) := by decide +kernel
theorem d_Mo_take_69 : decode c_Mo_take 69 = .ok (.lstore_n 2, 1) := by decide +kernel
theorem d_Mo_take_70 : decode c_Mo_take 70 = .ok (.aload_n 0, 1) := by decide +kernel
theorem d_Mo_take_71 : decode c_Mo_take 71 = .ok (.dup, 1) := by decide +kernel
theorem d_Mo_take_72 : decode c_Mo_take 72 = .ok (.getfield 107, 3) := by decide +kernel
theorem d_Mo_take_75 : decode c_Mo_take 75 = .ok (.iconst 1, 1) := by decide +kernel
theorem d_Mo_take_76 : decode c_Mo_take 76 = .ok (.iadd, 1) := by decide +kernel
theorem d_Mo_take_77 : decode c_Mo_take 77 = .ok (.putfield 107, 3) := by decide +kernel
theorem d_Mo_take_80 : decode c_Mo_take 80 = .ok (.iinc 4 1, 3) := by decide +kernel
theorem d_Mo_take_83 : decode c_Mo_take 83 = .ok (.goto (-67), 3) := by decide +kernel
theorem d_Mo_take_86 : decode c_Mo_take 86 = .ok (.lload_n 2, 1) := by decide +kernel
theorem d_Mo_take_87 : decode c_Mo_take 87 = .ok (.lreturn, 1) := by decide +kernel
theorem d_Mo_takeLength_0 : decode c_Mo_takeLength 0 = .ok (.aload_n 0, 1) := by decide +kernel
theorem d_Mo_takeLength_1 : decode c_Mo_takeLength 1 = .ok (.getfield 107, 3) := by decide +kernel
theorem d_Mo_takeLength_4 : decode c_Mo_takeLength 4 = .ok (.istore_n 2, 1) := by decide +kernel
theorem d_Mo_takeLength_5 : decode c_Mo_takeLength 5 = .ok (.lconst 0, 1) := by decide +kernel
theorem d_Mo_takeLength_6 : decode c_Mo_takeLength 6 = .ok (.lstore_n 3, 1) := by decide +kernel
theorem d_Mo_takeLength_7 : decode c_Mo_takeLength 7 = .ok (.iconst 0, 1) := by decide +kernel
theorem d_Mo_takeLength_8 : decode c_Mo_takeLength 8 = .ok (.istore 5, 2) := by decide +kernel
theorem d_Mo_takeLength_10 : decode c_Mo_takeLength 10 = .ok (.iload 5, 2) := by decide +kernel
theorem d_Mo_takeLength_12 : decode c_Mo_takeLength 12 = .ok (.iconst 5, 1) := by decide +kernel
theorem d_Mo_takeLength_13 : decode c_Mo_takeLength 13 = .ok (.if_icmp .ge 80, 3) := by decide +kernel
theorem d_Mo_takeLength_16 : decode c_Mo_takeLength 16 = .ok (.aload_n 0, 1) := by decide +kernel
theorem d_Mo_takeLength_17 : decode c_Mo_takeLength 17 = .ok (.iconst 1, 1) := by decide +kernel
theorem d_Mo_takeLength_18 : decode c_Mo_takeLength 18 = .ok (.invokevirtual 119, 3) := by decide +kernel
theorem d_Mo_takeLength_21 : decode c_Mo_takeLength 21 = .ok (.lstore 6, 2) := by decide +kernel
theorem d_Mo_takeLength_23 : decode c_Mo_takeLength 23 = .ok (.lload 6, 2) := by decide +kernel
theorem d_Mo_takeLength_25 : decode c_Mo_takeLength 25 = .ok (.lconst 0, 1) := by decide +kernel
theorem d_Mo_takeLength_26 : decode c_Mo_takeLength 26 = .ok (.lcmp, 1) := by decide +kernel
theorem d_Mo_takeLength_27 : decode c_Mo_takeLength 27 = .ok (.ifCond .ge 7, 3) := by decide +kernel
theorem d_Mo_takeLength_30 : decode c_Mo_takeLength 30 = .ok (.ldc2_w 105, 3) := by decide +kernel
theorem d_Mo_takeLength_33 : decode c_Mo_takeLength 33 = .ok (.lreturn, 1) := by decide +kernel
theorem d_Mo_takeLength_34 : decode c_Mo_takeLength 34 = .ok (.iload 5, 2) := by decide +kernel
theorem d_Mo_takeLength_36 : decode c_Mo_takeLength 36 = .ok (.iconst 4, 1) := by decide +kernel
theorem d_Mo_takeLength_37 : decode c_Mo_takeLength 37 = .ok (.if_icmp .ne 23, 3) := by decide +kernel
theorem d_Mo_takeLength_40 : decode c_Mo_takeLength 40 = .ok (.lload 6, 2) := by decide +kernel
theorem d_Mo_takeLength_42 : decode c_Mo_takeLength 42 = .ok (.ldc2_w 123, 3) := by decide +kernel
theorem d_Mo_takeLength_45 : decode c_Mo_takeLength 45 = .ok (.lcmp, 1) := by decide +kernel
theorem d_Mo_takeLength_46 : decode c_Mo_takeLength 46 = .ok (.ifCond .le 14, 3) := by decide +kernel
theorem d_Mo_takeLength_49 : decode c_Mo_takeLength 49 = .ok (.aload_n 0, 1) := by decide +kernel
theorem d_Mo_takeLength_50 : decode c_Mo_takeLength 50 = .ok (.iconst 2, 1) := by decide +kernel
theorem d_Mo_takeLength_51 : decode c_Mo_takeLength 51 = .ok (.iload_n 2, 1) := by decide +kernel
theorem d_Mo_takeLength_52 : decode c_Mo_takeLength 52 = .ok (.invokevirtual 113, 3) := by decide +kernel
theorem d_Mo_takeLength_55 : decode c_Mo_takeLength 55 = .ok (.pop, 1) := by decide +kernel
theorem d_Mo_takeLength_56 : decode c_Mo_takeLength 56 = .ok (.ldc2_w 105, 3) := by decide +kernel
theorem d_Mo_takeLength_59 : decode c_Mo_takeLength 59 = .ok (.lreturn, 1) := by decide +kernel
theorem d_Mo_takeLength_60 : decode c_Mo_takeLength 60 = .ok (.lload_n 3, 1) := by decide +kernel
theorem d_Mo_takeLength_61 : decode c_Mo_takeLength 61 = .ok (.lload 6, 2) := by decide +kernel
theorem d_Mo_takeLength_63 : decode c_Mo_takeLength 63 = .ok (.ldc2_w 125, 3) := by decide +kernel
theorem d_Mo_takeLength_66 : decode c_Mo_takeLength 66 = .ok (.land, 1) := by decide +kernel
theorem d_Mo_takeLength_67 : decode c_Mo_takeLength 67 = .ok (.bipush 7, 2) := by decide +kernel
theorem d_Mo_takeLength_69 : decode c_Mo_takeLength 69 = .ok (.iload 5, 2) := by decide +kernel
theorem d_Mo_takeLength_71 : decode c_Mo_takeLength 71 = .ok (.imul, 1) := by decide +kernel
theorem d_Mo_takeLength_72 : decode c_Mo_takeLength 72 = .ok (.lshl, 1) := by decide +kernel
theorem d_Mo_takeLength_73 : decode c_Mo_takeLength 73 = .ok (.lor, 1) := by decide +kernel
theorem d_Mo_takeLength_74 : decode c_Mo_takeLength 74 = .ok (.lstore_n 3, 1) := by decide +kernel
theorem d_Mo_takeLength_75 : decode c_Mo_takeLength 75 = .ok (.lload 6, 2) := by decide +kernel
theorem d_Mo_takeLength_77 : decode c_Mo_takeLength 77 = .ok (.ldc2_w 127, 3) := by decide +kernel
theorem d_Mo_takeLength_80 : decode c_Mo_takeLength 80 = .ok (.lcmp, 1) := by decide +kernel
theorem d_Mo_takeLength_81 : decode c_Mo_takeLength 81 = .ok (.ifCond .ge 6, 3) := by decide +kernel
theorem d_Mo_takeLength_84 : decode c_Mo_takeLength 84 = .ok (.goto 9, 3) := by decide +kernel
theorem d_Mo_takeLength_87 : decode c_Mo_takeLength 87 = .ok (.iinc 5 1, 3) := by decide +kernel
theorem d_Mo_takeLength_90 : decode c_Mo_takeLength 90 = .ok (.goto (-80), 3) := by decide +kernel
theorem d_Mo_takeLength_93 : decode c_Mo_takeLength 93 = .ok (.lload_n 3, 1) := by decide +kernel
theorem d_Mo_takeLength_94 : decode c_Mo_takeLength 94 = .ok (.iload_n 1, 1) := by decide +kernel
theorem d_Mo_takeLength_95 : decode c_Mo_takeLength 95 = .ok (.i2l, 1) := by decide +kernel
theorem d_Mo_takeLength_96 : decode c_Mo_takeLength 96 = .ok (.lcmp, 1) := by decide +kernel
theorem d_Mo_takeLength_97 : decode c_Mo_takeLength 97 = .ok (.ifCond .le 10, 3) := by decide +kernel
theorem d_Mo_takeLength_100 : decode c_Mo_takeLength 100 = .ok (.aload_n 0, 1) := by decide +kernel
theorem d_Mo_takeLength_101 : decode c_Mo_takeLength 101 = .ok (.iconst 3, 1) := by decide +kernel
theorem d_Mo_takeLength_102 : decode c_Mo_takeLength 102 = .ok (.iload_n 2, 1) := by decide +kernel
theorem d_Mo_takeLength_103 : decode c_Mo_takeLength 103 = .ok (.invokevirtual 113, 3) := by decide +kernel
theorem d_Mo_takeLength_106 : decode c_Mo_takeLength 106 = .ok (.pop, 1) := by decide +kernel
theorem d_Mo_takeLength_107 : decode c_Mo_takeLength 107 = .ok (.aload_n 0, 1) := by decide +kernel
theorem d_Mo_takeLength_108 : decode c_Mo_takeLength 108 = .ok (.getfield 99, 3) := by decide +kernel
theorem d_Mo_takeLength_111 : decode c_Mo_takeLength 111 = .ok (.ifCond .ne 7, 3) := by decide +kernel
theorem d_Mo_takeLength_114 : decode c_Mo_takeLength 114 = .ok (.lload_n 3, 1) := by decide +kernel
theorem d_Mo_takeLength_115 : decode c_Mo_takeLength 115 = .ok (.goto 6, 3) := by decide +kernel
theorem d_Mo_takeLength_118 : decode c_Mo_takeLength 118 = .ok (.ldc2_w 105, 3) := by decide +kernel
theorem d_Mo_takeLength_121 : decode c_Mo_takeLength 121 = .ok (.lreturn, 1) := by decide +kernel
theorem d_Mo_fitting_0 : decode c_Mo_fitting 0 = .ok (.aload_n 0, 1) := by decide +kernel
theorem d_Mo_fitting_1 : decode c_Mo_fitting 1 = .ok (.getfield 99, 3) := by decide +kernel
theorem d_Mo_fitting_4 : decode c_Mo_fitting 4 = .ok (.ifCond .eq 5, 3) := by decide +kernel
theorem d_Mo_fitting_7 : decode c_Mo_fitting 7 = .ok (.iconst 0, 1) := by decide +kernel
theorem d_Mo_fitting_8 : decode c_Mo_fitting 8 = .ok (.ireturn, 1) := by decide +kernel
theorem d_Mo_fitting_9 : decode c_Mo_fitting 9 = .ok (.aload_n 0, 1) := by decide +kernel
theorem d_Mo_fitting_10 : decode c_Mo_fitting 10 = .ok (.getfield 35, 3) := by decide +kernel
theorem d_Mo_fitting_13 : decode c_Mo_fitting 13 = .ok (.iload_n 2, 1) := by decide +kernel
theorem d_Mo_fitting_14 : decode c_Mo_fitting 14 = .ok (.isub, 1) := by decide +kernel
theorem d_Mo_fitting_15 : decode c_Mo_fitting 15 = .ok (.istore 9, 2) := by decide +kernel
theorem d_Mo_fitting_17 : decode c_Mo_fitting 17 = .ok (.lload_n 3, 1) := by decide +kernel
theorem d_Mo_fitting_18 : decode c_Mo_fitting 18 = .ok (.lconst 0, 1) := by decide +kernel
theorem d_Mo_fitting_19 : decode c_Mo_fitting 19 = .ok (.lcmp, 1) := by decide +kernel
theorem d_Mo_fitting_20 : decode c_Mo_fitting 20 = .ok (.ifCond .eq 11, 3) := by decide +kernel
theorem d_Mo_fitting_23 : decode c_Mo_fitting 23 = .ok (.lload_n 3, 1) := by decide +kernel
theorem d_Mo_fitting_24 : decode c_Mo_fitting 24 = .ok (.iload 9, 2) := by decide +kernel
theorem d_Mo_fitting_26 : decode c_Mo_fitting 26 = .ok (.i2l, 1) := by decide +kernel
theorem d_Mo_fitting_27 : decode c_Mo_fitting 27 = .ok (.lcmp, 1) := by decide +kernel
theorem d_Mo_fitting_28 : decode c_Mo_fitting 28 = .ok (.ifCond .le 10, 3) := by decide +kernel
theorem d_Mo_fitting_31 : decode c_Mo_fitting 31 = .ok (.aload_n 0, 1) := by decide +kernel
theorem d_Mo_fitting_32 : decode c_Mo_fitting 32 = .ok (.iconst 4, 1) := by decide +kernel
theorem d_Mo_fitting_33 : decode c_Mo_fitting 33 = .ok (.iload_n 1, 1) := by decide +kernel
theorem d_Mo_fitting_34 : decode c_Mo_fitting 34 = .ok (.invokevirtual 113, 3) := by decide +kernel
theorem d_Mo_fitting_37 : decode c_Mo_fitting 37 = .ok (.ireturn, 1) := by decide +kernel
theorem d_Mo_fitting_38 : decode c_Mo_fitting 38 = .ok (.iload 9, 2) := by decide +kernel
theorem d_Mo_fitting_40 : decode c_Mo_fitting 40 = .ok (.i2l, 1) := by decide +kernel
theorem d_Mo_fitting_41 : decode c_Mo_fitting 41 = .ok (.lload 5, 2) := by decide +kernel
theorem d_Mo_fitting_43 : decode c_Mo_fitting 43 = .ok (.ladd, 1) := by decide +kernel
theorem d_Mo_fitting_44 : decode c_Mo_fitting 44 = .ok (.lload 7, 2) := by decide +kernel
theorem d_Mo_fitting_46 : decode c_Mo_fitting 46 = .ok (.lcmp, 1) := by decide +kernel
theorem d_Mo_fitting_47 : decode c_Mo_fitting 47 = .ok (.ifCond .le 12, 3) := by decide +kernel
theorem d_Mo_fitting_50 : decode c_Mo_fitting 50 = .ok (.aload_n 0, 1) := by decide +kernel
theorem d_Mo_fitting_51 : decode c_Mo_fitting 51 = .ok (.iconst 5, 1) := by decide +kernel
theorem d_Mo_fitting_52 : decode c_Mo_fitting 52 = .ok (.iload_n 1, 1) := by decide +kernel
theorem d_Mo_fitting_53 : decode c_Mo_fitting 53 = .ok (.invokevirtual 113, 3) := by decide +kernel
theorem d_Mo_fitting_56 : decode c_Mo_fitting 56 = .ok (.ifCond .eq 7, 3) := by decide +kernel
theorem d_Mo_fitting_59 : decode c_Mo_fitting 59 = .ok (.iconst 1, 1) := by decide +kernel
theorem d_Mo_fitting_60 : decode c_Mo_fitting 60 = .ok (.goto 4, 3) := by decide +kernel
theorem d_Mo_fitting_63 : decode c_Mo_fitting 63 = .ok (.iconst 0, 1) := by decide +kernel
theorem d_Mo_fitting_64 : decode c_Mo_fitting 64 = .ok (.ireturn, 1) := by decide +kernel
theorem d_Mo_literals_0 : decode c_Mo_literals 0 = .ok (.iload_n 3, 1) := by decide +kernel
theorem d_Mo_literals_1 : decode c_Mo_literals 1 = .ok (.bipush 60, 2) := by decide +kernel
theorem d_Mo_literals_3 : decode c_Mo_literals 3 = .ok (.if_icmp .ge 10, 3) := by decide +kernel
theorem d_Mo_literals_6 : decode c_Mo_literals 6 = .ok (.iload_n 3, 1) := by decide +kernel
theorem d_Mo_literals_7 : decode c_Mo_literals 7 = .ok (.i2l, 1) := by decide +kernel
theorem d_Mo_literals_8 : decode c_Mo_literals 8 = .ok (.lconst 1, 1) := by decide +kernel
theorem d_Mo_literals_9 : decode c_Mo_literals 9 = .ok (.ladd, 1) := by decide +kernel
theorem d_Mo_literals_10 : decode c_Mo_literals 10 = .ok (.goto 13, 3) := by decide +kernel
theorem d_Mo_literals_13 : decode c_Mo_literals 13 = .ok (.aload_n 0, 1) := by decide +kernel
theorem d_Mo_literals_14 : decode c_Mo_literals 14 = .ok (.iload_n 3, 1) := by decide +kernel
theorem d_Mo_literals_15 : decode c_Mo_literals 15 = .ok (.bipush 59, 2) := by decide +kernel
theorem d_Mo_literals_17 : decode c_Mo_literals 17 = .ok (.isub, 1) := by decide +kernel
theorem d_Mo_literals_18 : decode c_Mo_literals 18 = .ok (.invokevirtual 119, 3) := by decide +kernel
theorem d_Mo_literals_21 : decode c_Mo_literals 21 = .ok (.lconst 1, 1) := by decide +kernel
theorem d_Mo_literals_22 : decode c_Mo_literals 22 = .ok (.ladd, 1) := by decide +kernel
theorem d_Mo_literals_23 : decode c_Mo_literals 23 = .ok (.lstore 6, 2) := by decide +kernel
theorem d_Mo_literals_25 : decode c_Mo_literals 25 = .ok (.aload_n 0, 1) := by decide +kernel
theorem d_Mo_literals_26 : decode c_Mo_literals 26 = .ok (.getfield 99, 3) := by decide +kernel
theorem d_Mo_literals_29 : decode c_Mo_literals 29 = .ok (.ifCond .eq 4, 3) := by decide +kernel
theorem d_Mo_literals_32 : decode c_Mo_literals 32 = .ok (.return_, 1) := by decide +kernel
theorem d_Mo_literals_33 : decode c_Mo_literals 33 = .ok (.aload_n 0, 1) := by decide +kernel
theorem d_Mo_literals_34 : decode c_Mo_literals 34 = .ok (.getfield 35, 3) := by decide +kernel
theorem d_Mo_literals_37 : decode c_Mo_literals 37 = .ok (.iload_n 2, 1) := by decide +kernel
theorem d_Mo_literals_38 : decode c_Mo_literals 38 = .ok (.isub, 1) := by decide +kernel
theorem d_Mo_literals_39 : decode c_Mo_literals 39 = .ok (.i2l, 1) := by decide +kernel
theorem d_Mo_literals_40 : decode c_Mo_literals 40 = .ok (.lload 6, 2) := by decide +kernel
theorem d_Mo_literals_42 : decode c_Mo_literals 42 = .ok (.ladd, 1) := by decide +kernel
theorem d_Mo_literals_43 : decode c_Mo_literals 43 = .ok (.lload 4, 2) := by decide +kernel
theorem d_Mo_literals_45 : decode c_Mo_literals 45 = .ok (.lcmp, 1) := by decide +kernel
theorem d_Mo_literals_46 : decode c_Mo_literals 46 = .ok (.ifCond .le 11, 3) := by decide +kernel
theorem d_Mo_literals_49 : decode c_Mo_literals 49 = .ok (.aload_n 0, 1) := by decide +kernel
theorem d_Mo_literals_50 : decode c_Mo_literals 50 = .ok (.iconst 5, 1) := by decide +kernel
theorem d_Mo_literals_51 : decode c_Mo_literals 51 = .ok (.iload_n 1, 1) := by decide +kernel
theorem d_Mo_literals_52 : decode c_Mo_literals 52 = .ok (.invokevirtual 113, 3) := by decide +kernel
theorem d_Mo_literals_55 : decode c_Mo_literals 55 = .ok (.pop, 1) := by decide +kernel
theorem d_Mo_literals_56 : decode c_Mo_literals 56 = .ok (.return_, 1) := by decide +kernel
theorem d_Mo_literals_57 : decode c_Mo_literals 57 = .ok (.lconst 0, 1) := by decide +kernel
theorem d_Mo_literals_58 : decode c_Mo_literals 58 = .ok (.lstore 8, 2) := by decide +kernel
theorem d_Mo_literals_60 : decode c_Mo_literals 60 = .ok (.lload 8, 2) := by decide +kernel
theorem d_Mo_literals_62 : decode c_Mo_literals 62 = .ok (.lload 6, 2) := by decide +kernel
theorem d_Mo_literals_64 : decode c_Mo_literals 64 = .ok (.lcmp, 1) := by decide +kernel
theorem d_Mo_literals_65 : decode c_Mo_literals 65 = .ok (.ifCond .ge 40, 3) := by decide +kernel
theorem d_Mo_literals_68 : decode c_Mo_literals 68 = .ok (.aload_n 0, 1) := by decide +kernel
theorem d_Mo_literals_69 : decode c_Mo_literals 69 = .ok (.getfield 99, 3) := by decide +kernel
theorem d_Mo_literals_72 : decode c_Mo_literals 72 = .ok (.ifCond .ne 33, 3) := by decide +kernel
theorem d_Mo_literals_75 : decode c_Mo_literals 75 = .ok (.aload_n 0, 1) := by decide +kernel
theorem d_Mo_literals_76 : decode c_Mo_literals 76 = .ok (.iconst 1, 1) := by decide +kernel
theorem d_Mo_literals_77 : decode c_Mo_literals 77 = .ok (.invokevirtual 119, 3) := by decide +kernel
theorem d_Mo_literals_80 : decode c_Mo_literals 80 = .ok (.lstore 10, 2) := by decide +kernel
theorem d_Mo_literals_82 : decode c_Mo_literals 82 = .ok (.lload 10, 2) := by decide +kernel
theorem d_Mo_literals_84 : decode c_Mo_literals 84 = .ok (.lconst 0, 1) := by decide +kernel
theorem d_Mo_literals_85 : decode c_Mo_literals 85 = .ok (.lcmp, 1) := by decide +kernel
theorem d_Mo_literals_86 : decode c_Mo_literals 86 = .ok (.ifCond .lt 10, 3) := by decide +kernel
theorem d_Mo_literals_89 : decode c_Mo_literals 89 = .ok (.aload_n 0, 1) := by decide +kernel
theorem d_Mo_literals_90 : decode c_Mo_literals 90 = .ok (.lload 10, 2) := by decide +kernel
theorem d_Mo_literals_92 : decode c_Mo_literals 92 = .ok (.l2i, 1) := by decide +kernel
theorem d_Mo_literals_93 : decode c_Mo_literals 93 = .ok (.invokevirtual 38, 3) := by decide +kernel
theorem d_Mo_literals_96 : decode c_Mo_literals 96 = .ok (.lload 8, 2) := by decide +kernel
theorem d_Mo_literals_98 : decode c_Mo_literals 98 = .ok (.lconst 1, 1) := by decide +kernel
theorem d_Mo_literals_99 : decode c_Mo_literals 99 = .ok (.ladd, 1) := by decide +kernel
theorem d_Mo_literals_100 : decode c_Mo_literals 100 = .ok (.lstore 8, 2) := by decide +kernel
theorem d_Mo_literals_102 : decode c_Mo_literals 102 = .ok (.goto (-42), 3) := by decide +kernel
theorem d_Mo_literals_105 : decode c_Mo_literals 105 = .ok (.return_, 1) := by decide +kernel
theorem d_Mo_copy_0 : decode c_Mo_copy 0 = .ok (.iload_n 3, 1) := by decide +kernel
theorem d_Mo_copy_1 : decode c_Mo_copy 1 = .ok (.iconst 1, 1) := by decide +kernel
theorem d_Mo_copy_2 : decode c_Mo_copy 2 = .ok (.if_icmp .ne 14, 3) := by decide +kernel
theorem d_Mo_copy_5 : decode c_Mo_copy 5 = .ok (.iload 4, 2) := by decide +kernel
theorem d_Mo_copy_7 : decode c_Mo_copy 7 = .ok (.bipush 8, 2) := by decide +kernel
theorem d_Mo_copy_9 : decode c_Mo_copy 9 = .ok (.irem, 1) := by decide +kernel
theorem d_Mo_copy_10 : decode c_Mo_copy 10 = .ok (.iconst 4, 1) := by decide +kernel
theorem d_Mo_copy_11 : decode c_Mo_copy 11 = .ok (.iadd, 1) := by decide +kernel
theorem d_Mo_copy_12 : decode c_Mo_copy 12 = .ok (.i2l, 1) := by decide +kernel
theorem d_Mo_copy_13 : decode c_Mo_copy 13 = .ok (.goto 8, 3) := by decide +kernel
theorem d_Mo_copy_16 : decode c_Mo_copy 16 = .ok (.iload 4, 2) := by decide +kernel
theorem d_Mo_copy_18 : decode c_Mo_copy 18 = .ok (.iconst 1, 1) := by decide +kernel
theorem d_Mo_copy_19 : decode c_Mo_copy 19 = .ok (.iadd, 1) := by decide +kernel
theorem d_Mo_copy_20 : decode c_Mo_copy 20 = .ok (.i2l, 1) := by decide +kernel
theorem d_Mo_copy_21 : decode c_Mo_copy 21 = .ok (.lstore 7, 2) := by decide +kernel
theorem d_Mo_copy_23 : decode c_Mo_copy 23 = .ok (.aload_n 0, 1) := by decide +kernel
theorem d_Mo_copy_24 : decode c_Mo_copy 24 = .ok (.iload_n 3, 1) := by decide +kernel
theorem d_Mo_copy_25 : decode c_Mo_copy 25 = .ok (.iconst 3, 1) := by decide +kernel
theorem d_Mo_copy_26 : decode c_Mo_copy 26 = .ok (.if_icmp .ne 7, 3) := by decide +kernel
theorem d_Mo_copy_29 : decode c_Mo_copy 29 = .ok (.iconst 4, 1) := by decide +kernel
theorem d_Mo_copy_30 : decode c_Mo_copy 30 = .ok (.goto 4, 3) := by decide +kernel
theorem d_Mo_copy_33 : decode c_Mo_copy 33 = .ok (.iload_n 3, 1) := by decide +kernel
theorem d_Mo_copy_34 : decode c_Mo_copy 34 = .ok (.invokevirtual 119, 3) := by decide +kernel
theorem d_Mo_copy_37 : decode c_Mo_copy 37 = .ok (.lstore 9, 2) := by decide +kernel
theorem d_Mo_copy_39 : decode c_Mo_copy 39 = .ok (.iload_n 3, 1) := by decide +kernel
theorem d_Mo_copy_40 : decode c_Mo_copy 40 = .ok (.iconst 1, 1) := by decide +kernel
theorem d_Mo_copy_41 : decode c_Mo_copy 41 = .ok (.if_icmp .ne 18, 3) := by decide +kernel
theorem d_Mo_copy_44 : decode c_Mo_copy 44 = .ok (.lload 9, 2) := by decide +kernel
theorem d_Mo_copy_46 : decode c_Mo_copy 46 = .ok (.ldc2_w 129, 3) := by decide +kernel
theorem d_Mo_copy_49 : decode c_Mo_copy 49 = .ok (.iload 4, 2) := by decide +kernel
theorem d_Mo_copy_51 : decode c_Mo_copy 51 = .ok (.bipush 8, 2) := by decide +kernel
theorem d_Mo_copy_53 : decode c_Mo_copy 53 = .ok (.idiv, 1) := by decide +kernel
theorem d_Mo_copy_54 : decode c_Mo_copy 54 = .ok (.i2l, 1) := by decide +kernel
theorem d_Mo_copy_55 : decode c_Mo_copy 55 = .ok (.lmul, 1) := by decide +kernel
theorem d_Mo_copy_56 : decode c_Mo_copy 56 = .ok (.ladd, 1) := by decide +kernel
theorem d_Mo_copy_57 : decode c_Mo_copy 57 = .ok (.lstore 9, 2) := by decide +kernel
theorem d_Mo_copy_59 : decode c_Mo_copy 59 = .ok (.aload_n 0, 1) := by decide +kernel
theorem d_Mo_copy_60 : decode c_Mo_copy 60 = .ok (.iload_n 1, 1) := by decide +kernel
theorem d_Mo_copy_61 : decode c_Mo_copy 61 = .ok (.iload_n 2, 1) := by decide +kernel
theorem d_Mo_copy_62 : decode c_Mo_copy 62 = .ok (.lload 9, 2) := by decide +kernel
theorem d_Mo_copy_64 : decode c_Mo_copy 64 = .ok (.lload 7, 2) := by decide +kernel
theorem d_Mo_copy_66 : decode c_Mo_copy 66 = .ok (.lload 5, 2) := by decide +kernel
theorem d_Mo_copy_68 : decode c_Mo_copy 68 = .ok (.invokevirtual 131, 3) := by decide +kernel
theorem d_Mo_copy_71 : decode c_Mo_copy 71 = .ok (.ifCond .ne 4, 3) := by decide +kernel
theorem d_Mo_copy_74 : decode c_Mo_copy 74 = .ok (.return_, 1) := by decide +kernel
theorem d_Mo_copy_75 : decode c_Mo_copy 75 = .ok (.iconst 0, 1) := by decide +kernel
theorem d_Mo_copy_76 : decode c_Mo_copy 76 = .ok (.istore 11, 2) := by decide +kernel
theorem d_Mo_copy_78 : decode c_Mo_copy 78 = .ok (.iload 11, 2) := by decide +kernel
theorem d_Mo_copy_80 : decode c_Mo_copy 80 = .ok (.i2l, 1) := by decide +kernel
theorem d_Mo_copy_81 : decode c_Mo_copy 81 = .ok (.lload 7, 2) := by decide +kernel
theorem d_Mo_copy_83 : decode c_Mo_copy 83 = .ok (.lcmp, 1) := by decide +kernel
theorem d_Mo_copy_84 : decode c_Mo_copy 84 = .ok (.ifCond .ge 26, 3) := by decide +kernel
theorem d_Mo_copy_87 : decode c_Mo_copy 87 = .ok (.aload_n 0, 1) := by decide +kernel
theorem d_Mo_copy_88 : decode c_Mo_copy 88 = .ok (.aload_n 0, 1) := by decide +kernel
theorem d_Mo_copy_89 : decode c_Mo_copy 89 = .ok (.getfield 16, 3) := by decide +kernel
theorem d_Mo_copy_92 : decode c_Mo_copy 92 = .ok (.aload_n 0, 1) := by decide +kernel
theorem d_Mo_copy_93 : decode c_Mo_copy 93 = .ok (.getfield 35, 3) := by decide +kernel
theorem d_Mo_copy_96 : decode c_Mo_copy 96 = .ok (.lload 9, 2) := by decide +kernel
theorem d_Mo_copy_98 : decode c_Mo_copy 98 = .ok (.l2i, 1) := by decide +kernel
theorem d_Mo_copy_99 : decode c_Mo_copy 99 = .ok (.isub, 1) := by decide +kernel
theorem d_Mo_copy_100 : decode c_Mo_copy 100 = .ok (.baload, 1) := by decide +kernel
theorem d_Mo_copy_101 : decode c_Mo_copy 101 = .ok (.invokevirtual 38, 3) := by decide +kernel
theorem d_Mo_copy_104 : decode c_Mo_copy 104 = .ok (.iinc 11 1, 3) := by decide +kernel
theorem d_Mo_copy_107 : decode c_Mo_copy 107 = .ok (.goto (-29), 3) := by decide +kernel
theorem d_Mo_copy_110 : decode c_Mo_copy 110 = .ok (.return_, 1) := by decide +kernel
theorem d_Mo_takeBlock_0 : decode c_Mo_takeBlock 0 = .ok (.aload_n 0, 1) := by decide +kernel
theorem d_Mo_takeBlock_1 : decode c_Mo_takeBlock 1 = .ok (.getfield 35, 3) := by decide +kernel
theorem d_Mo_takeBlock_4 : decode c_Mo_takeBlock 4 = .ok (.istore_n 2, 1) := by decide +kernel
theorem d_Mo_takeBlock_5 : decode c_Mo_takeBlock 5 = .ok (.aload_n 0, 1) := by decide +kernel
theorem d_Mo_takeBlock_6 : decode c_Mo_takeBlock 6 = .ok (.iload_n 1, 1) := by decide +kernel
theorem d_Mo_takeBlock_7 : decode c_Mo_takeBlock 7 = .ok (.invokevirtual 135, 3) := by decide +kernel
theorem d_Mo_takeBlock_10 : decode c_Mo_takeBlock 10 = .ok (.lstore_n 3, 1) := by decide +kernel
theorem d_Mo_takeBlock_11 : decode c_Mo_takeBlock 11 = .ok (.aload_n 0, 1) := by decide +kernel
theorem d_Mo_takeBlock_12 : decode c_Mo_takeBlock 12 = .ok (.getfield 99, 3) := by decide +kernel
theorem d_Mo_takeBlock_15 : decode c_Mo_takeBlock 15 = .ok (.ifCond .ne 69, 3) := by decide +kernel
theorem d_Mo_takeBlock_18 : decode c_Mo_takeBlock 18 = .ok (.aload_n 0, 1) := by decide +kernel
theorem d_Mo_takeBlock_19 : decode c_Mo_takeBlock 19 = .ok (.getfield 107, 3) := by decide +kernel
theorem d_Mo_takeBlock_22 : decode c_Mo_takeBlock 22 = .ok (.aload_n 0, 1) := by decide +kernel
theorem d_Mo_takeBlock_23 : decode c_Mo_takeBlock 23 = .ok (.getfield 110, 3) := by decide +kernel
theorem d_Mo_takeBlock_26 : decode c_Mo_takeBlock 26 = .ok (.if_icmp .ge 58, 3) := by decide +kernel
theorem d_Mo_takeBlock_29 : decode c_Mo_takeBlock 29 = .ok (.aload_n 0, 1) := by decide +kernel
theorem d_Mo_takeBlock_30 : decode c_Mo_takeBlock 30 = .ok (.getfield 107, 3) := by decide +kernel
theorem d_Mo_takeBlock_33 : decode c_Mo_takeBlock 33 = .ok (.istore 5, 2) := by decide +kernel
theorem d_Mo_takeBlock_35 : decode c_Mo_takeBlock 35 = .ok (.aload_n 0, 1) := by decide +kernel
theorem d_Mo_takeBlock_36 : decode c_Mo_takeBlock 36 = .ok (.iconst 1, 1) := by decide +kernel
theorem d_Mo_takeBlock_37 : decode c_Mo_takeBlock 37 = .ok (.invokevirtual 119, 3) := by decide +kernel
theorem d_Mo_takeBlock_40 : decode c_Mo_takeBlock 40 = .ok (.l2i, 1) := by decide +kernel
theorem d_Mo_takeBlock_41 : decode c_Mo_takeBlock 41 = .ok (.istore 6, 2) := by decide +kernel
theorem d_Mo_takeBlock_43 : decode c_Mo_takeBlock 43 = .ok (.iload 6, 2) := by decide +kernel
theorem d_Mo_takeBlock_45 : decode c_Mo_takeBlock 45 = .ok (.iconst 4, 1) := by decide +kernel
theorem d_Mo_takeBlock_46 : decode c_Mo_takeBlock 46 = .ok (.irem, 1) := by decide +kernel
theorem d_Mo_takeBlock_47 : decode c_Mo_takeBlock 47 = .ok (.ifCond .ne 18, 3) := by decide +kernel
theorem d_Mo_takeBlock_50 : decode c_Mo_takeBlock 50 = .ok (.aload_n 0, 1) := by decide +kernel
theorem d_Mo_takeBlock_51 : decode c_Mo_takeBlock 51 = .ok (.iload 5, 2) := by decide +kernel
theorem d_Mo_takeBlock_53 : decode c_Mo_takeBlock 53 = .ok (.iload_n 2, 1) := by decide +kernel
theorem d_Mo_takeBlock_54 : decode c_Mo_takeBlock 54 = .ok (.iload 6, 2) := by decide +kernel
theorem d_Mo_takeBlock_56 : decode c_Mo_takeBlock 56 = .ok (.iconst 4, 1) := by decide +kernel
theorem d_Mo_takeBlock_57 : decode c_Mo_takeBlock 57 = .ok (.idiv, 1) := by decide +kernel
theorem d_Mo_takeBlock_58 : decode c_Mo_takeBlock 58 = .ok (.lload_n 3, 1) := by decide +kernel
theorem d_Mo_takeBlock_59 : decode c_Mo_takeBlock 59 = .ok (.invokevirtual 138, 3) := by decide +kernel
theorem d_Mo_takeBlock_62 : decode c_Mo_takeBlock 62 = .ok (.goto 19, 3) := by decide +kernel
theorem d_Mo_takeBlock_65 : decode c_Mo_takeBlock 65 = .ok (.aload_n 0, 1) := by decide +kernel
theorem d_Mo_takeBlock_66 : decode c_Mo_takeBlock 66 = .ok (.iload 5, 2) := by decide +kernel
theorem d_Mo_takeBlock_68 : decode c_Mo_takeBlock 68 = .ok (.iload_n 2, 1) := by decide +kernel
theorem d_Mo_takeBlock_69 : decode c_Mo_takeBlock 69 = .ok (.iload 6, 2) := by decide +kernel
theorem d_Mo_takeBlock_71 : decode c_Mo_takeBlock 71 = .ok (.iconst 4, 1) := by decide +kernel
theorem d_Mo_takeBlock_72 : decode c_Mo_takeBlock 72 = .ok (.irem, 1) := by decide +kernel
theorem d_Mo_takeBlock_73 : decode c_Mo_takeBlock 73 = .ok (.iload 6, 2) := by decide +kernel
theorem d_Mo_takeBlock_75 : decode c_Mo_takeBlock 75 = .ok (.iconst 4, 1) := by decide +kernel
theorem d_Mo_takeBlock_76 : decode c_Mo_takeBlock 76 = .ok (.idiv, 1) := by decide +kernel
theorem d_Mo_takeBlock_77 : decode c_Mo_takeBlock 77 = .ok (.lload_n 3, 1) := by decide +kernel
theorem d_Mo_takeBlock_78 : decode c_Mo_takeBlock 78 = .ok (.invokevirtual 142, 3) := by decide +kernel
theorem d_Mo_takeBlock_81 : decode c_Mo_takeBlock 81 = .ok (.goto (-70), 3) := by decide +kernel
theorem d_Mo_takeBlock_84 : decode c_Mo_takeBlock 84 = .ok (.aload_n 0, 1) := by decide +kernel
theorem d_Mo_takeBlock_85 : decode c_Mo_takeBlock 85 = .ok (.getfield 99, 3) := by decide +kernel
theorem d_Mo_takeBlock_88 : decode c_Mo_takeBlock 88 = .ok (.ifCond .ne 26, 3) := by decide +kernel
theorem d_Mo_takeBlock_91 : decode c_Mo_takeBlock 91 = .ok (.aload_n 0, 1) := by decide +kernel
theorem d_Mo_takeBlock_92 : decode c_Mo_takeBlock 92 = .ok (.getfield 35, 3) := by decide +kernel
theorem d_Mo_takeBlock_95 : decode c_Mo_takeBlock 95 = .ok (.iload_n 2, 1) := by decide +kernel
theorem d_Mo_takeBlock_96 : decode c_Mo_takeBlock 96 = .ok (.isub, 1) := by decide +kernel
theorem d_Mo_takeBlock_97 : decode c_Mo_takeBlock 97 = .ok (.i2l, 1) := by decide +kernel
theorem d_Mo_takeBlock_98 : decode c_Mo_takeBlock 98 = .ok (.lload_n 3, 1) := by decide +kernel
theorem d_Mo_takeBlock_99 : decode c_Mo_takeBlock 99 = .ok (.lcmp, 1) := by decide +kernel
theorem d_Mo_takeBlock_100 : decode c_Mo_takeBlock 100 = .ok (.ifCond .ge 14, 3) := by decide +kernel
theorem d_Mo_takeBlock_103 : decode c_Mo_takeBlock 103 = .ok (.aload_n 0, 1) := by decide +kernel
theorem d_Mo_takeBlock_104 : decode c_Mo_takeBlock 104 = .ok (.bipush 6, 2) := by decide +kernel
theorem d_Mo_takeBlock_106 : decode c_Mo_takeBlock 106 = .ok (.aload_n 0, 1) := by decide +kernel
theorem d_Mo_takeBlock_107 : decode c_Mo_takeBlock 107 = .ok (.getfield 110, 3) := by decide +kernel
theorem d_Mo_takeBlock_110 : decode c_Mo_takeBlock 110 = .ok (.invokevirtual 113, 3) := by decide +kernel
theorem d_Mo_takeBlock_113 : decode c_Mo_takeBlock 113 = .ok (.pop, 1) := by decide +kernel
theorem d_Mo_takeBlock_114 : decode c_Mo_takeBlock 114 = .ok (.return_, 1) := by decide +kernel
