theorem d_Row_numberAt_0 : decode c_Row_numberAt 0 = .ok (.lconst 0, 1) := by decide +kernel
theorem d_Row_numberAt_1 : decode c_Row_numberAt 1 = .ok (.lstore_n 3, 1) := by decide +kernel
theorem d_Row_numberAt_2 : decode c_Row_numberAt 2 = .ok (.iconst 0, 1) := by decide +kernel
theorem d_Row_numberAt_3 : decode c_Row_numberAt 3 = .ok (.istore 5, 2) := by decide +kernel
theorem d_Row_numberAt_5 : decode c_Row_numberAt 5 = .ok (.iload 5, 2) := by decide +kernel
theorem d_Row_numberAt_7 : decode c_Row_numberAt 7 = .ok (.iload_n 2, 1) := by decide +kernel
theorem d_Row_numberAt_8 : decode c_Row_numberAt 8 = .ok (.if_icmp .ge 31, 3) := by decide +kernel
theorem d_Row_numberAt_11 : decode c_Row_numberAt 11 = .ok (.lload_n 3, 1) := by decide +kernel
theorem d_Row_numberAt_12 : decode c_Row_numberAt 12 = .ok (.aload_n 0, 1) := by decide +kernel
theorem d_Row_numberAt_13 : decode c_Row_numberAt 13 = .ok (.iload_n 1, 1) := by decide +kernel
theorem d_Row_numberAt_14 : decode c_Row_numberAt 14 = .ok (.iload 5, 2) := by decide +kernel
theorem d_Row_numberAt_16 : decode c_Row_numberAt 16 = .ok (.iadd, 1) := by decide +kernel
theorem d_Row_numberAt_17 : decode c_Row_numberAt 17 = .ok (.invokevirtual 27, 3) := by decide +kernel
theorem d_Row_numberAt_20 : decode c_Row_numberAt 20 = .ok (.sipush 255, 3) := by decide +kernel
theorem d_Row_numberAt_23 : decode c_Row_numberAt 23 = .ok (.iand, 1) := by decide +kernel
theorem d_Row_numberAt_24 : decode c_Row_numberAt 24 = .ok (.i2l, 1) := by decide +kernel
theorem d_Row_numberAt_25 : decode c_Row_numberAt 25 = .ok (.bipush 8, 2) := by decide +kernel
theorem d_Row_numberAt_27 : decode c_Row_numberAt 27 = .ok (.iload 5, 2) := by decide +kernel
theorem d_Row_numberAt_29 : decode c_Row_numberAt 29 = .ok (.imul, 1) := by decide +kernel
theorem d_Row_numberAt_30 : decode c_Row_numberAt 30 = .ok (.lshl, 1) := by decide +kernel
theorem d_Row_numberAt_31 : decode c_Row_numberAt 31 = .ok (.lor, 1) := by decide +kernel
theorem d_Row_numberAt_32 : decode c_Row_numberAt 32 = .ok (.lstore_n 3, 1) := by decide +kernel
theorem d_Row_numberAt_33 : decode c_Row_numberAt 33 = .ok (.iinc 5 1, 3) := by decide +kernel
theorem d_Row_numberAt_36 : decode c_Row_numberAt 36 = .ok (.goto (-31), 3) := by decide +kernel
theorem d_Row_numberAt_39 : decode c_Row_numberAt 39 = .ok (.lload_n 3, 1) := by decide +kernel
theorem d_Row_numberAt_40 : decode c_Row_numberAt 40 = .ok (.lreturn, 1) := by decide +kernel
theorem d_Row_putFrom_0 : decode c_Row_putFrom 0 = .ok (.iload_n 2, 1) := by decide +kernel
theorem d_Row_putFrom_1 : decode c_Row_putFrom 1 = .ok (.istore 4, 2) := by decide +kernel
theorem d_Row_putFrom_3 : decode c_Row_putFrom 3 = .ok (.iload 4, 2) := by decide +kernel
theorem d_Row_putFrom_5 : decode c_Row_putFrom 5 = .ok (.iload_n 3, 1) := by decide +kernel
theorem d_Row_putFrom_6 : decode c_Row_putFrom 6 = .ok (.if_icmp .ge 19, 3) := by decide +kernel
theorem d_Row_putFrom_9 : decode c_Row_putFrom 9 = .ok (.aload_n 0, 1) := by decide +kernel
theorem d_Row_putFrom_10 : decode c_Row_putFrom 10 = .ok (.aload_n 1, 1) := by decide +kernel
theorem d_Row_putFrom_11 : decode c_Row_putFrom 11 = .ok (.iload 4, 2) := by decide +kernel
theorem d_Row_putFrom_13 : decode c_Row_putFrom 13 = .ok (.invokevirtual 27, 3) := by decide +kernel
theorem d_Row_putFrom_16 : decode c_Row_putFrom 16 = .ok (.invokevirtual 19, 3) := by decide +kernel
theorem d_Row_putFrom_19 : decode c_Row_putFrom 19 = .ok (.iinc 4 1, 3) := by decide +kernel
theorem d_Row_putFrom_22 : decode c_Row_putFrom 22 = .ok (.goto (-19), 3) := by decide +kernel
theorem d_Row_putFrom_25 : decode c_Row_putFrom 25 = .ok (.return_, 1) := by decide +kernel
theorem d_Row_putBack_0 : decode c_Row_putBack 0 = .ok (.iconst 0, 1) := by decide +kernel
theorem d_Row_putBack_1 : decode c_Row_putBack 1 = .ok (.istore_n 3, 1) := by decide +kernel
theorem d_Row_putBack_2 : decode c_Row_putBack 2 = .ok (.iload_n 3, 1) := by decide +kernel
theorem d_Row_putBack_3 : decode c_Row_putBack 3 = .ok (.iload_n 2, 1) := by decide +kernel
theorem d_Row_putBack_4 : decode c_Row_putBack 4 = .ok (.if_icmp .ge 23, 3) := by decide +kernel
theorem d_Row_putBack_7 : decode c_Row_putBack 7 = .ok (.aload_n 0, 1) := by decide +kernel
theorem d_Row_putBack_8 : decode c_Row_putBack 8 = .ok (.aload_n 0, 1) := by decide +kernel
theorem d_Row_putBack_9 : decode c_Row_putBack 9 = .ok (.aload_n 0, 1) := by decide +kernel
theorem d_Row_putBack_10 : decode c_Row_putBack 10 = .ok (.getfield 15, 3) := by decide +kernel
theorem d_Row_putBack_13 : decode c_Row_putBack 13 = .ok (.iload_n 1, 1) := by decide +kernel
theorem d_Row_putBack_14 : decode c_Row_putBack 14 = .ok (.isub, 1) := by decide +kernel
theorem d_Row_putBack_15 : decode c_Row_putBack 15 = .ok (.invokevirtual 27, 3) := by decide +kernel
theorem d_Row_putBack_18 : decode c_Row_putBack 18 = .ok (.invokevirtual 19, 3) := by decide +kernel
theorem d_Row_putBack_21 : decode c_Row_putBack 21 = .ok (.iinc 3 1, 3) := by decide +kernel
theorem d_Row_putBack_24 : decode c_Row_putBack 24 = .ok (.goto (-22), 3) := by decide +kernel
theorem d_Row_putBack_27 : decode c_Row_putBack 27 = .ok (.return_, 1) := by decide +kernel
theorem d_Row_shorten_0 : decode c_Row_shorten 0 = .ok (.iload_n 1, 1) := by decide +kernel
theorem d_Row_shorten_1 : decode c_Row_shorten 1 = .ok (.ifCond .lt 16, 3) := by decide +kernel
theorem d_Row_shorten_4 : decode c_Row_shorten 4 = .ok (.iload_n 1, 1) := by decide +kernel
theorem d_Row_shorten_5 : decode c_Row_shorten 5 = .ok (.aload_n 0, 1) := by decide +kernel
theorem d_Row_shorten_6 : decode c_Row_shorten 6 = .ok (.getfield 15, 3) := by decide +kernel
theorem d_Row_shorten_9 : decode c_Row_shorten 9 = .ok (.if_icmp .gt 8, 3) := by decide +kernel
theorem d_Row_shorten_12 : decode c_Row_shorten 12 = .ok (.aload_n 0, 1) := by decide +kernel
theorem d_Row_shorten_13 : decode c_Row_shorten 13 = .ok (.iload_n 1, 1) := by decide +kernel
theorem d_Row_shorten_14 : decode c_Row_shorten 14 = .ok (.putfield 15, 3) := by decide +kernel
theorem d_Row_shorten_17 : decode c_Row_shorten 17 = .ok (.return_, 1) := by decide +kernel
theorem d_Row_become_0 : decode c_Row_become 0 = .ok (.aload_n 1, 1) := by decide +kernel
theorem d_Row_become_1 : decode c_Row_become 1 = .ok (.invokevirtual 31, 3) := by decide +kernel
theorem d_Row_become_4 : decode c_Row_become 4 = .ok (.ifCond .eq 28, 3) := by decide +kernel
theorem d_Row_become_7 : decode c_Row_become 7 = .ok (.aload_n 1, 1) := by decide +kernel
theorem d_Row_become_8 : decode c_Row_become 8 = .ok (.getfield 9, 3) := by decide +kernel
theorem d_Row_become_11 : decode c_Row_become 11 = .ok (.iconst 0, 1) := by decide +kernel
theorem d_Row_become_12 : decode c_Row_become 12 = .ok (.aload_n 0, 1) := by decide +kernel
theorem d_Row_become_13 : decode c_Row_become 13 = .ok (.getfield 9, 3) := by decide +kernel
theorem d_Row_become_16 : decode c_Row_become 16 = .ok (.iconst 0, 1) := by decide +kernel
theorem d_Row_become_17 : decode c_Row_become 17 = .ok (.aload_n 1, 1) := by decide +kernel
theorem d_Row_become_18 : decode c_Row_become 18 = .ok (.getfield 15, 3) := by decide +kernel
theorem d_Row_become_21 : decode c_Row_become 21 = .ok (.invokestatic 35, 3) := by decide +kernel
theorem d_Row_become_24 : decode c_Row_become 24 = .ok (.aload_n 0, 1) := by decide +kernel
theorem d_Row_become_25 : decode c_Row_become 25 = .ok (.aload_n 1, 1) := by decide +kernel
theorem d_Row_become_26 : decode c_Row_become 26 = .ok (.getfield 15, 3) := by decide +kernel
theorem d_Row_become_29 : decode c_Row_become 29 = .ok (.putfield 15, 3) := by decide +kernel
theorem d_Row_become_32 : decode c_Row_become 32 = .ok (.return_, 1) := by decide +kernel
theorem d_StreamReader_init_0 : decode c_StreamReader_init 0 = .ok (.aload_n 0, 1) := by decide +kernel
theorem d_StreamReader_init_1 : decode c_StreamReader_init 1 = .ok (.invokespecial 1, 3) := by decide +kernel
theorem d_StreamReader_init_4 : decode c_StreamReader_init 4 = .ok (.aload_n 0, 1) := by decide +kernel
theorem d_StreamReader_init_5 : decode c_StreamReader_init 5 = .ok (.iconst 0, 1) := by decide +kernel
theorem d_StreamReader_init_6 : decode c_StreamReader_init 6 = .ok (.putfield 7, 3) := by decide +kernel
theorem d_StreamReader_init_9 : decode c_StreamReader_init 9 = .ok (.aload_n 0, 1) := by decide +kernel
theorem d_StreamReader_init_10 : decode c_StreamReader_init 10 = .ok (.iconst 0, 1) := by decide +kernel
theorem d_StreamReader_init_11 : decode c_StreamReader_init 11 = .ok (.putfield 13, 3) := by decide +kernel
theorem d_StreamReader_init_14 : decode c_StreamReader_init 14 = .ok (.aload_n 0, 1) := by decide +kernel
theorem d_StreamReader_init_15 : decode c_StreamReader_init 15 = .ok (.iconst 0, 1) := by decide +kernel
theorem d_StreamReader_init_16 : decode c_StreamReader_init 16 = .ok (.putfield 16, 3) := by decide +kernel
theorem d_StreamReader_init_19 : decode c_StreamReader_init 19 = .ok (.aload_n 0, 1) := by decide +kernel
theorem d_StreamReader_init_20 : decode c_StreamReader_init 20 = .ok (.iconst 0, 1) := by decide +kernel
theorem d_StreamReader_init_21 : decode c_StreamReader_init 21 = .ok (.putfield 19, 3) := by decide +kernel
theorem d_StreamReader_init_24 : decode c_StreamReader_init 24 = .ok (.aload_n 0, 1) := by decide +kernel
theorem d_StreamReader_init_25 : decode c_StreamReader_init 25 = .ok (.aload_n 1, 1) := by decide +kernel
theorem d_StreamReader_init_26 : decode c_StreamReader_init 26 = .ok (.putfield 22, 3) := by decide +kernel
theorem d_StreamReader_init_29 : decode c_StreamReader_init 29 = .ok (.aload_n 0, 1) := by decide +kernel
theorem d_StreamReader_init_30 : decode c_StreamReader_init 30 = .ok (.aload_n 2, 1) := by decide +kernel
theorem d_StreamReader_init_31 : decode c_StreamReader_init 31 = .ok (.putfield 26, 3) := by decide +kernel
theorem d_StreamReader_init_34 : decode c_StreamReader_init 34 = .ok (.aload_n 0, 1) := by decide +kernel
theorem d_StreamReader_init_35 : decode c_StreamReader_init 35 = .ok (.aload_n 3, 1) := by decide +kernel
theorem d_StreamReader_init_36 : decode c_StreamReader_init 36 = .ok (.putfield 29, 3) := by decide +kernel
theorem d_StreamReader_init_39 : decode c_StreamReader_init 39 = .ok (.return_, 1) := by decide +kernel
theorem d_StreamReader_begin_0 : decode c_StreamReader_begin 0 = .ok (.aload_n 0, 1) := by decide +kernel
theorem d_StreamReader_begin_1 : decode c_StreamReader_begin 1 = .ok (.iconst 0, 1) := by decide +kernel
theorem d_StreamReader_begin_2 : decode c_StreamReader_begin 2 = .ok (.putfield 7, 3) := by decide +kernel
theorem d_StreamReader_begin_5 : decode c_StreamReader_begin 5 = .ok (.aload_n 0, 1) := by decide +kernel
theorem d_StreamReader_begin_6 : decode c_StreamReader_begin 6 = .ok (.iload_n 1, 1) := by decide +kernel
theorem d_StreamReader_begin_7 : decode c_StreamReader_begin 7 = .ok (.putfield 13, 3) := by decide +kernel
theorem d_StreamReader_begin_10 : decode c_StreamReader_begin 10 = .ok (.aload_n 0, 1) := by decide +kernel
theorem d_StreamReader_begin_11 : decode c_StreamReader_begin 11 = .ok (.iconst 0, 1) := by decide +kernel
theorem d_StreamReader_begin_12 : decode c_StreamReader_begin 12 = .ok (.putfield 16, 3) := by decide +kernel
theorem d_StreamReader_begin_15 : decode c_StreamReader_begin 15 = .ok (.return_, 1) := by decide +kernel
theorem d_StreamReader_hasMore_0 : decode c_StreamReader_hasMore 0 = .ok (.aload_n 0, 1) := by decide +kernel
theorem d_StreamReader_hasMore_1 : decode c_StreamReader_hasMore 1 = .ok (.getfield 16, 3) := by decide +kernel
theorem d_StreamReader_hasMore_4 : decode c_StreamReader_hasMore 4 = .ok (.ifCond .ne 21, 3) := by decide +kernel
theorem d_StreamReader_hasMore_7 : decode c_StreamReader_hasMore 7 = .ok (.aload_n 0, 1) := by decide +kernel
theorem d_StreamReader_hasMore_8 : decode c_StreamReader_hasMore 8 = .ok (.getfield 7, 3) := by decide +kernel
theorem d_StreamReader_hasMore_11 : decode c_StreamReader_hasMore 11 = .ok (.aload_n 0, 1) := by decide +kernel
theorem d_StreamReader_hasMore_12 : decode c_StreamReader_hasMore 12 = .ok (.getfield 22, 3) := by decide +kernel
theorem d_StreamReader_hasMore_15 : decode c_StreamReader_hasMore 15 = .ok (.getfield 33, 3) := by decide +kernel
theorem d_StreamReader_hasMore_18 : decode c_StreamReader_hasMore 18 = .ok (.if_icmp .ge 7, 3) := by decide +kernel
theorem d_StreamReader_hasMore_21 : decode c_StreamReader_hasMore 21 = .ok (.iconst 1, 1) := by decide +kernel
theorem d_StreamReader_hasMore_22 : decode c_StreamReader_hasMore 22 = .ok (.goto 4, 3) := by decide +kernel
theorem d_StreamReader_hasMore_25 : decode c_StreamReader_hasMore 25 = .ok (.iconst 0, 1) := by decide +kernel
theorem d_StreamReader_hasMore_26 : decode c_StreamReader_hasMore 26 = .ok (.ireturn, 1) := by decide +kernel
theorem d_StreamReader_readChunk_0 : decode c_StreamReader_readChunk 0 = .ok (.aload_n 0, 1) := by decide +kernel
theorem d_StreamReader_readChunk_1 : decode c_StreamReader_readChunk 1 = .ok (.getfield 22, 3) := by decide +kernel
theorem d_StreamReader_readChunk_4 : decode c_StreamReader_readChunk 4 = .ok (.aload_n 0, 1) := by decide +kernel
theorem d_StreamReader_readChunk_5 : decode c_StreamReader_readChunk 5 = .ok (.getfield 7, 3) := by decide +kernel
theorem d_StreamReader_readChunk_8 : decode c_StreamReader_readChunk 8 = .ok (.invokevirtual 38, 3) := by decide +kernel
theorem d_StreamReader_readChunk_11 : decode c_StreamReader_readChunk 11 = .ok (.istore_n 1, 1) := by decide +kernel
theorem d_StreamReader_readChunk_12 : decode c_StreamReader_readChunk 12 = .ok (.aload_n 0, 1) := by decide +kernel
theorem d_StreamReader_readChunk_13 : decode c_StreamReader_readChunk 13 = .ok (.getfield 22, 3) := by decide +kernel
theorem d_StreamReader_readChunk_16 : decode c_StreamReader_readChunk 16 = .ok (.aload_n 0, 1) := by decide +kernel
theorem d_StreamReader_readChunk_17 : decode c_StreamReader_readChunk 17 = .ok (.getfield 7, 3) := by decide +kernel
theorem d_StreamReader_readChunk_20 : decode c_StreamReader_readChunk 20 = .ok (.iconst 1, 1) := by decide +kernel
theorem d_StreamReader_readChunk_21 : decode c_StreamReader_readChunk 21 = .ok (.iadd, 1) := by decide +kernel
theorem d_StreamReader_readChunk_22 : decode c_StreamReader_readChunk 22 = .ok (.iconst 3, 1) := by decide +kernel
theorem d_StreamReader_readChunk_23 : decode c_StreamReader_readChunk 23 = .ok (.invokevirtual 41, 3) := by decide +kernel
theorem d_StreamReader_readChunk_26 : decode c_StreamReader_readChunk 26 = .ok (.l2i, 1) := by decide +kernel
theorem d_StreamReader_readChunk_27 : decode c_StreamReader_readChunk 27 = .ok (.istore_n 2, 1) := by decide +kernel
theorem d_StreamReader_readChunk_28 : decode c_StreamReader_readChunk 28 = .ok (.aload_n 0, 1) := by decide +kernel
theorem d_StreamReader_readChunk_29 : decode c_StreamReader_readChunk 29 = .ok (.iload_n 1, 1) := by decide +kernel
theorem d_StreamReader_readChunk_30 : decode c_StreamReader_readChunk 30 = .ok (.iload_n 2, 1) := by decide +kernel
theorem d_StreamReader_readChunk_31 : decode c_StreamReader_readChunk 31 = .ok (.invokevirtual 45, 3) := by decide +kernel
theorem d_StreamReader_readChunk_34 : decode c_StreamReader_readChunk 34 = .ok (.aload_n 0, 1) := by decide +kernel
theorem d_StreamReader_readChunk_35 : decode c_StreamReader_readChunk 35 = .ok (.getfield 16, 3) := by decide +kernel
theorem d_StreamReader_readChunk_38 : decode c_StreamReader_readChunk 38 = .ok (.ifCond .eq 4, 3) := by decide +kernel
theorem d_StreamReader_readChunk_41 : decode c_StreamReader_readChunk 41 = .ok (.return_, 1) := by decide +kernel
theorem d_StreamReader_readChunk_42 : decode c_StreamReader_readChunk 42 = .ok (.aload_n 0, 1) := by decide +kernel
theorem d_StreamReader_readChunk_43 : decode c_StreamReader_readChunk 43 = .ok (.getfield 7, 3) := by decide +kernel
theorem d_StreamReader_readChunk_46 : decode c_StreamReader_readChunk 46 = .ok (.iconst 4, 1) := by decide +kernel
theorem d_StreamReader_readChunk_47 : decode c_StreamReader_readChunk 47 = .ok (.iadd, 1) := by decide +kernel
theorem d_StreamReader_readChunk_48 : decode c_StreamReader_readChunk 48 = .ok (.istore_n 3, 1) := by decide +kernel
theorem d_StreamReader_readChunk_49 : decode c_StreamReader_readChunk 49 = .ok (.iload_n 3, 1) := by decide +kernel
theorem d_StreamReader_readChunk_50 : decode c_StreamReader_readChunk 50 = .ok (.iload_n 2, 1) := by decide +kernel
theorem d_StreamReader_readChunk_51 : decode c_StreamReader_readChunk 51 = .ok (.iadd, 1) := by decide +kernel
theorem d_StreamReader_readChunk_52 : decode c_StreamReader_readChunk 52 = .ok (.istore 4, 2) := by decide +kernel
theorem d_StreamReader_readChunk_54 : decode c_StreamReader_readChunk 54 = .ok (.aload_n 0, 1) := by decide +kernel
theorem d_StreamReader_readChunk_55 : decode c_StreamReader_readChunk 55 = .ok (.getfield 26, 3) := by decide +kernel
theorem d_StreamReader_readChunk_58 : decode c_StreamReader_readChunk 58 = .ok (.getfield 33, 3) := by decide +kernel
theorem d_StreamReader_readChunk_61 : decode c_StreamReader_readChunk 61 = .ok (.istore 5, 2) := by decide +kernel
theorem d_StreamReader_readChunk_63 : decode c_StreamReader_readChunk 63 = .ok (.iload_n 1, 1) := by decide +kernel
theorem d_StreamReader_readChunk_64 : decode c_StreamReader_readChunk 64 = .ok (.sipush 255, 3) := by decide +kernel
theorem d_StreamReader_readChunk_67 : decode c_StreamReader_readChunk 67 = .ok (.if_icmp .ne 13, 3) := by decide +kernel
theorem d_StreamReader_readChunk_70 : decode c_StreamReader_readChunk 70 = .ok (.aload_n 0, 1) := by decide +kernel
theorem d_StreamReader_readChunk_71 : decode c_StreamReader_readChunk 71 = .ok (.iload_n 3, 1) := by decide +kernel
theorem d_StreamReader_readChunk_72 : decode c_StreamReader_readChunk 72 = .ok (.iload 4, 2) := by decide +kernel
theorem d_StreamReader_readChunk_74 : decode c_StreamReader_readChunk 74 = .ok (.invokevirtual 51, 3) := by decide +kernel
theorem d_StreamReader_readChunk_77 : decode c_StreamReader_readChunk 77 = .ok (.goto 66, 3) := by decide +kernel
theorem d_StreamReader_readChunk_80 : decode c_StreamReader_readChunk 80 = .ok (.iload_n 1, 1) := by decide +kernel
theorem d_StreamReader_readChunk_81 : decode c_StreamReader_readChunk 81 = .ok (.ifCond .ne 41, 3) := by decide +kernel
theorem d_StreamReader_readChunk_84 : decode c_StreamReader_readChunk 84 = .ok (.aload_n 0, 1) := by decide +kernel
theorem d_StreamReader_readChunk_85 : decode c_StreamReader_readChunk 85 = .ok (.getfield 29, 3) := by decide +kernel
theorem d_StreamReader_readChunk_88 : decode c_StreamReader_readChunk 88 = .ok (.iload_n 3, 1) := by decide +kernel
theorem d_StreamReader_readChunk_89 : decode c_StreamReader_readChunk 89 = .ok (.iconst 4, 1) := by decide +kernel
theorem d_StreamReader_readChunk_90 : decode c_StreamReader_readChunk 90 = .ok (.iadd, 1) := by decide +kernel
theorem d_StreamReader_readChunk_91 : decode c_StreamReader_readChunk 91 = .ok (.iload 4, 2) := by decide +kernel
theorem d_StreamReader_readChunk_93 : decode c_StreamReader_readChunk 93 = .ok (.aload_n 0, 1) := by decide +kernel
theorem d_StreamReader_readChunk_94 : decode c_StreamReader_readChunk 94 = .ok (.getfield 13, 3) := by decide +kernel
theorem d_StreamReader_readChunk_97 : decode c_StreamReader_readChunk 97 = .ok (.iload 5, 2) := by decide +kernel
theorem d_StreamReader_readChunk_99 : decode c_StreamReader_readChunk 99 = .ok (.isub, 1) := by decide +kernel
theorem d_StreamReader_readChunk_100 : decode c_StreamReader_readChunk 100 = .ok (.ldc 54, 2) := by decide +kernel
theorem d_StreamReader_readChunk_102 : decode c_StreamReader_readChunk 102 = .ok (.invokestatic 55, 3) := by decide +kernel
theorem d_StreamReader_readChunk_105 : decode c_StreamReader_readChunk 105 = .ok (.invokevirtual 61, 3) := by decide +kernel
theorem d_StreamReader_readChunk_108 : decode c_StreamReader_readChunk 108 = .ok (.aload_n 0, 1) := by decide +kernel
theorem d_StreamReader_readChunk_109 : decode c_StreamReader_readChunk 109 = .ok (.invokevirtual 67, 3) := by decide +kernel
theorem d_StreamReader_readChunk_112 : decode c_StreamReader_readChunk 112 = .ok (.aload_n 0, 1) := by decide +kernel
theorem d_StreamReader_readChunk_113 : decode c_StreamReader_readChunk 113 = .ok (.iload_n 3, 1) := by decide +kernel
theorem d_StreamReader_readChunk_114 : decode c_StreamReader_readChunk 114 = .ok (.iload 5, 2) := by decide +kernel
theorem d_StreamReader_readChunk_116 : decode c_StreamReader_readChunk 116 = .ok (.invokevirtual 70, 3) := by decide +kernel
theorem d_StreamReader_readChunk_119 : decode c_StreamReader_readChunk 119 = .ok (.goto 24, 3) := by decide +kernel
theorem d_StreamReader_readChunk_122 : decode c_StreamReader_readChunk 122 = .ok (.iload_n 1, 1) := by decide +kernel
theorem d_StreamReader_readChunk_123 : decode c_StreamReader_readChunk 123 = .ok (.iconst 1, 1) := by decide +kernel
theorem d_StreamReader_readChunk_124 : decode c_StreamReader_readChunk 124 = .ok (.if_icmp .ne 19, 3) := by decide +kernel
theorem d_StreamReader_readChunk_127 : decode c_StreamReader_readChunk 127 = .ok (.aload_n 0, 1) := by decide +kernel
theorem d_StreamReader_readChunk_128 : decode c_StreamReader_readChunk 128 = .ok (.iload_n 3, 1) := by decide +kernel
theorem d_StreamReader_readChunk_129 : decode c_StreamReader_readChunk 129 = .ok (.iconst 4, 1) := by decide +kernel
theorem d_StreamReader_readChunk_130 : decode c_StreamReader_readChunk 130 = .ok (.iadd, 1) := by decide +kernel
theorem d_StreamReader_readChunk_131 : decode c_StreamReader_readChunk 131 = .ok (.iload 4, 2) := by decide +kernel
theorem d_StreamReader_readChunk_133 : decode c_StreamReader_readChunk 133 = .ok (.invokevirtual 73, 3) := by decide +kernel
theorem d_StreamReader_readChunk_136 : decode c_StreamReader_readChunk 136 = .ok (.aload_n 0, 1) := by decide +kernel
theorem d_StreamReader_readChunk_137 : decode c_StreamReader_readChunk 137 = .ok (.iload_n 3, 1) := by decide +kernel
theorem d_StreamReader_readChunk_138 : decode c_StreamReader_readChunk 138 = .ok (.iload 5, 2) := by decide +kernel
theorem d_StreamReader_readChunk_140 : decode c_StreamReader_readChunk 140 = .ok (.invokevirtual 70, 3) := by decide +kernel
theorem d_StreamReader_readChunk_143 : decode c_StreamReader_readChunk 143 = .ok (.aload_n 0, 1) := by decide +kernel
theorem d_StreamReader_readChunk_144 : decode c_StreamReader_readChunk 144 = .ok (.iload 4, 2) := by decide +kernel
theorem d_StreamReader_readChunk_146 : decode c_StreamReader_readChunk 146 = .ok (.putfield 7, 3) := by decide +kernel
theorem d_StreamReader_readChunk_149 : decode c_StreamReader_readChunk 149 = .ok (.return_, 1) := by decide +kernel
theorem d_StreamReader_checkHead_0 : decode c_StreamReader_checkHead 0 = .ok (.aload_n 0, 1) := by decide +kernel
theorem d_StreamReader_checkHead_1 : decode c_StreamReader_checkHead 1 = .ok (.getfield 22, 3) := by decide +kernel
theorem d_StreamReader_checkHead_4 : decode c_StreamReader_checkHead 4 = .ok (.getfield 33, 3) := by decide +kernel
theorem d_StreamReader_checkHead_7 : decode c_StreamReader_checkHead 7 = .ok (.aload_n 0, 1) := by decide +kernel
theorem d_StreamReader_checkHead_8 : decode c_StreamReader_checkHead 8 = .ok (.getfield 7, 3) := by decide +kernel
theorem d_StreamReader_checkHead_11 : decode c_StreamReader_checkHead 11 = .ok (.isub, 1) := by decide +kernel
theorem d_StreamReader_checkHead_12 : decode c_StreamReader_checkHead 12 = .ok (.iconst 4, 1) := by decide +kernel
theorem d_StreamReader_checkHead_13 : decode c_StreamReader_checkHead 13 = .ok (.isub, 1) := by decide +kernel
theorem d_StreamReader_checkHead_14 : decode c_StreamReader_checkHead 14 = .ok (.istore_n 3, 1) := by decide +kernel
theorem d_StreamReader_checkHead_15 : decode c_StreamReader_checkHead 15 = .ok (.iload_n 1, 1) := by decide +kernel
theorem d_StreamReader_checkHead_16 : decode c_StreamReader_checkHead 16 = .ok (.ifCond .eq 8, 3) := by decide +kernel
theorem d_StreamReader_checkHead_19 : decode c_StreamReader_checkHead 19 = .ok (.iload_n 1, 1) := by decide +kernel
theorem d_StreamReader_checkHead_20 : decode c_StreamReader_checkHead 20 = .ok (.iconst 1, 1) := by decide +kernel
theorem d_StreamReader_checkHead_21 : decode c_StreamReader_checkHead 21 = .ok (.if_icmp .ne 7, 3) := by decide +kernel
theorem d_StreamReader_checkHead_24 : decode c_StreamReader_checkHead 24 = .ok (.iconst 1, 1) := by decide +kernel
theorem d_StreamReader_checkHead_25 : decode c_StreamReader_checkHead 25 = .ok (.goto 4, 3) := by decide +kernel
theorem d_StreamReader_checkHead_28 : decode c_StreamReader_checkHead 28 = .ok (.iconst 0, 1) := by decide +kernel
theorem d_StreamReader_checkHead_29 : decode c_StreamReader_checkHead 29 = .ok (.istore 4, 2) := by decide +kernel
theorem d_StreamReader_checkHead_31 : decode c_StreamReader_checkHead 31 = .ok (.aload_n 0, 1) := by decide +kernel
theorem d_StreamReader_checkHead_32 : decode c_StreamReader_checkHead 32 = .ok (.getfield 7, 3) := by decide +kernel
theorem d_StreamReader_checkHead_35 : decode c_StreamReader_checkHead 35 = .ok (.ifCond .ne 23, 3) := by decide +kernel
theorem d_StreamReader_checkHead_38 : decode c_StreamReader_checkHead 38 = .ok (.iload_n 1, 1) := by decide +kernel
theorem d_StreamReader_checkHead_39 : decode c_StreamReader_checkHead 39 = .ok (.sipush 255, 3) := by decide +kernel
theorem d_StreamReader_checkHead_42 : decode c_StreamReader_checkHead 42 = .ok (.if_icmp .eq 16, 3) := by decide +kernel
theorem d_StreamReader_checkHead_45 : decode c_StreamReader_checkHead 45 = .ok (.aload_n 0, 1) := by decide +kernel
theorem d_StreamReader_checkHead_46 : decode c_StreamReader_checkHead 46 = .ok (.bipush 8, 2) := by decide +kernel
theorem d_StreamReader_checkHead_48 : decode c_StreamReader_checkHead 48 = .ok (.aload_n 0, 1) := by decide +kernel
theorem d_StreamReader_checkHead_49 : decode c_StreamReader_checkHead 49 = .ok (.getfield 7, 3) := by decide +kernel
theorem d_StreamReader_checkHead_52 : decode c_StreamReader_checkHead 52 = .ok (.invokevirtual 76, 3) := by decide +kernel
theorem d_StreamReader_checkHead_55 : decode c_StreamReader_checkHead 55 = .ok (.goto 93, 3) := by decide +kernel
theorem d_StreamReader_checkHead_58 : decode c_StreamReader_checkHead 58 = .ok (.iload 4, 2) := by decide +kernel
theorem d_StreamReader_checkHead_60 : decode c_StreamReader_checkHead 60 = .ok (.ifCond .ne 23, 3) := by decide +kernel
theorem d_StreamReader_checkHead_63 : decode c_StreamReader_checkHead 63 = .ok (.iload_n 1, 1) := by decide +kernel
theorem d_StreamReader_checkHead_64 : decode c_StreamReader_checkHead 64 = .ok (.sipush 128, 3) := by decide +kernel
theorem d_StreamReader_checkHead_67 : decode c_StreamReader_checkHead 67 = .ok (.if_icmp .ge 16, 3) := by decide +kernel
theorem d_StreamReader_checkHead_70 : decode c_StreamReader_checkHead 70 = .ok (.aload_n 0, 1) := by decide +kernel
theorem d_StreamReader_checkHead_71 : decode c_StreamReader_checkHead 71 = .ok (.bipush 9, 2) := by decide +kernel
theorem d_StreamReader_checkHead_73 : decode c_StreamReader_checkHead 73 = .ok (.aload_n 0, 1) := by decide +kernel
theorem d_StreamReader_checkHead_74 : decode c_StreamReader_checkHead 74 = .ok (.getfield 7, 3) := by decide +kernel
theorem d_StreamReader_checkHead_77 : decode c_StreamReader_checkHead 77 = .ok (.invokevirtual 76, 3) := by decide +kernel
theorem d_StreamReader_checkHead_80 : decode c_StreamReader_checkHead 80 = .ok (.goto 68, 3) := by decide +kernel
theorem d_StreamReader_checkHead_83 : decode c_StreamReader_checkHead 83 = .ok (.iload_n 2, 1) := by decide +kernel
theorem d_StreamReader_checkHead_84 : decode c_StreamReader_checkHead 84 = .ok (.iload_n 3, 1) := by decide +kernel
theorem d_StreamReader_checkHead_85 : decode c_StreamReader_checkHead 85 = .ok (.if_icmp .le 19, 3) := by decide +kernel
theorem d_StreamReader_checkHead_88 : decode c_StreamReader_checkHead 88 = .ok (.aload_n 0, 1) := by decide +kernel
theorem d_StreamReader_checkHead_89 : decode c_StreamReader_checkHead 89 = .ok (.bipush 7, 2) := by decide +kernel
theorem d_StreamReader_checkHead_91 : decode c_StreamReader_checkHead 91 = .ok (.aload_n 0, 1) := by decide +kernel
theorem d_StreamReader_checkHead_92 : decode c_StreamReader_checkHead 92 = .ok (.getfield 22, 3) := by decide +kernel
theorem d_StreamReader_checkHead_95 : decode c_StreamReader_checkHead 95 = .ok (.getfield 33, 3) := by decide +kernel
theorem d_StreamReader_checkHead_98 : decode c_StreamReader_checkHead 98 = .ok (.invokevirtual 76, 3) := by decide +kernel
theorem d_StreamReader_checkHead_101 : decode c_StreamReader_checkHead 101 = .ok (.goto 47, 3) := by decide +kernel
theorem d_StreamReader_checkHead_104 : decode c_StreamReader_checkHead 104 = .ok (.iload 4, 2) := by decide +kernel
theorem d_StreamReader_checkHead_106 : decode c_StreamReader_checkHead 106 = .ok (.ifCond .eq 21, 3) := by decide +kernel
theorem d_StreamReader_checkHead_109 : decode c_StreamReader_checkHead 109 = .ok (.iload_n 2, 1) := by decide +kernel
theorem d_StreamReader_checkHead_110 : decode c_StreamReader_checkHead 110 = .ok (.iconst 4, 1) := by decide +kernel
theorem d_StreamReader_checkHead_111 : decode c_StreamReader_checkHead 111 = .ok (.if_icmp .ge 16, 3) := by decide +kernel
theorem d_StreamReader_checkHead_114 : decode c_StreamReader_checkHead 114 = .ok (.aload_n 0, 1) := by decide +kernel
theorem d_StreamReader_checkHead_115 : decode c_StreamReader_checkHead 115 = .ok (.bipush 10, 2) := by decide +kernel
theorem d_StreamReader_checkHead_117 : decode c_StreamReader_checkHead 117 = .ok (.aload_n 0, 1) := by decide +kernel
theorem d_StreamReader_checkHead_118 : decode c_StreamReader_checkHead 118 = .ok (.getfield 7, 3) := by decide +kernel
theorem d_StreamReader_checkHead_121 : decode c_StreamReader_checkHead 121 = .ok (.invokevirtual 76, 3) := by decide +kernel
theorem d_StreamReader_checkHead_124 : decode c_StreamReader_checkHead 124 = .ok (.goto 24, 3) := by decide +kernel
theorem d_StreamReader_checkHead_127 : decode c_StreamReader_checkHead 127 = .ok (.iload_n 1, 1) := by decide +kernel
theorem d_StreamReader_checkHead_128 : decode c_StreamReader_checkHead 128 = .ok (.iconst 1, 1) := by decide +kernel
theorem d_StreamReader_checkHead_129 : decode c_StreamReader_checkHead 129 = .ok (.if_icmp .ne 19, 3) := by decide +kernel
theorem d_StreamReader_checkHead_132 : decode c_StreamReader_checkHead 132 = .ok (.iload_n 2, 1) := by decide +kernel
theorem d_StreamReader_checkHead_133 : decode c_StreamReader_checkHead 133 = .ok (.ldc 79, 2) := by decide +kernel
theorem d_StreamReader_checkHead_135 : decode c_StreamReader_checkHead 135 = .ok (.if_icmp .le 13, 3) := by decide +kernel
theorem d_StreamReader_checkHead_138 : decode c_StreamReader_checkHead 138 = .ok (.aload_n 0, 1) := by decide +kernel
theorem d_StreamReader_checkHead_139 : decode c_StreamReader_checkHead 139 = .ok (.bipush 10, 2) := by decide +kernel
theorem d_StreamReader_checkHead_141 : decode c_StreamReader_checkHead 141 = .ok (.aload_n 0, 1) := by decide +kernel
theorem d_StreamReader_checkHead_142 : decode c_StreamReader_checkHead 142 = .ok (.getfield 7, 3) := by decide +kernel
theorem d_StreamReader_checkHead_145 : decode c_StreamReader_checkHead 145 = .ok (.invokevirtual 76, 3) := by decide +kernel
theorem d_StreamReader_checkHead_148 : decode c_StreamReader_checkHead 148 = .ok (.return_, 1) := by decide +kernel
theorem d_StreamReader_checkMark_0 : decode c_StreamReader_checkMark 0 = .ok (.iload_n 2, 1) := by decide +kernel
theorem d_StreamReader_checkMark_1 : decode c_StreamReader_checkMark 1 = .ok (.iload_n 1, 1) := by decide +kernel
theorem d_StreamReader_checkMark_2 : decode c_StreamReader_checkMark 2 = .ok (.isub, 1) := by decide +kernel
theorem d_StreamReader_checkMark_3 : decode c_StreamReader_checkMark 3 = .ok (.getstatic 80, 3) := by decide +kernel
theorem d_StreamReader_checkMark_6 : decode c_StreamReader_checkMark 6 = .ok (.arraylength, 1) := by decide +kernel
theorem d_StreamReader_checkMark_7 : decode c_StreamReader_checkMark 7 = .ok (.if_icmp .ne 7, 3) := by decide +kernel
theorem d_StreamReader_checkMark_10 : decode c_StreamReader_checkMark 10 = .ok (.iconst 1, 1) := by decide +kernel
theorem d_StreamReader_checkMark_11 : decode c_StreamReader_checkMark 11 = .ok (.goto 4, 3) := by decide +kernel
theorem d_StreamReader_checkMark_14 : decode c_StreamReader_checkMark 14 = .ok (.iconst 0, 1) := by decide +kernel
theorem d_StreamReader_checkMark_15 : decode c_StreamReader_checkMark 15 = .ok (.istore_n 3, 1) := by decide +kernel
theorem d_StreamReader_checkMark_16 : decode c_StreamReader_checkMark 16 = .ok (.iconst 0, 1) := by decide +kernel
theorem d_StreamReader_checkMark_17 : decode c_StreamReader_checkMark 17 = .ok (.istore 4, 2) := by decide +kernel
theorem d_StreamReader_checkMark_19 : decode c_StreamReader_checkMark 19 = .ok (.iload_n 3, 1) := by decide +kernel
theorem d_StreamReader_checkMark_20 : decode c_StreamReader_checkMark 20 = .ok (.ifCond .eq 44, 3) := by decide +kernel
theorem d_StreamReader_checkMark_23 : decode c_StreamReader_checkMark 23 = .ok (.iload 4, 2) := by decide +kernel
theorem d_StreamReader_checkMark_25 : decode c_StreamReader_checkMark 25 = .ok (.getstatic 80, 3) := by decide +kernel
theorem d_StreamReader_checkMark_28 : decode c_StreamReader_checkMark 28 = .ok (.arraylength, 1) := by decide +kernel
theorem d_StreamReader_checkMark_29 : decode c_StreamReader_checkMark 29 = .ok (.if_icmp .ge 35, 3) := by decide +kernel
theorem d_StreamReader_checkMark_32 : decode c_StreamReader_checkMark 32 = .ok (.aload_n 0, 1) := by decide +kernel
theorem d_StreamReader_checkMark_33 : decode c_StreamReader_checkMark 33 = .ok (.getfield 22, 3) := by decide +kernel
theorem d_StreamReader_checkMark_36 : decode c_StreamReader_checkMark 36 = .ok (.iload_n 1, 1) := by decide +kernel
theorem d_StreamReader_checkMark_37 : decode c_StreamReader_checkMark 37 = .ok (.iload 4, 2) := by decide +kernel
theorem d_StreamReader_checkMark_39 : decode c_StreamReader_checkMark 39 = .ok (.iadd, 1) := by decide +kernel
theorem d_StreamReader_checkMark_40 : decode c_StreamReader_checkMark 40 = .ok (.invokevirtual 38, 3) := by decide +kernel
theorem d_StreamReader_checkMark_43 : decode c_StreamReader_checkMark 43 = .ok (.getstatic 80, 3) := by decide +kernel
theorem d_StreamReader_checkMark_46 : decode c_StreamReader_checkMark 46 = .ok (.iload 4, 2) := by decide +kernel
theorem d_StreamReader_checkMark_48 : decode c_StreamReader_checkMark 48 = .ok (.iaload, 1) := by decide +kernel
theorem d_StreamReader_checkMark_49 : decode c_StreamReader_checkMark 49 = .ok (.if_icmp .ne 7, 3) := by decide +kernel
theorem d_StreamReader_checkMark_52 : decode c_StreamReader_checkMark 52 = .ok (.iconst 1, 1) := by decide +kernel
theorem d_StreamReader_checkMark_53 : decode c_StreamReader_checkMark 53 = .ok (.goto 4, 3) := by decide +kernel
theorem d_StreamReader_checkMark_56 : decode c_StreamReader_checkMark 56 = .ok (.iconst 0, 1) := by decide +kernel
theorem d_StreamReader_checkMark_57 : decode c_StreamReader_checkMark 57 = .ok (.istore_n 3, 1) := by decide +kernel
theorem d_StreamReader_checkMark_58 : decode c_StreamReader_checkMark 58 = .ok (.iinc 4 1, 3) := by decide +kernel
theorem d_StreamReader_checkMark_61 : decode c_StreamReader_checkMark 61 = .ok (.goto (-42), 3) := by decide +kernel
theorem d_StreamReader_checkMark_64 : decode c_StreamReader_checkMark 64 = .ok (.iload_n 3, 1) := by decide +kernel
theorem d_StreamReader_checkMark_65 : decode c_StreamReader_checkMark 65 = .ok (.ifCond .ne 13, 3) := by decide +kernel
theorem d_StreamReader_checkMark_68 : decode c_StreamReader_checkMark 68 = .ok (.aload_n 0, 1) := by decide +kernel
theorem d_StreamReader_checkMark_69 : decode c_StreamReader_checkMark 69 = .ok (.bipush 8, 2) := by decide +kernel
theorem d_StreamReader_checkMark_71 : decode c_StreamReader_checkMark 71 = .ok (.aload_n 0, 1) := by decide +kernel
theorem d_StreamReader_checkMark_72 : decode c_StreamReader_checkMark 72 = .ok (.getfield 7, 3) := by decide +kernel
theorem d_StreamReader_checkMark_75 : decode c_StreamReader_checkMark 75 = .ok (.invokevirtual 76, 3) := by decide +kernel
theorem d_StreamReader_checkMark_78 : decode c_StreamReader_checkMark 78 = .ok (.return_, 1) := by decide +kernel
theorem d_StreamReader_takeFaultOfBlock_0 : decode c_StreamReader_takeFaultOfBlock 0 = .ok (.aload_n 0, 1) := by decide +kernel
theorem d_StreamReader_takeFaultOfBlock_1 : decode c_StreamReader_takeFaultOfBlock 1 = .ok (.getfield 29, 3) := by decide +kernel
theorem d_StreamReader_takeFaultOfBlock_4 : decode c_StreamReader_takeFaultOfBlock 4 = .ok (.getfield 84, 3) := by decide +kernel
theorem d_StreamReader_takeFaultOfBlock_7 : decode c_StreamReader_takeFaultOfBlock 7 = .ok (.ifCond .eq 37, 3) := by decide +kernel
theorem d_StreamReader_takeFaultOfBlock_10 : decode c_StreamReader_takeFaultOfBlock 10 = .ok (.aload_n 0, 1) := by decide +kernel
theorem d_StreamReader_takeFaultOfBlock_11 : decode c_StreamReader_takeFaultOfBlock 11 = .ok (.aload_n 0, 1) := by decide +kernel
theorem d_StreamReader_takeFaultOfBlock_12 : decode c_StreamReader_takeFaultOfBlock 12 = .ok (.getfield 29, 3) := by decide +kernel
theorem d_StreamReader_takeFaultOfBlock_15 : decode c_StreamReader_takeFaultOfBlock 15 = .ok (.getfield 84, 3) := by decide +kernel
theorem d_StreamReader_takeFaultOfBlock_18 : decode c_StreamReader_takeFaultOfBlock 18 = .ok (.iconst 1, 1) := by decide +kernel
theorem d_StreamReader_takeFaultOfBlock_19 : decode c_StreamReader_takeFaultOfBlock 19 = .ok (.if_icmp .ne 8, 3) := by decide +kernel
theorem d_StreamReader_takeFaultOfBlock_22 : decode c_StreamReader_takeFaultOfBlock 22 = .ok (.bipush 12, 2) := by decide +kernel
theorem d_StreamReader_takeFaultOfBlock_24 : decode c_StreamReader_takeFaultOfBlock 24 = .ok (.goto 10, 3) := by decide +kernel
theorem d_StreamReader_takeFaultOfBlock_27 : decode c_StreamReader_takeFaultOfBlock 27 = .ok (.aload_n 0, 1) := by decide +kernel
theorem d_StreamReader_takeFaultOfBlock_28 : decode c_StreamReader_takeFaultOfBlock 28 = .ok (.getfield 29, 3) := by decide +kernel
theorem d_StreamReader_takeFaultOfBlock_31 : decode c_StreamReader_takeFaultOfBlock 31 = .ok (.getfield 84, 3) := by decide +kernel
theorem d_StreamReader_takeFaultOfBlock_34 : decode c_StreamReader_takeFaultOfBlock 34 = .ok (.aload_n 0, 1) := by decide +kernel
theorem d_StreamReader_takeFaultOfBlock_35 : decode c_StreamReader_takeFaultOfBlock 35 = .ok (.getfield 29, 3) := by decide +kernel
theorem d_StreamReader_takeFaultOfBlock_38 : decode c_StreamReader_takeFaultOfBlock 38 = .ok (.getfield 85, 3) := by decide +kernel
theorem d_StreamReader_takeFaultOfBlock_41 : decode c_StreamReader_takeFaultOfBlock 41 = .ok (.invokevirtual 76, 3) := by decide +kernel
theorem d_StreamReader_takeFaultOfBlock_44 : decode c_StreamReader_takeFaultOfBlock 44 = .ok (.return_, 1) := by decide +kernel
theorem d_StreamReader_readPlain_0 : decode c_StreamReader_readPlain 0 = .ok (.aload_n 0, 1) := by decide +kernel
theorem d_StreamReader_readPlain_1 : decode c_StreamReader_readPlain 1 = .ok (.getfield 13, 3) := by decide +kernel
theorem d_StreamReader_readPlain_4 : decode c_StreamReader_readPlain 4 = .ok (.aload_n 0, 1) := by decide +kernel
theorem d_StreamReader_readPlain_5 : decode c_StreamReader_readPlain 5 = .ok (.getfield 26, 3) := by decide +kernel
theorem d_StreamReader_readPlain_8 : decode c_StreamReader_readPlain 8 = .ok (.getfield 33, 3) := by decide +kernel
theorem d_StreamReader_readPlain_11 : decode c_StreamReader_readPlain 11 = .ok (.isub, 1) := by decide +kernel
theorem d_StreamReader_readPlain_12 : decode c_StreamReader_readPlain 12 = .ok (.istore_n 3, 1) := by decide +kernel
theorem d_StreamReader_readPlain_13 : decode c_StreamReader_readPlain 13 = .ok (.iload_n 2, 1) := by decide +kernel
theorem d_StreamReader_readPlain_14 : decode c_StreamReader_readPlain 14 = .ok (.iload_n 1, 1) := by decide +kernel
theorem d_StreamReader_readPlain_15 : decode c_StreamReader_readPlain 15 = .ok (.isub, 1) := by decide +kernel
theorem d_StreamReader_readPlain_16 : decode c_StreamReader_readPlain 16 = .ok (.iload_n 3, 1) := by decide +kernel
theorem d_StreamReader_readPlain_17 : decode c_StreamReader_readPlain 17 = .ok (.if_icmp .le 14, 3) := by decide +kernel
theorem d_StreamReader_readPlain_20 : decode c_StreamReader_readPlain 20 = .ok (.aload_n 0, 1) := by decide +kernel
theorem d_StreamReader_readPlain_21 : decode c_StreamReader_readPlain 21 = .ok (.iconst 3, 1) := by decide +kernel
theorem d_StreamReader_readPlain_22 : decode c_StreamReader_readPlain 22 = .ok (.iload_n 1, 1) := by decide +kernel
theorem d_StreamReader_readPlain_23 : decode c_StreamReader_readPlain 23 = .ok (.iload_n 3, 1) := by decide +kernel
theorem d_StreamReader_readPlain_24 : decode c_StreamReader_readPlain 24 = .ok (.iadd, 1) := by decide +kernel
theorem d_StreamReader_readPlain_25 : decode c_StreamReader_readPlain 25 = .ok (.invokevirtual 76, 3) := by decide +kernel
theorem d_StreamReader_readPlain_28 : decode c_StreamReader_readPlain 28 = .ok (.goto 16, 3) := by decide +kernel
theorem d_StreamReader_readPlain_31 : decode c_StreamReader_readPlain 31 = .ok (.aload_n 0, 1) := by decide +kernel
theorem d_StreamReader_readPlain_32 : decode c_StreamReader_readPlain 32 = .ok (.getfield 26, 3) := by decide +kernel
theorem d_StreamReader_readPlain_35 : decode c_StreamReader_readPlain 35 = .ok (.aload_n 0, 1) := by decide +kernel
theorem d_StreamReader_readPlain_36 : decode c_StreamReader_readPlain 36 = .ok (.getfield 22, 3) := by decide +kernel
theorem d_StreamReader_readPlain_39 : decode c_StreamReader_readPlain 39 = .ok (.iload_n 1, 1) := by decide +kernel
theorem d_StreamReader_readPlain_40 : decode c_StreamReader_readPlain 40 = .ok (.iload_n 2, 1) := by decide +kernel
theorem d_StreamReader_readPlain_41 : decode c_StreamReader_readPlain 41 = .ok (.invokevirtual 86, 3) := by decide +kernel
theorem d_StreamReader_readPlain_44 : decode c_StreamReader_readPlain 44 = .ok (.return_, 1) := by decide +kernel
theorem d_StreamReader_checkSum_0 : decode c_StreamReader_checkSum 0 = .ok (.aload_n 0, 1) := by decide +kernel
theorem d_StreamReader_checkSum_1 : decode c_StreamReader_checkSum 1 = .ok (.getfield 22, 3) := by decide +kernel
theorem d_StreamReader_checkSum_4 : decode c_StreamReader_checkSum 4 = .ok (.iload_n 1, 1) := by decide +kernel
theorem d_StreamReader_checkSum_5 : decode c_StreamReader_checkSum 5 = .ok (.iconst 4, 1) := by decide +kernel
theorem d_StreamReader_checkSum_6 : decode c_StreamReader_checkSum 6 = .ok (.invokevirtual 41, 3) := by decide +kernel
theorem d_StreamReader_checkSum_9 : decode c_StreamReader_checkSum 9 = .ok (.l2i, 1) := by decide +kernel
theorem d_StreamReader_checkSum_10 : decode c_StreamReader_checkSum 10 = .ok (.istore_n 3, 1) := by decide +kernel
theorem d_StreamReader_checkSum_11 : decode c_StreamReader_checkSum 11 = .ok (.aload_n 0, 1) := by decide +kernel
theorem d_StreamReader_checkSum_12 : decode c_StreamReader_checkSum 12 = .ok (.getfield 16, 3) := by decide +kernel
theorem d_StreamReader_checkSum_15 : decode c_StreamReader_checkSum 15 = .ok (.ifCond .ne 29, 3) := by decide +kernel
theorem d_StreamReader_checkSum_18 : decode c_StreamReader_checkSum 18 = .ok (.iload_n 3, 1) := by decide +kernel
theorem d_StreamReader_checkSum_19 : decode c_StreamReader_checkSum 19 = .ok (.aload_n 0, 1) := by decide +kernel
theorem d_StreamReader_checkSum_20 : decode c_StreamReader_checkSum 20 = .ok (.getfield 26, 3) := by decide +kernel
theorem d_StreamReader_checkSum_23 : decode c_StreamReader_checkSum 23 = .ok (.iload_n 2, 1) := by decide +kernel
theorem d_StreamReader_checkSum_24 : decode c_StreamReader_checkSum 24 = .ok (.aload_n 0, 1) := by decide +kernel
theorem d_StreamReader_checkSum_25 : decode c_StreamReader_checkSum 25 = .ok (.getfield 26, 3) := by decide +kernel
theorem d_StreamReader_checkSum_28 : decode c_StreamReader_checkSum 28 = .ok (.getfield 33, 3) := by decide +kernel
theorem d_StreamReader_checkSum_31 : decode c_StreamReader_checkSum 31 = .ok (.invokestatic 90, 3) := by decide +kernel
theorem d_StreamReader_checkSum_34 : decode c_StreamReader_checkSum 34 = .ok (.if_icmp .eq 10, 3) := by decide +kernel
theorem d_StreamReader_checkSum_37 : decode c_StreamReader_checkSum 37 = .ok (.aload_n 0, 1) := by decide +kernel
theorem d_StreamReader_checkSum_38 : decode c_StreamReader_checkSum 38 = .ok (.bipush 11, 2) := by decide +kernel
theorem d_StreamReader_checkSum_40 : decode c_StreamReader_checkSum 40 = .ok (.iload_n 1, 1) := by decide +kernel
theorem d_StreamReader_checkSum_41 : decode c_StreamReader_checkSum 41 = .ok (.invokevirtual 76, 3) := by decide +kernel
theorem d_StreamReader_checkSum_44 : decode c_StreamReader_checkSum 44 = .ok (.return_, 1) := by decide +kernel
theorem d_StreamReader_fail_0 : decode c_StreamReader_fail 0 = .ok (.aload_n 0, 1) := by decide +kernel
theorem d_StreamReader_fail_1 : decode c_StreamReader_fail 1 = .ok (.getfield 16, 3) := by decide +kernel
theorem d_StreamReader_fail_4 : decode c_StreamReader_fail 4 = .ok (.ifCond .ne 13, 3) := by decide +kernel
theorem d_StreamReader_fail_7 : decode c_StreamReader_fail 7 = .ok (.aload_n 0, 1) := by decide +kernel
theorem d_StreamReader_fail_8 : decode c_StreamReader_fail 8 = .ok (.iload_n 1, 1) := by decide +kernel
theorem d_StreamReader_fail_9 : decode c_StreamReader_fail 9 = .ok (.putfield 16, 3) := by decide +kernel
theorem d_StreamReader_fail_12 : decode c_StreamReader_fail 12 = .ok (.aload_n 0, 1) := by decide +kernel
theorem d_StreamReader_fail_13 : decode c_StreamReader_fail 13 = .ok (.iload_n 2, 1) := by decide +kernel
theorem d_StreamReader_fail_14 : decode c_StreamReader_fail 14 = .ok (.putfield 19, 3) := by decide +kernel
theorem d_StreamReader_fail_17 : decode c_StreamReader_fail 17 = .ok (.return_, 1) := by decide +kernel
theorem d_StreamWriter_init_0 : decode c_StreamWriter_init 0 = .ok (.aload_n 0, 1) := by decide +kernel
theorem d_StreamWriter_init_1 : decode c_StreamWriter_init 1 = .ok (.invokespecial 1, 3) := by decide +kernel
theorem d_StreamWriter_init_4 : decode c_StreamWriter_init 4 = .ok (.aload_n 0, 1) := by decide +kernel
theorem d_StreamWriter_init_5 : decode c_StreamWriter_init 5 = .ok (.aload_n 1, 1) := by decide +kernel
theorem d_StreamWriter_init_6 : decode c_StreamWriter_init 6 = .ok (.putfield 7, 3) := by decide +kernel
theorem d_StreamWriter_init_9 : decode c_StreamWriter_init 9 = .ok (.aload_n 0, 1) := by decide +kernel
theorem d_StreamWriter_init_10 : decode c_StreamWriter_init 10 = .ok (.aload_n 2, 1) := by decide +kernel
theorem d_StreamWriter_init_11 : decode c_StreamWriter_init 11 = .ok (.putfield 13, 3) := by decide +kernel
theorem d_StreamWriter_init_14 : decode c_StreamWriter_init 14 = .ok (.aload_n 0, 1) := by decide +kernel
theorem d_StreamWriter_init_15 : decode c_StreamWriter_init 15 = .ok (.aload_n 3, 1) := by decide +kernel
theorem d_StreamWriter_init_16 : decode c_StreamWriter_init 16 = .ok (.putfield 16, 3) := by decide +kernel
theorem d_StreamWriter_init_19 : decode c_StreamWriter_init 19 = .ok (.return_, 1) := by decide +kernel
theorem d_StreamWriter_putMark_0 : decode c_StreamWriter_putMark 0 = .ok (.aload_n 0, 1) := by decide +kernel
theorem d_StreamWriter_putMark_1 : decode c_StreamWriter_putMark 1 = .ok (.getfield 13, 3) := by decide +kernel
theorem d_StreamWriter_putMark_4 : decode c_StreamWriter_putMark 4 = .ok (.sipush 255, 3) := by decide +kernel
theorem d_StreamWriter_putMark_7 : decode c_StreamWriter_putMark 7 = .ok (.invokevirtual 22, 3) := by decide +kernel
theorem d_StreamWriter_putMark_10 : decode c_StreamWriter_putMark 10 = .ok (.aload_n 0, 1) := by decide +kernel
theorem d_StreamWriter_putMark_11 : decode c_StreamWriter_putMark 11 = .ok (.getfield 13, 3) := by decide +kernel
theorem d_StreamWriter_putMark_14 : decode c_StreamWriter_putMark 14 = .ok (.getstatic 28, 3) := by decide +kernel
theorem d_StreamWriter_putMark_17 : decode c_StreamWriter_putMark 17 = .ok (.arraylength, 1) := by decide +kernel
theorem d_StreamWriter_putMark_18 : decode c_StreamWriter_putMark 18 = .ok (.iconst 3, 1) := by decide +kernel
theorem d_StreamWriter_putMark_19 : decode c_StreamWriter_putMark 19 = .ok (.invokevirtual 32, 3) := by decide +kernel
theorem d_StreamWriter_putMark_22 : decode c_StreamWriter_putMark 22 = .ok (.getstatic 28, 3) := by decide +kernel
theorem d_StreamWriter_putMark_25 : decode c_StreamWriter_putMark 25 = .ok (.astore_n 1, 1) := by decide +kernel
theorem d_StreamWriter_putMark_26 : decode c_StreamWriter_putMark 26 = .ok (.aload_n 1, 1) := by decide +kernel
theorem d_StreamWriter_putMark_27 : decode c_StreamWriter_putMark 27 = .ok (.arraylength, 1) := by decide +kernel
theorem d_StreamWriter_putMark_28 : decode c_StreamWriter_putMark 28 = .ok (.istore_n 2, 1) := by decide +kernel
theorem d_StreamWriter_putMark_29 : decode c_StreamWriter_putMark 29 = .ok (.iconst 0, 1) := by decide +kernel
theorem d_StreamWriter_putMark_30 : decode c_StreamWriter_putMark 30 = .ok (.istore_n 3, 1) := by decide +kernel
theorem d_StreamWriter_putMark_31 : decode c_StreamWriter_putMark 31 = .ok (.iload_n 3, 1) := by decide +kernel
theorem d_StreamWriter_putMark_32 : decode c_StreamWriter_putMark 32 = .ok (.iload_n 2, 1) := by decide +kernel
theorem d_StreamWriter_putMark_33 : decode c_StreamWriter_putMark 33 = .ok (.if_icmp .ge 23, 3) := by decide +kernel
theorem d_StreamWriter_putMark_36 : decode c_StreamWriter_putMark 36 = .ok (.aload_n 1, 1) := by decide +kernel
theorem d_StreamWriter_putMark_37 : decode c_StreamWriter_putMark 37 = .ok (.iload_n 3, 1) := by decide +kernel
theorem d_StreamWriter_putMark_38 : decode c_StreamWriter_putMark 38 = .ok (.iaload, 1) := by decide +kernel
theorem d_StreamWriter_putMark_39 : decode c_StreamWriter_putMark 39 = .ok (.istore 4, 2) := by decide +kernel
theorem d_StreamWriter_putMark_41 : decode c_StreamWriter_putMark 41 = .ok (.aload_n 0, 1) := by decide +kernel
theorem d_StreamWriter_putMark_42 : decode c_StreamWriter_putMark 42 = .ok (.getfield 13, 3) := by decide +kernel
theorem d_StreamWriter_putMark_45 : decode c_StreamWriter_putMark 45 = .ok (.iload 4, 2) := by decide +kernel
theorem d_StreamWriter_putMark_47 : decode c_StreamWriter_putMark 47 = .ok (.invokevirtual 22, 3) := by decide +kernel
theorem d_StreamWriter_putMark_50 : decode c_StreamWriter_putMark 50 = .ok (.iinc 3 1, 3) := by decide +kernel
theorem d_StreamWriter_putMark_53 : decode c_StreamWriter_putMark 53 = .ok (.goto (-22), 3) := by decide +kernel
theorem d_StreamWriter_putMark_56 : decode c_StreamWriter_putMark 56 = .ok (.return_, 1) := by decide +kernel
theorem d_StreamWriter_putData_0 : decode c_StreamWriter_putData 0 = .ok (.aload_n 0, 1) := by decide +kernel
theorem d_StreamWriter_putData_1 : decode c_StreamWriter_putData 1 = .ok (.getfield 13, 3) := by decide +kernel
theorem d_StreamWriter_putData_4 : decode c_StreamWriter_putData 4 = .ok (.getfield 36, 3) := by decide +kernel
theorem d_StreamWriter_putData_7 : decode c_StreamWriter_putData 7 = .ok (.istore 4, 2) := by decide +kernel
theorem d_StreamWriter_putData_9 : decode c_StreamWriter_putData 9 = .ok (.aload_n 0, 1) := by decide +kernel
theorem d_StreamWriter_putData_10 : decode c_StreamWriter_putData 10 = .ok (.getfield 13, 3) := by decide +kernel
theorem d_StreamWriter_putData_13 : decode c_StreamWriter_putData 13 = .ok (.iconst 0, 1) := by decide +kernel
theorem d_StreamWriter_putData_14 : decode c_StreamWriter_putData 14 = .ok (.invokevirtual 22, 3) := by decide +kernel
theorem d_StreamWriter_putData_17 : decode c_StreamWriter_putData 17 = .ok (.aload_n 0, 1) := by decide +kernel
theorem d_StreamWriter_putData_18 : decode c_StreamWriter_putData 18 = .ok (.getfield 13, 3) := by decide +kernel
theorem d_StreamWriter_putData_21 : decode c_StreamWriter_putData 21 = .ok (.iconst 0, 1) := by decide +kernel
theorem d_StreamWriter_putData_22 : decode c_StreamWriter_putData 22 = .ok (.iconst 3, 1) := by decide +kernel
theorem d_StreamWriter_putData_23 : decode c_StreamWriter_putData 23 = .ok (.invokevirtual 32, 3) := by decide +kernel
theorem d_StreamWriter_putData_26 : decode c_StreamWriter_putData 26 = .ok (.aload_n 0, 1) := by decide +kernel
theorem d_StreamWriter_putData_27 : decode c_StreamWriter_putData 27 = .ok (.getfield 13, 3) := by decide +kernel
theorem d_StreamWriter_putData_30 : decode c_StreamWriter_putData 30 = .ok (.aload_n 0, 1) := by decide +kernel
theorem d_StreamWriter_putData_31 : decode c_StreamWriter_putData 31 = .ok (.getfield 7, 3) := by decide +kernel
theorem d_StreamWriter_putData_34 : decode c_StreamWriter_putData 34 = .ok (.iload_n 1, 1) := by decide +kernel
theorem d_StreamWriter_putData_35 : decode c_StreamWriter_putData 35 = .ok (.iload_n 2, 1) := by decide +kernel
theorem d_StreamWriter_putData_36 : decode c_StreamWriter_putData 36 = .ok (.invokestatic 40, 3) := by decide +kernel
theorem d_StreamWriter_putData_39 : decode c_StreamWriter_putData 39 = .ok (.iconst 4, 1) := by decide +kernel
theorem d_StreamWriter_putData_40 : decode c_StreamWriter_putData 40 = .ok (.invokevirtual 32, 3) := by decide +kernel
theorem d_StreamWriter_putData_43 : decode c_StreamWriter_putData 43 = .ok (.aload_n 0, 1) := by decide +kernel
theorem d_StreamWriter_putData_44 : decode c_StreamWriter_putData 44 = .ok (.getfield 13, 3) := by decide +kernel
theorem d_StreamWriter_putData_47 : decode c_StreamWriter_putData 47 = .ok (.getfield 36, 3) := by decide +kernel
theorem d_StreamWriter_putData_50 : decode c_StreamWriter_putData 50 = .ok (.istore 5, 2) := by decide +kernel
theorem d_StreamWriter_putData_52 : decode c_StreamWriter_putData 52 = .ok (.aload_n 0, 1) := by decide +kernel
theorem d_StreamWriter_putData_53 : decode c_StreamWriter_putData 53 = .ok (.getfield 16, 3) := by decide +kernel
theorem d_StreamWriter_putData_56 : decode c_StreamWriter_putData 56 = .ok (.iload_n 1, 1) := by decide +kernel
theorem d_StreamWriter_putData_57 : decode c_StreamWriter_putData 57 = .ok (.iload_n 2, 1) := by decide +kernel
theorem d_StreamWriter_putData_58 : decode c_StreamWriter_putData 58 = .ok (.iload_n 3, 1) := by decide +kernel
theorem d_StreamWriter_putData_59 : decode c_StreamWriter_putData 59 = .ok (.invokevirtual 46, 3) := by decide +kernel
theorem d_StreamWriter_putData_62 : decode c_StreamWriter_putData 62 = .ok (.aload_n 0, 1) := by decide +kernel
theorem d_StreamWriter_putData_63 : decode c_StreamWriter_putData 63 = .ok (.getfield 13, 3) := by decide +kernel
theorem d_StreamWriter_putData_66 : decode c_StreamWriter_putData 66 = .ok (.getfield 36, 3) := by decide +kernel
theorem d_StreamWriter_putData_69 : decode c_StreamWriter_putData 69 = .ok (.iload 5, 2) := by decide +kernel
theorem d_StreamWriter_putData_71 : decode c_StreamWriter_putData 71 = .ok (.isub, 1) := by decide +kernel
theorem d_StreamWriter_putData_72 : decode c_StreamWriter_putData 72 = .ok (.iload_n 2, 1) := by decide +kernel
theorem d_StreamWriter_putData_73 : decode c_StreamWriter_putData 73 = .ok (.iload_n 1, 1) := by decide +kernel
theorem d_StreamWriter_putData_74 : decode c_StreamWriter_putData 74 = .ok (.isub, 1) := by decide +kernel
theorem d_StreamWriter_putData_75 : decode c_StreamWriter_putData 75 = .ok (.if_icmp .lt 35, 3) := by decide +kernel
theorem d_StreamWriter_putData_78 : decode c_StreamWriter_putData 78 = .ok (.aload_n 0, 1) := by decide +kernel
theorem d_StreamWriter_putData_79 : decode c_StreamWriter_putData 79 = .ok (.getfield 13, 3) := by decide +kernel
theorem d_StreamWriter_putData_82 : decode c_StreamWriter_putData 82 = .ok (.iload 5, 2) := by decide +kernel
theorem d_StreamWriter_putData_84 : decode c_StreamWriter_putData 84 = .ok (.invokevirtual 52, 3) := by decide +kernel
theorem d_StreamWriter_putData_87 : decode c_StreamWriter_putData 87 = .ok (.aload_n 0, 1) := by decide +kernel
theorem d_StreamWriter_putData_88 : decode c_StreamWriter_putData 88 = .ok (.getfield 13, 3) := by decide +kernel
theorem d_StreamWriter_putData_91 : decode c_StreamWriter_putData 91 = .ok (.iload 4, 2) := by decide +kernel
theorem d_StreamWriter_putData_93 : decode c_StreamWriter_putData 93 = .ok (.iconst 1, 1) := by decide +kernel
theorem d_StreamWriter_putData_94 : decode c_StreamWriter_putData 94 = .ok (.invokevirtual 55, 3) := by decide +kernel
theorem d_StreamWriter_putData_97 : decode c_StreamWriter_putData 97 = .ok (.aload_n 0, 1) := by decide +kernel
theorem d_StreamWriter_putData_98 : decode c_StreamWriter_putData 98 = .ok (.getfield 13, 3) := by decide +kernel
theorem d_StreamWriter_putData_101 : decode c_StreamWriter_putData 101 = .ok (.aload_n 0, 1) := by decide +kernel
theorem d_StreamWriter_putData_102 : decode c_StreamWriter_putData 102 = .ok (.getfield 7, 3) := by decide +kernel
theorem d_StreamWriter_putData_105 : decode c_StreamWriter_putData 105 = .ok (.iload_n 1, 1) := by decide +kernel
theorem d_StreamWriter_putData_106 : decode c_StreamWriter_putData 106 = .ok (.iload_n 2, 1) := by decide +kernel
theorem d_StreamWriter_putData_107 : decode c_StreamWriter_putData 107 = .ok (.invokevirtual 58, 3) := by decide +kernel
theorem d_StreamWriter_putData_110 : decode c_StreamWriter_putData 110 = .ok (.aload_n 0, 1) := by decide +kernel
theorem d_StreamWriter_putData_111 : decode c_StreamWriter_putData 111 = .ok (.getfield 13, 3) := by decide +kernel
theorem d_StreamWriter_putData_114 : decode c_StreamWriter_putData 114 = .ok (.iload 4, 2) := by decide +kernel
theorem d_StreamWriter_putData_116 : decode c_StreamWriter_putData 116 = .ok (.iconst 1, 1) := by decide +kernel
theorem d_StreamWriter_putData_117 : decode c_StreamWriter_putData 117 = .ok (.iadd, 1) := by decide +kernel
theorem d_StreamWriter_putData_118 : decode c_StreamWriter_putData 118 = .ok (.aload_n 0, 1) := by decide +kernel
theorem d_StreamWriter_putData_119 : decode c_StreamWriter_putData 119 = .ok (.getfield 13, 3) := by decide +kernel
theorem d_StreamWriter_putData_122 : decode c_StreamWriter_putData 122 = .ok (.getfield 36, 3) := by decide +kernel
theorem d_StreamWriter_putData_125 : decode c_StreamWriter_putData 125 = .ok (.iload 4, 2) := by decide +kernel
theorem d_StreamWriter_putData_127 : decode c_StreamWriter_putData 127 = .ok (.isub, 1) := by decide +kernel
theorem d_StreamWriter_putData_128 : decode c_StreamWriter_putData 128 = .ok (.iconst 4, 1) := by decide +kernel
theorem d_StreamWriter_putData_129 : decode c_StreamWriter_putData 129 = .ok (.isub, 1) := by decide +kernel
theorem d_StreamWriter_putData_130 : decode c_StreamWriter_putData 130 = .ok (.iconst 3, 1) := by decide +kernel
theorem d_StreamWriter_putData_131 : decode c_StreamWriter_putData 131 = .ok (.invokevirtual 62, 3) := by decide +kernel
theorem d_StreamWriter_putData_134 : decode c_StreamWriter_putData 134 = .ok (.return_, 1) := by decide +kernel
theorem d_StreamWriter_putSpare_0 : decode c_StreamWriter_putSpare 0 = .ok (.aload_n 0, 1) := by decide +kernel
theorem d_StreamWriter_putSpare_1 : decode c_StreamWriter_putSpare 1 = .ok (.getfield 13, 3) := by decide +kernel
theorem d_StreamWriter_putSpare_4 : decode c_StreamWriter_putSpare 4 = .ok (.sipush 254, 3) := by decide +kernel
theorem d_StreamWriter_putSpare_7 : decode c_StreamWriter_putSpare 7 = .ok (.invokevirtual 22, 3) := by decide +kernel
theorem d_StreamWriter_putSpare_10 : decode c_StreamWriter_putSpare 10 = .ok (.aload_n 0, 1) := by decide +kernel
theorem d_StreamWriter_putSpare_11 : decode c_StreamWriter_putSpare 11 = .ok (.getfield 13, 3) := by decide +kernel
theorem d_StreamWriter_putSpare_14 : decode c_StreamWriter_putSpare 14 = .ok (.iload_n 1, 1) := by decide +kernel
theorem d_StreamWriter_putSpare_15 : decode c_StreamWriter_putSpare 15 = .ok (.iconst 3, 1) := by decide +kernel
theorem d_StreamWriter_putSpare_16 : decode c_StreamWriter_putSpare 16 = .ok (.invokevirtual 32, 3) := by decide +kernel
theorem d_StreamWriter_putSpare_19 : decode c_StreamWriter_putSpare 19 = .ok (.iconst 0, 1) := by decide +kernel
theorem d_StreamWriter_putSpare_20 : decode c_StreamWriter_putSpare 20 = .ok (.istore_n 2, 1) := by decide +kernel
theorem d_StreamWriter_putSpare_21 : decode c_StreamWriter_putSpare 21 = .ok (.iload_n 2, 1) := by decide +kernel
theorem d_StreamWriter_putSpare_22 : decode c_StreamWriter_putSpare 22 = .ok (.iload_n 1, 1) := by decide +kernel
theorem d_StreamWriter_putSpare_23 : decode c_StreamWriter_putSpare 23 = .ok (.if_icmp .ge 17, 3) := by decide +kernel
theorem d_StreamWriter_putSpare_26 : decode c_StreamWriter_putSpare 26 = .ok (.aload_n 0, 1) := by decide +kernel
theorem d_StreamWriter_putSpare_27 : decode c_StreamWriter_putSpare 27 = .ok (.getfield 13, 3) := by decide +kernel
theorem d_StreamWriter_putSpare_30 : decode c_StreamWriter_putSpare 30 = .ok (.iconst 0, 1) := by decide +kernel
theorem d_StreamWriter_putSpare_31 : decode c_StreamWriter_putSpare 31 = .ok (.invokevirtual 22, 3) := by decide +kernel
theorem d_StreamWriter_putSpare_34 : decode c_StreamWriter_putSpare 34 = .ok (.iinc 2 1, 3) := by decide +kernel
theorem d_StreamWriter_putSpare_37 : decode c_StreamWriter_putSpare 37 = .ok (.goto (-16), 3) := by decide +kernel
theorem d_StreamWriter_putSpare_40 : decode c_StreamWriter_putSpare 40 = .ok (.return_, 1) := by decide +kernel
theorem d_Sums_sumOf_0 : decode c_Sums_sumOf 0 = .ok (.iconst (-1), 1) := by decide +kernel
theorem d_Sums_sumOf_1 : decode c_Sums_sumOf 1 = .ok (.istore_n 3, 1) := by decide +kernel
theorem d_Sums_sumOf_2 : decode c_Sums_sumOf 2 = .ok (.iload_n 1, 1) := by decide +kernel
theorem d_Sums_sumOf_3 : decode c_Sums_sumOf 3 = .ok (.istore 4, 2) := by decide +kernel
theorem d_Sums_sumOf_5 : decode c_Sums_sumOf 5 = .ok (.iload 4, 2) := by decide +kernel
theorem d_Sums_sumOf_7 : decode c_Sums_sumOf 7 = .ok (.iload_n 2, 1) := by decide +kernel
theorem d_Sums_sumOf_8 : decode c_Sums_sumOf 8 = .ok (.if_icmp .ge 21, 3) := by decide +kernel
theorem d_Sums_sumOf_11 : decode c_Sums_sumOf 11 = .ok (.iload_n 3, 1) := by decide +kernel
theorem d_Sums_sumOf_12 : decode c_Sums_sumOf 12 = .ok (.aload_n 0, 1) := by decide +kernel
theorem d_Sums_sumOf_13 : decode c_Sums_sumOf 13 = .ok (.iload 4, 2) := by decide +kernel
theorem d_Sums_sumOf_15 : decode c_Sums_sumOf 15 = .ok (.invokevirtual 7, 3) := by decide +kernel
theorem d_Sums_sumOf_18 : decode c_Sums_sumOf 18 = .ok (.ixor, 1) := by decide +kernel
theorem d_Sums_sumOf_19 : decode c_Sums_sumOf 19 = .ok (.invokestatic 13, 3) := by decide +kernel
theorem d_Sums_sumOf_22 : decode c_Sums_sumOf 22 = .ok (.istore_n 3, 1) := by decide +kernel
theorem d_Sums_sumOf_23 : decode c_Sums_sumOf 23 = .ok (.iinc 4 1, 3) := by decide +kernel
theorem d_Sums_sumOf_26 : decode c_Sums_sumOf 26 = .ok (.goto (-21), 3) := by decide +kernel
theorem d_Sums_sumOf_29 : decode c_Sums_sumOf 29 = .ok (.iload_n 3, 1) := by decide +kernel
theorem d_Sums_sumOf_30 : decode c_Sums_sumOf 30 = .ok (.iconst (-1), 1) := by decide +kernel
theorem d_Sums_sumOf_31 : decode c_Sums_sumOf 31 = .ok (.ixor, 1) := by decide +kernel
theorem d_Sums_sumOf_32 : decode c_Sums_sumOf 32 = .ok (.istore 4, 2) := by decide +kernel
theorem d_Sums_sumOf_34 : decode c_Sums_sumOf 34 = .ok (.iload 4, 2) := by decide +kernel
theorem d_Sums_sumOf_36 : decode c_Sums_sumOf 36 = .ok (.bipush 17, 2) := by decide +kernel
theorem d_Sums_sumOf_38 : decode c_Sums_sumOf 38 = .ok (.ishl, 1) := by decide +kernel
theorem d_Sums_sumOf_39 : decode c_Sums_sumOf 39 = .ok (.iload 4, 2) := by decide +kernel
theorem d_Sums_sumOf_41 : decode c_Sums_sumOf 41 = .ok (.bipush 15, 2) := by decide +kernel
theorem d_Sums_sumOf_43 : decode c_Sums_sumOf 43 = .ok (.iushr, 1) := by decide +kernel
theorem d_Sums_sumOf_44 : decode c_Sums_sumOf 44 = .ok (.ior, 1) := by decide +kernel
theorem d_Sums_sumOf_45 : decode c_Sums_sumOf 45 = .ok (.ldc 18, 2) := by decide +kernel
theorem d_Sums_sumOf_47 : decode c_Sums_sumOf 47 = .ok (.iadd, 1) := by decide +kernel
theorem d_Sums_sumOf_48 : decode c_Sums_sumOf 48 = .ok (.ireturn, 1) := by decide +kernel
theorem d_Sums_goRight_0 : decode c_Sums_goRight 0 = .ok (.iload_n 0, 1) := by decide +kernel
theorem d_Sums_goRight_1 : decode c_Sums_goRight 1 = .ok (.istore_n 1, 1) := by decide +kernel
theorem d_Sums_goRight_2 : decode c_Sums_goRight 2 = .ok (.iconst 0, 1) := by decide +kernel
theorem d_Sums_goRight_3 : decode c_Sums_goRight 3 = .ok (.istore_n 2, 1) := by decide +kernel
theorem d_Sums_goRight_4 : decode c_Sums_goRight 4 = .ok (.iload_n 2, 1) := by decide +kernel
theorem d_Sums_goRight_5 : decode c_Sums_goRight 5 = .ok (.bipush 8, 2) := by decide +kernel
theorem d_Sums_goRight_7 : decode c_Sums_goRight 7 = .ok (.if_icmp .ge 27, 3) := by decide +kernel
theorem d_Sums_goRight_10 : decode c_Sums_goRight 10 = .ok (.iload_n 1, 1) := by decide +kernel
theorem d_Sums_goRight_11 : decode c_Sums_goRight 11 = .ok (.iconst 1, 1) := by decide +kernel
theorem d_Sums_goRight_12 : decode c_Sums_goRight 12 = .ok (.iand, 1) := by decide +kernel
theorem d_Sums_goRight_13 : decode c_Sums_goRight 13 = .ok (.istore_n 3, 1) := by decide +kernel
theorem d_Sums_goRight_14 : decode c_Sums_goRight 14 = .ok (.iload_n 1, 1) := by decide +kernel
theorem d_Sums_goRight_15 : decode c_Sums_goRight 15 = .ok (.iconst 1, 1) := by decide +kernel
theorem d_Sums_goRight_16 : decode c_Sums_goRight 16 = .ok (.iushr, 1) := by decide +kernel
theorem d_Sums_goRight_17 : decode c_Sums_goRight 17 = .ok (.istore_n 1, 1) := by decide +kernel
theorem d_Sums_goRight_18 : decode c_Sums_goRight 18 = .ok (.iload_n 3, 1) := by decide +kernel
theorem d_Sums_goRight_19 : decode c_Sums_goRight 19 = .ok (.iconst 1, 1) := by decide +kernel
theorem d_Sums_goRight_20 : decode c_Sums_goRight 20 = .ok (.if_icmp .ne 8, 3) := by decide +kernel
theorem d_Sums_goRight_23 : decode c_Sums_goRight 23 = .ok (.iload_n 1, 1) := by decide +kernel
theorem d_Sums_goRight_24 : decode c_Sums_goRight 24 = .ok (.ldc 19, 2) := by decide +kernel
theorem d_Sums_goRight_26 : decode c_Sums_goRight 26 = .ok (.ixor, 1) := by decide +kernel
theorem d_Sums_goRight_27 : decode c_Sums_goRight 27 = .ok (.istore_n 1, 1) := by decide +kernel
theorem d_Sums_goRight_28 : decode c_Sums_goRight 28 = .ok (.iinc 2 1, 3) := by decide +kernel
theorem d_Sums_goRight_31 : decode c_Sums_goRight 31 = .ok (.goto (-27), 3) := by decide +kernel
theorem d_Sums_goRight_34 : decode c_Sums_goRight 34 = .ok (.iload_n 1, 1) := by decide +kernel
theorem d_Sums_goRight_35 : decode c_Sums_goRight 35 = .ok (.ireturn, 1) := by decide +kernel
theorem d_TP_init_0 : decode c_TP_init 0 = .ok (.aload_n 0, 1) := by decide +kernel
theorem d_TP_init_1 : decode c_TP_init 1 = .ok (.invokespecial 1, 3) := by decide +kernel
theorem d_TP_init_4 : decode c_TP_init 4 = .ok (.aload_n 0, 1) := by decide +kernel
theorem d_TP_init_5 : decode c_TP_init 5 = .ok (.new 7, 3) := by decide +kernel
theorem d_TP_init_8 : decode c_TP_init 8 = .ok (.dup, 1) := by decide +kernel
theorem d_TP_init_9 : decode c_TP_init 9 = .ok (.invokespecial 9, 3) := by decide +kernel
theorem d_TP_init_12 : decode c_TP_init 12 = .ok (.putfield 10, 3) := by decide +kernel
theorem d_TP_init_15 : decode c_TP_init 15 = .ok (.aload_n 0, 1) := by decide +kernel
theorem d_TP_init_16 : decode c_TP_init 16 = .ok (.new 7, 3) := by decide +kernel
theorem d_TP_init_19 : decode c_TP_init 19 = .ok (.dup, 1) := by decide +kernel
theorem d_TP_init_20 : decode c_TP_init 20 = .ok (.invokespecial 9, 3) := by decide +kernel
theorem d_TP_init_23 : decode c_TP_init 23 = .ok (.putfield 16, 3) := by decide +kernel
theorem d_TP_init_26 : decode c_TP_init 26 = .ok (.aload_n 0, 1) := by decide +kernel
theorem d_TP_init_27 : decode c_TP_init 27 = .ok (.new 7, 3) := by decide +kernel
theorem d_TP_init_30 : decode c_TP_init 30 = .ok (.dup, 1) := by decide +kernel
theorem d_TP_init_31 : decode c_TP_init 31 = .ok (.invokespecial 9, 3) := by decide +kernel
theorem d_TP_init_34 : decode c_TP_init 34 = .ok (.putfield 19, 3) := by decide +kernel
theorem d_TP_init_37 : decode c_TP_init 37 = .ok (.aload_n 0, 1) := by decide +kernel
theorem d_TP_init_38 : decode c_TP_init 38 = .ok (.new 22, 3) := by decide +kernel
theorem d_TP_init_41 : decode c_TP_init 41 = .ok (.dup, 1) := by decide +kernel
theorem d_TP_init_42 : decode c_TP_init 42 = .ok (.aload_n 0, 1) := by decide +kernel
theorem d_TP_init_43 : decode c_TP_init 43 = .ok (.getfield 10, 3) := by decide +kernel
theorem d_TP_init_46 : decode c_TP_init 46 = .ok (.invokespecial 24, 3) := by decide +kernel
theorem d_TP_init_49 : decode c_TP_init 49 = .ok (.putfield 27, 3) := by decide +kernel
theorem d_TP_init_52 : decode c_TP_init 52 = .ok (.aload_n 0, 1) := by decide +kernel
theorem d_TP_init_53 : decode c_TP_init 53 = .ok (.new 31, 3) := by decide +kernel
theorem d_TP_init_56 : decode c_TP_init 56 = .ok (.dup, 1) := by decide +kernel
theorem d_TP_init_57 : decode c_TP_init 57 = .ok (.aload_n 0, 1) := by decide +kernel
theorem d_TP_init_58 : decode c_TP_init 58 = .ok (.getfield 10, 3) := by decide +kernel
theorem d_TP_init_61 : decode c_TP_init 61 = .ok (.aload_n 0, 1) := by decide +kernel
theorem d_TP_init_62 : decode c_TP_init 62 = .ok (.getfield 19, 3) := by decide +kernel
theorem d_TP_init_65 : decode c_TP_init 65 = .ok (.aload_n 0, 1) := by decide +kernel
theorem d_TP_init_66 : decode c_TP_init 66 = .ok (.getfield 27, 3) := by decide +kernel
theorem d_TP_init_69 : decode c_TP_init 69 = .ok (.invokespecial 33, 3) := by decide +kernel
theorem d_TP_init_72 : decode c_TP_init 72 = .ok (.putfield 36, 3) := by decide +kernel
theorem d_TP_init_75 : decode c_TP_init 75 = .ok (.aload_n 0, 1) := by decide +kernel
theorem d_TP_init_76 : decode c_TP_init 76 = .ok (.new 40, 3) := by decide +kernel
theorem d_TP_init_79 : decode c_TP_init 79 = .ok (.dup, 1) := by decide +kernel
theorem d_TP_init_80 : decode c_TP_init 80 = .ok (.aload_n 0, 1) := by decide +kernel
theorem d_TP_init_81 : decode c_TP_init 81 = .ok (.getfield 10, 3) := by decide +kernel
theorem d_TP_init_84 : decode c_TP_init 84 = .ok (.aload_n 0, 1) := by decide +kernel
theorem d_TP_init_85 : decode c_TP_init 85 = .ok (.getfield 19, 3) := by decide +kernel
theorem d_TP_init_88 : decode c_TP_init 88 = .ok (.aload_n 0, 1) := by decide +kernel
theorem d_TP_init_89 : decode c_TP_init 89 = .ok (.getfield 36, 3) := by decide +kernel
theorem d_TP_init_92 : decode c_TP_init 92 = .ok (.invokespecial 42, 3) := by decide +kernel
theorem d_TP_init_95 : decode c_TP_init 95 = .ok (.putfield 45, 3) := by decide +kernel
theorem d_TP_init_98 : decode c_TP_init 98 = .ok (.aload_n 0, 1) := by decide +kernel
theorem d_TP_init_99 : decode c_TP_init 99 = .ok (.new 49, 3) := by decide +kernel
theorem d_TP_init_102 : decode c_TP_init 102 = .ok (.dup, 1) := by decide +kernel
theorem d_TP_init_103 : decode c_TP_init 103 = .ok (.aload_n 0, 1) := by decide +kernel
theorem d_TP_init_104 : decode c_TP_init 104 = .ok (.getfield 10, 3) := by decide +kernel
theorem d_TP_init_107 : decode c_TP_init 107 = .ok (.aload_n 0, 1) := by decide +kernel
theorem d_TP_init_108 : decode c_TP_init 108 = .ok (.getfield 19, 3) := by decide +kernel
theorem d_TP_init_111 : decode c_TP_init 111 = .ok (.invokespecial 51, 3) := by decide +kernel
theorem d_TP_init_114 : decode c_TP_init 114 = .ok (.putfield 54, 3) := by decide +kernel
theorem d_TP_init_117 : decode c_TP_init 117 = .ok (.aload_n 0, 1) := by decide +kernel
theorem d_TP_init_118 : decode c_TP_init 118 = .ok (.new 58, 3) := by decide +kernel
theorem d_TP_init_121 : decode c_TP_init 121 = .ok (.dup, 1) := by decide +kernel
theorem d_TP_init_122 : decode c_TP_init 122 = .ok (.aload_n 0, 1) := by decide +kernel
theorem d_TP_init_123 : decode c_TP_init 123 = .ok (.getfield 10, 3) := by decide +kernel
theorem d_TP_init_126 : decode c_TP_init 126 = .ok (.aload_n 0, 1) := by decide +kernel
theorem d_TP_init_127 : decode c_TP_init 127 = .ok (.getfield 19, 3) := by decide +kernel
theorem d_TP_init_130 : decode c_TP_init 130 = .ok (.aload_n 0, 1) := by decide +kernel
theorem d_TP_init_131 : decode c_TP_init 131 = .ok (.getfield 54, 3) := by decide +kernel
theorem d_TP_init_134 : decode c_TP_init 134 = .ok (.invokespecial 60, 3) := by decide +kernel
theorem d_TP_init_137 : decode c_TP_init 137 = .ok (.putfield 63, 3) := by decide +kernel
theorem d_TP_init_140 : decode c_TP_init 140 = .ok (.aload_n 0, 1) := by decide +kernel
theorem d_TP_init_141 : decode c_TP_init 141 = .ok (.iconst 0, 1) := by decide +kernel
theorem d_TP_init_142 : decode c_TP_init 142 = .ok (.putfield 67, 3) := by decide +kernel
theorem d_TP_init_145 : decode c_TP_init 145 = .ok (.return_, 1) := by decide +kernel
theorem d_TP_write_0 : decode c_TP_write 0 = .ok (.iload_n 3, 1) := by decide +kernel
theorem d_TP_write_1 : decode c_TP_write 1 = .ok (.iconst 1, 1) := by decide +kernel
theorem d_TP_write_2 : decode c_TP_write 2 = .ok (.if_icmp .lt 24, 3) := by decide +kernel
theorem d_TP_write_5 : decode c_TP_write 5 = .ok (.iload_n 3, 1) := by decide +kernel
theorem d_TP_write_6 : decode c_TP_write 6 = .ok (.bipush 8, 2) := by decide +kernel
theorem d_TP_write_8 : decode c_TP_write 8 = .ok (.if_icmp .gt 18, 3) := by decide +kernel
theorem d_TP_write_11 : decode c_TP_write 11 = .ok (.iload_n 3, 1) := by decide +kernel
theorem d_TP_write_12 : decode c_TP_write 12 = .ok (.sipush 10000, 3) := by decide +kernel
theorem d_TP_write_15 : decode c_TP_write 15 = .ok (.aload_n 0, 1) := by decide +kernel
theorem d_TP_write_16 : decode c_TP_write 16 = .ok (.getfield 10, 3) := by decide +kernel
theorem d_TP_write_19 : decode c_TP_write 19 = .ok (.getfield 71, 3) := by decide +kernel
theorem d_TP_write_22 : decode c_TP_write 22 = .ok (.isub, 1) := by decide +kernel
theorem d_TP_write_23 : decode c_TP_write 23 = .ok (.if_icmp .le 5, 3) := by decide +kernel
theorem d_TP_write_26 : decode c_TP_write 26 = .ok (.iconst 0, 1) := by decide +kernel
theorem d_TP_write_27 : decode c_TP_write 27 = .ok (.ireturn, 1) := by decide +kernel
theorem d_TP_write_28 : decode c_TP_write 28 = .ok (.iconst 0, 1) := by decide +kernel
theorem d_TP_write_29 : decode c_TP_write 29 = .ok (.istore 4, 2) := by decide +kernel
theorem d_TP_write_31 : decode c_TP_write 31 = .ok (.iload 4, 2) := by decide +kernel
theorem d_TP_write_33 : decode c_TP_write 33 = .ok (.iload_n 3, 1) := by decide +kernel
theorem d_TP_write_34 : decode c_TP_write 34 = .ok (.if_icmp .ge 27, 3) := by decide +kernel
theorem d_TP_write_37 : decode c_TP_write 37 = .ok (.aload_n 0, 1) := by decide +kernel
theorem d_TP_write_38 : decode c_TP_write 38 = .ok (.getfield 10, 3) := by decide +kernel
theorem d_TP_write_41 : decode c_TP_write 41 = .ok (.lload_n 1, 1) := by decide +kernel
theorem d_TP_write_42 : decode c_TP_write 42 = .ok (.bipush 56, 2) := by decide +kernel
theorem d_TP_write_44 : decode c_TP_write 44 = .ok (.bipush 8, 2) := by decide +kernel
theorem d_TP_write_46 : decode c_TP_write 46 = .ok (.iload 4, 2) := by decide +kernel
theorem d_TP_write_48 : decode c_TP_write 48 = .ok (.imul, 1) := by decide +kernel
theorem d_TP_write_49 : decode c_TP_write 49 = .ok (.isub, 1) := by decide +kernel
theorem d_TP_write_50 : decode c_TP_write 50 = .ok (.lushr, 1) := by decide +kernel
theorem d_TP_write_51 : decode c_TP_write 51 = .ok (.l2i, 1) := by decide +kernel
theorem d_TP_write_52 : decode c_TP_write 52 = .ok (.invokevirtual 74, 3) := by decide +kernel
theorem d_TP_write_55 : decode c_TP_write 55 = .ok (.iinc 4 1, 3) := by decide +kernel
theorem d_TP_write_58 : decode c_TP_write 58 = .ok (.goto (-27), 3) := by decide +kernel
theorem d_TP_write_61 : decode c_TP_write 61 = .ok (.iconst 1, 1) := by decide +kernel
theorem d_TP_write_62 : decode c_TP_write 62 = .ok (.ireturn, 1) := by decide +kernel
theorem d_TP_again_0 : decode c_TP_again 0 = .ok (.iload_n 1, 1) := by decide +kernel
theorem d_TP_again_1 : decode c_TP_again 1 = .ok (.iconst 1, 1) := by decide +kernel
theorem d_TP_again_2 : decode c_TP_again 2 = .ok (.if_icmp .lt 39, 3) := by decide +kernel
theorem d_TP_again_5 : decode c_TP_again 5 = .ok (.iload_n 1, 1) := by decide +kernel
theorem d_TP_again_6 : decode c_TP_again 6 = .ok (.aload_n 0, 1) := by decide +kernel
theorem d_TP_again_7 : decode c_TP_again 7 = .ok (.getfield 10, 3) := by decide +kernel
theorem d_TP_again_10 : decode c_TP_again 10 = .ok (.getfield 71, 3) := by decide +kernel
theorem d_TP_again_13 : decode c_TP_again 13 = .ok (.if_icmp .gt 28, 3) := by decide +kernel
theorem d_TP_again_16 : decode c_TP_again 16 = .ok (.iload_n 2, 1) := by decide +kernel
theorem d_TP_again_17 : decode c_TP_again 17 = .ok (.ifCond .lt 24, 3) := by decide +kernel
theorem d_TP_again_20 : decode c_TP_again 20 = .ok (.iload_n 1, 1) := by decide +kernel
theorem d_TP_again_21 : decode c_TP_again 21 = .ok (.i2l, 1) := by decide +kernel
theorem d_TP_again_22 : decode c_TP_again 22 = .ok (.iload_n 2, 1) := by decide +kernel
theorem d_TP_again_23 : decode c_TP_again 23 = .ok (.i2l, 1) := by decide +kernel
theorem d_TP_again_24 : decode c_TP_again 24 = .ok (.lmul, 1) := by decide +kernel
theorem d_TP_again_25 : decode c_TP_again 25 = .ok (.sipush 10000, 3) := by decide +kernel
theorem d_TP_again_28 : decode c_TP_again 28 = .ok (.aload_n 0, 1) := by decide +kernel
theorem d_TP_again_29 : decode c_TP_again 29 = .ok (.getfield 10, 3) := by decide +kernel
theorem d_TP_again_32 : decode c_TP_again 32 = .ok (.getfield 71, 3) := by decide +kernel
theorem d_TP_again_35 : decode c_TP_again 35 = .ok (.isub, 1) := by decide +kernel
theorem d_TP_again_36 : decode c_TP_again 36 = .ok (.i2l, 1) := by decide +kernel
theorem d_TP_again_37 : decode c_TP_again 37 = .ok (.lcmp, 1) := by decide +kernel
theorem d_TP_again_38 : decode c_TP_again 38 = .ok (.ifCond .le 5, 3) := by decide +kernel
theorem d_TP_again_41 : decode c_TP_again 41 = .ok (.iconst 0, 1) := by decide +kernel
theorem d_TP_again_42 : decode c_TP_again 42 = .ok (.ireturn, 1) := by decide +kernel
theorem d_TP_again_43 : decode c_TP_again 43 = .ok (.aload_n 0, 1) := by decide +kernel
theorem d_TP_again_44 : decode c_TP_again 44 = .ok (.getfield 10, 3) := by decide +kernel
theorem d_TP_again_47 : decode c_TP_again 47 = .ok (.iload_n 1, 1) := by decide +kernel
theorem d_TP_again_48 : decode c_TP_again 48 = .ok (.iload_n 1, 1) := by decide +kernel
theorem d_TP_again_49 : decode c_TP_again 49 = .ok (.iload_n 2, 1) := by decide +kernel
theorem d_TP_again_50 : decode c_TP_again 50 = .ok (.imul, 1) := by decide +kernel
theorem d_TP_again_51 : decode c_TP_again 51 = .ok (.invokevirtual 78, 3) := by decide +kernel
theorem d_TP_again_54 : decode c_TP_again 54 = .ok (.iconst 1, 1) := by decide +kernel
theorem d_TP_again_55 : decode c_TP_again 55 = .ok (.ireturn, 1) := by decide +kernel
theorem d_TP_clear_0 : decode c_TP_clear 0 = .ok (.aload_n 0, 1) := by decide +kernel
theorem d_TP_clear_1 : decode c_TP_clear 1 = .ok (.getfield 10, 3) := by decide +kernel
theorem d_TP_clear_4 : decode c_TP_clear 4 = .ok (.iconst 0, 1) := by decide +kernel
theorem d_TP_clear_5 : decode c_TP_clear 5 = .ok (.invokevirtual 82, 3) := by decide +kernel
theorem d_TP_clear_8 : decode c_TP_clear 8 = .ok (.return_, 1) := by decide +kernel
theorem d_TP_turn_0 : decode c_TP_turn 0 = .ok (.aload_n 0, 1) := by decide +kernel
theorem d_TP_turn_1 : decode c_TP_turn 1 = .ok (.getfield 10, 3) := by decide +kernel
theorem d_TP_turn_4 : decode c_TP_turn 4 = .ok (.aload_n 0, 1) := by decide +kernel
theorem d_TP_turn_5 : decode c_TP_turn 5 = .ok (.getfield 16, 3) := by decide +kernel
theorem d_TP_turn_8 : decode c_TP_turn 8 = .ok (.invokevirtual 85, 3) := by decide +kernel
theorem d_TP_turn_11 : decode c_TP_turn 11 = .ok (.return_, 1) := by decide +kernel
theorem d_TP_pack_0 : decode c_TP_pack 0 = .ok (.iload_n 1, 1) := by decide +kernel
theorem d_TP_pack_1 : decode c_TP_pack 1 = .ok (.invokestatic 88, 3) := by decide +kernel
theorem d_TP_pack_4 : decode c_TP_pack 4 = .ok (.ifCond .eq 5, 3) := by decide +kernel
theorem d_TP_pack_7 : decode c_TP_pack 7 = .ok (.iconst (-1), 1) := by decide +kernel
theorem d_TP_pack_8 : decode c_TP_pack 8 = .ok (.ireturn, 1) := by decide +kernel
theorem d_TP_pack_9 : decode c_TP_pack 9 = .ok (.aload_n 0, 1) := by decide +kernel
theorem d_TP_pack_10 : decode c_TP_pack 10 = .ok (.getfield 19, 3) := by decide +kernel
theorem d_TP_pack_13 : decode c_TP_pack 13 = .ok (.iconst 0, 1) := by decide +kernel
theorem d_TP_pack_14 : decode c_TP_pack 14 = .ok (.invokevirtual 82, 3) := by decide +kernel
theorem d_TP_pack_17 : decode c_TP_pack 17 = .ok (.aload_n 0, 1) := by decide +kernel
theorem d_TP_pack_18 : decode c_TP_pack 18 = .ok (.getfield 27, 3) := by decide +kernel
theorem d_TP_pack_21 : decode c_TP_pack 21 = .ok (.invokevirtual 92, 3) := by decide +kernel
theorem d_TP_pack_24 : decode c_TP_pack 24 = .ok (.aload_n 0, 1) := by decide +kernel
theorem d_TP_pack_25 : decode c_TP_pack 25 = .ok (.getfield 36, 3) := by decide +kernel
theorem d_TP_pack_28 : decode c_TP_pack 28 = .ok (.iconst 0, 1) := by decide +kernel
theorem d_TP_pack_29 : decode c_TP_pack 29 = .ok (.aload_n 0, 1) := by decide +kernel
theorem d_TP_pack_30 : decode c_TP_pack 30 = .ok (.getfield 10, 3) := by decide +kernel
theorem d_TP_pack_33 : decode c_TP_pack 33 = .ok (.getfield 71, 3) := by decide +kernel
theorem d_TP_pack_36 : decode c_TP_pack 36 = .ok (.iload_n 1, 1) := by decide +kernel
theorem d_TP_pack_37 : decode c_TP_pack 37 = .ok (.invokevirtual 95, 3) := by decide +kernel
theorem d_TP_pack_40 : decode c_TP_pack 40 = .ok (.aload_n 0, 1) := by decide +kernel
theorem d_TP_pack_41 : decode c_TP_pack 41 = .ok (.invokevirtual 99, 3) := by decide +kernel
theorem d_TP_pack_44 : decode c_TP_pack 44 = .ok (.ireturn, 1) := by decide +kernel
theorem d_TP_unpack_0 : decode c_TP_unpack 0 = .ok (.iload_n 1, 1) := by decide +kernel
theorem d_TP_unpack_1 : decode c_TP_unpack 1 = .ok (.invokestatic 103, 3) := by decide +kernel
theorem d_TP_unpack_4 : decode c_TP_unpack 4 = .ok (.ifCond .eq 6, 3) := by decide +kernel
theorem d_TP_unpack_7 : decode c_TP_unpack 7 = .ok (.bipush (-20), 2) := by decide +kernel
theorem d_TP_unpack_9 : decode c_TP_unpack 9 = .ok (.ireturn, 1) := by decide +kernel
theorem d_TP_unpack_10 : decode c_TP_unpack 10 = .ok (.aload_n 0, 1) := by decide +kernel
theorem d_TP_unpack_11 : decode c_TP_unpack 11 = .ok (.getfield 19, 3) := by decide +kernel
theorem d_TP_unpack_14 : decode c_TP_unpack 14 = .ok (.iconst 0, 1) := by decide +kernel
theorem d_TP_unpack_15 : decode c_TP_unpack 15 = .ok (.invokevirtual 82, 3) := by decide +kernel
theorem d_TP_unpack_18 : decode c_TP_unpack 18 = .ok (.aload_n 0, 1) := by decide +kernel
theorem d_TP_unpack_19 : decode c_TP_unpack 19 = .ok (.getfield 54, 3) := by decide +kernel
theorem d_TP_unpack_22 : decode c_TP_unpack 22 = .ok (.iconst 0, 1) := by decide +kernel
theorem d_TP_unpack_23 : decode c_TP_unpack 23 = .ok (.aload_n 0, 1) := by decide +kernel
theorem d_TP_unpack_24 : decode c_TP_unpack 24 = .ok (.getfield 10, 3) := by decide +kernel
theorem d_TP_unpack_27 : decode c_TP_unpack 27 = .ok (.getfield 71, 3) := by decide +kernel
theorem d_TP_unpack_30 : decode c_TP_unpack 30 = .ok (.iload_n 1, 1) := by decide +kernel
theorem d_TP_unpack_31 : decode c_TP_unpack 31 = .ok (.invokevirtual 106, 3) := by decide +kernel
theorem d_TP_unpack_34 : decode c_TP_unpack 34 = .ok (.aload_n 0, 1) := by decide +kernel
theorem d_TP_unpack_35 : decode c_TP_unpack 35 = .ok (.aload_n 0, 1) := by decide +kernel
theorem d_TP_unpack_36 : decode c_TP_unpack 36 = .ok (.getfield 54, 3) := by decide +kernel
theorem d_TP_unpack_39 : decode c_TP_unpack 39 = .ok (.getfield 109, 3) := by decide +kernel
theorem d_TP_unpack_42 : decode c_TP_unpack 42 = .ok (.aload_n 0, 1) := by decide +kernel
theorem d_TP_unpack_43 : decode c_TP_unpack 43 = .ok (.getfield 54, 3) := by decide +kernel
theorem d_TP_unpack_46 : decode c_TP_unpack 46 = .ok (.getfield 112, 3) := by decide +kernel
theorem d_TP_unpack_49 : decode c_TP_unpack 49 = .ok (.invokevirtual 115, 3) := by decide +kernel
theorem d_TP_unpack_52 : decode c_TP_unpack 52 = .ok (.ireturn, 1) := by decide +kernel
theorem d_TP_chunks_0 : decode c_TP_chunks 0 = .ok (.iload_n 1, 1) := by decide +kernel
theorem d_TP_chunks_1 : decode c_TP_chunks 1 = .ok (.iconst 1, 1) := by decide +kernel
theorem d_TP_chunks_2 : decode c_TP_chunks 2 = .ok (.if_icmp .lt 28, 3) := by decide +kernel
theorem d_TP_chunks_5 : decode c_TP_chunks 5 = .ok (.iload_n 1, 1) := by decide +kernel
theorem d_TP_chunks_6 : decode c_TP_chunks 6 = .ok (.sipush 10000, 3) := by decide +kernel
theorem d_TP_chunks_9 : decode c_TP_chunks 9 = .ok (.if_icmp .gt 21, 3) := by decide +kernel
theorem d_TP_chunks_12 : decode c_TP_chunks 12 = .ok (.iload_n 2, 1) := by decide +kernel
theorem d_TP_chunks_13 : decode c_TP_chunks 13 = .ok (.invokestatic 88, 3) := by decide +kernel
theorem d_TP_chunks_16 : decode c_TP_chunks 16 = .ok (.ifCond .ne 14, 3) := by decide +kernel
theorem d_TP_chunks_19 : decode c_TP_chunks 19 = .ok (.iload_n 3, 1) := by decide +kernel
theorem d_TP_chunks_20 : decode c_TP_chunks 20 = .ok (.ifCond .lt 10, 3) := by decide +kernel
theorem d_TP_chunks_23 : decode c_TP_chunks 23 = .ok (.iload_n 3, 1) := by decide +kernel
theorem d_TP_chunks_24 : decode c_TP_chunks 24 = .ok (.sipush 255, 3) := by decide +kernel
theorem d_TP_chunks_27 : decode c_TP_chunks 27 = .ok (.if_icmp .le 5, 3) := by decide +kernel
theorem d_TP_chunks_30 : decode c_TP_chunks 30 = .ok (.iconst (-1), 1) := by decide +kernel
theorem d_TP_chunks_31 : decode c_TP_chunks 31 = .ok (.ireturn, 1) := by decide +kernel
theorem d_TP_chunks_32 : decode c_TP_chunks 32 = .ok (.aload_n 0, 1) := by decide +kernel
theorem d_TP_chunks_33 : decode c_TP_chunks 33 = .ok (.getfield 19, 3) := by decide +kernel
theorem d_TP_chunks_36 : decode c_TP_chunks 36 = .ok (.iconst 0, 1) := by decide +kernel
theorem d_TP_chunks_37 : decode c_TP_chunks 37 = .ok (.invokevirtual 82, 3) := by decide +kernel
theorem d_TP_chunks_40 : decode c_TP_chunks 40 = .ok (.aload_n 0, 1) := by decide +kernel
theorem d_TP_chunks_41 : decode c_TP_chunks 41 = .ok (.getfield 27, 3) := by decide +kernel
theorem d_TP_chunks_44 : decode c_TP_chunks 44 = .ok (.invokevirtual 92, 3) := by decide +kernel
theorem d_TP_chunks_47 : decode c_TP_chunks 47 = .ok (.aload_n 0, 1) := by decide +kernel
theorem d_TP_chunks_48 : decode c_TP_chunks 48 = .ok (.getfield 45, 3) := by decide +kernel
theorem d_TP_chunks_51 : decode c_TP_chunks 51 = .ok (.invokevirtual 119, 3) := by decide +kernel
theorem d_TP_chunks_54 : decode c_TP_chunks 54 = .ok (.iconst 0, 1) := by decide +kernel
theorem d_TP_chunks_55 : decode c_TP_chunks 55 = .ok (.istore 4, 2) := by decide +kernel
theorem d_TP_chunks_57 : decode c_TP_chunks 57 = .ok (.iload 4, 2) := by decide +kernel
theorem d_TP_chunks_59 : decode c_TP_chunks 59 = .ok (.aload_n 0, 1) := by decide +kernel
theorem d_TP_chunks_60 : decode c_TP_chunks 60 = .ok (.getfield 10, 3) := by decide +kernel
theorem d_TP_chunks_63 : decode c_TP_chunks 63 = .ok (.getfield 71, 3) := by decide +kernel
theorem d_TP_chunks_66 : decode c_TP_chunks 66 = .ok (.if_icmp .ge 58, 3) := by decide +kernel
theorem d_TP_chunks_69 : decode c_TP_chunks 69 = .ok (.aload_n 0, 1) := by decide +kernel
theorem d_TP_chunks_70 : decode c_TP_chunks 70 = .ok (.getfield 19, 3) := by decide +kernel
theorem d_TP_chunks_73 : decode c_TP_chunks 73 = .ok (.invokevirtual 122, 3) := by decide +kernel
theorem d_TP_chunks_76 : decode c_TP_chunks 76 = .ok (.ifCond .eq 48, 3) := by decide +kernel
theorem d_TP_chunks_79 : decode c_TP_chunks 79 = .ok (.aload_n 0, 1) := by decide +kernel
theorem d_TP_chunks_80 : decode c_TP_chunks 80 = .ok (.getfield 45, 3) := by decide +kernel
theorem d_TP_chunks_83 : decode c_TP_chunks 83 = .ok (.iload 4, 2) := by decide +kernel
theorem d_TP_chunks_85 : decode c_TP_chunks 85 = .ok (.iload 4, 2) := by decide +kernel
theorem d_TP_chunks_87 : decode c_TP_chunks 87 = .ok (.iload_n 1, 1) := by decide +kernel
theorem d_TP_chunks_88 : decode c_TP_chunks 88 = .ok (.iadd, 1) := by decide +kernel
theorem d_TP_chunks_89 : decode c_TP_chunks 89 = .ok (.aload_n 0, 1) := by decide +kernel
theorem d_TP_chunks_90 : decode c_TP_chunks 90 = .ok (.getfield 10, 3) := by decide +kernel
theorem d_TP_chunks_93 : decode c_TP_chunks 93 = .ok (.getfield 71, 3) := by decide +kernel
theorem d_TP_chunks_96 : decode c_TP_chunks 96 = .ok (.invokestatic 126, 3) := by decide +kernel
theorem d_TP_chunks_99 : decode c_TP_chunks 99 = .ok (.iload_n 2, 1) := by decide +kernel
theorem d_TP_chunks_100 : decode c_TP_chunks 100 = .ok (.invokevirtual 131, 3) := by decide +kernel
theorem d_TP_chunks_103 : decode c_TP_chunks 103 = .ok (.iload_n 3, 1) := by decide +kernel
theorem d_TP_chunks_104 : decode c_TP_chunks 104 = .ok (.ifCond .le 11, 3) := by decide +kernel
theorem d_TP_chunks_107 : decode c_TP_chunks 107 = .ok (.aload_n 0, 1) := by decide +kernel
theorem d_TP_chunks_108 : decode c_TP_chunks 108 = .ok (.getfield 45, 3) := by decide +kernel
theorem d_TP_chunks_111 : decode c_TP_chunks 111 = .ok (.iload_n 3, 1) := by decide +kernel
theorem d_TP_chunks_112 : decode c_TP_chunks 112 = .ok (.invokevirtual 134, 3) := by decide +kernel
theorem d_TP_chunks_115 : decode c_TP_chunks 115 = .ok (.iload 4, 2) := by decide +kernel
theorem d_TP_chunks_117 : decode c_TP_chunks 117 = .ok (.iload_n 1, 1) := by decide +kernel
theorem d_TP_chunks_118 : decode c_TP_chunks 118 = .ok (.iadd, 1) := by decide +kernel
theorem d_TP_chunks_119 : decode c_TP_chunks 119 = .ok (.istore 4, 2) := by decide +kernel
theorem d_TP_chunks_121 : decode c_TP_chunks 121 = .ok (.goto (-64), 3) := by decide +kernel
theorem d_TP_chunks_124 : decode c_TP_chunks 124 = .ok (.aload_n 0, 1) := by decide +kernel
theorem d_TP_chunks_125 : decode c_TP_chunks 125 = .ok (.invokevirtual 99, 3) := by decide +kernel
theorem d_TP_chunks_128 : decode c_TP_chunks 128 = .ok (.ireturn, 1) := by decide +kernel
theorem d_TP_unchunk_0 : decode c_TP_unchunk 0 = .ok (.iload_n 1, 1) := by decide +kernel
theorem d_TP_unchunk_1 : decode c_TP_unchunk 1 = .ok (.invokestatic 103, 3) := by decide +kernel
theorem d_TP_unchunk_4 : decode c_TP_unchunk 4 = .ok (.ifCond .eq 6, 3) := by decide +kernel
theorem d_TP_unchunk_7 : decode c_TP_unchunk 7 = .ok (.bipush (-20), 2) := by decide +kernel
theorem d_TP_unchunk_9 : decode c_TP_unchunk 9 = .ok (.ireturn, 1) := by decide +kernel
theorem d_TP_unchunk_10 : decode c_TP_unchunk 10 = .ok (.aload_n 0, 1) := by decide +kernel
theorem d_TP_unchunk_11 : decode c_TP_unchunk 11 = .ok (.getfield 19, 3) := by decide +kernel
theorem d_TP_unchunk_14 : decode c_TP_unchunk 14 = .ok (.iconst 0, 1) := by decide +kernel
theorem d_TP_unchunk_15 : decode c_TP_unchunk 15 = .ok (.invokevirtual 82, 3) := by decide +kernel
theorem d_TP_unchunk_18 : decode c_TP_unchunk 18 = .ok (.aload_n 0, 1) := by decide +kernel
theorem d_TP_unchunk_19 : decode c_TP_unchunk 19 = .ok (.getfield 63, 3) := by decide +kernel
theorem d_TP_unchunk_22 : decode c_TP_unchunk 22 = .ok (.iload_n 1, 1) := by decide +kernel
theorem d_TP_unchunk_23 : decode c_TP_unchunk 23 = .ok (.invokevirtual 137, 3) := by decide +kernel
theorem d_TP_unchunk_26 : decode c_TP_unchunk 26 = .ok (.iconst 0, 1) := by decide +kernel
theorem d_TP_unchunk_27 : decode c_TP_unchunk 27 = .ok (.istore_n 2, 1) := by decide +kernel
theorem d_TP_unchunk_28 : decode c_TP_unchunk 28 = .ok (.iload_n 2, 1) := by decide +kernel
theorem d_TP_unchunk_29 : decode c_TP_unchunk 29 = .ok (.sipush 10000, 3) := by decide +kernel
theorem d_TP_unchunk_32 : decode c_TP_unchunk 32 = .ok (.if_icmp .ge 26, 3) := by decide +kernel
theorem d_TP_unchunk_35 : decode c_TP_unchunk 35 = .ok (.aload_n 0, 1) := by decide +kernel
theorem d_TP_unchunk_36 : decode c_TP_unchunk 36 = .ok (.getfield 63, 3) := by decide +kernel
theorem d_TP_unchunk_39 : decode c_TP_unchunk 39 = .ok (.invokevirtual 140, 3) := by decide +kernel
theorem d_TP_unchunk_42 : decode c_TP_unchunk 42 = .ok (.ifCond .eq 16, 3) := by decide +kernel
theorem d_TP_unchunk_45 : decode c_TP_unchunk 45 = .ok (.aload_n 0, 1) := by decide +kernel
theorem d_TP_unchunk_46 : decode c_TP_unchunk 46 = .ok (.getfield 63, 3) := by decide +kernel
theorem d_TP_unchunk_49 : decode c_TP_unchunk 49 = .ok (.invokevirtual 143, 3) := by decide +kernel
theorem d_TP_unchunk_52 : decode c_TP_unchunk 52 = .ok (.iinc 2 1, 3) := by decide +kernel
theorem d_TP_unchunk_55 : decode c_TP_unchunk 55 = .ok (.goto (-27), 3) := by decide +kernel
theorem d_TP_unchunk_58 : decode c_TP_unchunk 58 = .ok (.aload_n 0, 1) := by decide +kernel
theorem d_TP_unchunk_59 : decode c_TP_unchunk 59 = .ok (.aload_n 0, 1) := by decide +kernel
theorem d_TP_unchunk_60 : decode c_TP_unchunk 60 = .ok (.getfield 63, 3) := by decide +kernel
theorem d_TP_unchunk_63 : decode c_TP_unchunk 63 = .ok (.getfield 146, 3) := by decide +kernel
theorem d_TP_unchunk_66 : decode c_TP_unchunk 66 = .ok (.aload_n 0, 1) := by decide +kernel
theorem d_TP_unchunk_67 : decode c_TP_unchunk 67 = .ok (.getfield 63, 3) := by decide +kernel
theorem d_TP_unchunk_70 : decode c_TP_unchunk 70 = .ok (.getfield 147, 3) := by decide +kernel
theorem d_TP_unchunk_73 : decode c_TP_unchunk 73 = .ok (.invokevirtual 115, 3) := by decide +kernel
theorem d_TP_unchunk_76 : decode c_TP_unchunk 76 = .ok (.ireturn, 1) := by decide +kernel
theorem d_TP_place_0 : decode c_TP_place 0 = .ok (.aload_n 0, 1) := by decide +kernel
theorem d_TP_place_1 : decode c_TP_place 1 = .ok (.getfield 67, 3) := by decide +kernel
theorem d_TP_place_4 : decode c_TP_place 4 = .ok (.ireturn, 1) := by decide +kernel
theorem d_TP_sum_0 : decode c_TP_sum 0 = .ok (.aload_n 0, 1) := by decide +kernel
theorem d_TP_sum_1 : decode c_TP_sum 1 = .ok (.getfield 10, 3) := by decide +kernel
theorem d_TP_sum_4 : decode c_TP_sum 4 = .ok (.iconst 0, 1) := by decide +kernel
theorem d_TP_sum_5 : decode c_TP_sum 5 = .ok (.aload_n 0, 1) := by decide +kernel
theorem d_TP_sum_6 : decode c_TP_sum 6 = .ok (.getfield 10, 3) := by decide +kernel
theorem d_TP_sum_9 : decode c_TP_sum 9 = .ok (.getfield 71, 3) := by decide +kernel
theorem d_TP_sum_12 : decode c_TP_sum 12 = .ok (.invokestatic 148, 3) := by decide +kernel
theorem d_TP_sum_15 : decode c_TP_sum 15 = .ok (.ireturn, 1) := by decide +kernel
theorem d_TP_size_0 : decode c_TP_size 0 = .ok (.aload_n 0, 1) := by decide +kernel
theorem d_TP_size_1 : decode c_TP_size 1 = .ok (.getfield 16, 3) := by decide +kernel
theorem d_TP_size_4 : decode c_TP_size 4 = .ok (.getfield 71, 3) := by decide +kernel
theorem d_TP_size_7 : decode c_TP_size 7 = .ok (.ireturn, 1) := by decide +kernel
theorem d_TP_byteAt_0 : decode c_TP_byteAt 0 = .ok (.aload_n 0, 1) := by decide +kernel
theorem d_TP_byteAt_1 : decode c_TP_byteAt 1 = .ok (.getfield 16, 3) := by decide +kernel
theorem d_TP_byteAt_4 : decode c_TP_byteAt 4 = .ok (.iload_n 1, 1) := by decide +kernel
theorem d_TP_byteAt_5 : decode c_TP_byteAt 5 = .ok (.invokevirtual 154, 3) := by decide +kernel
theorem d_TP_byteAt_8 : decode c_TP_byteAt 8 = .ok (.ireturn, 1) := by decide +kernel
theorem d_TP_isNoWay_0 : decode c_TP_isNoWay 0 = .ok (.iload_n 0, 1) := by decide +kernel
theorem d_TP_isNoWay_1 : decode c_TP_isNoWay 1 = .ok (.ifCond .lt 8, 3) := by decide +kernel
theorem d_TP_isNoWay_4 : decode c_TP_isNoWay 4 = .ok (.iload_n 0, 1) := by decide +kernel
theorem d_TP_isNoWay_5 : decode c_TP_isNoWay 5 = .ok (.iconst 3, 1) := by decide +kernel
theorem d_TP_isNoWay_6 : decode c_TP_isNoWay 6 = .ok (.if_icmp .le 7, 3) := by decide +kernel
theorem d_TP_isNoWay_9 : decode c_TP_isNoWay 9 = .ok (.iconst 1, 1) := by decide +kernel
theorem d_TP_isNoWay_10 : decode c_TP_isNoWay 10 = .ok (.goto 4, 3) := by decide +kernel
theorem d_TP_isNoWay_13 : decode c_TP_isNoWay 13 = .ok (.iconst 0, 1) := by decide +kernel
theorem d_TP_isNoWay_14 : decode c_TP_isNoWay 14 = .ok (.ireturn, 1) := by decide +kernel
theorem d_TP_isNoMost_0 : decode c_TP_isNoMost 0 = .ok (.iload_n 0, 1) := by decide +kernel
theorem d_TP_isNoMost_1 : decode c_TP_isNoMost 1 = .ok (.ifCond .lt 10, 3) := by decide +kernel
theorem d_TP_isNoMost_4 : decode c_TP_isNoMost 4 = .ok (.iload_n 0, 1) := by decide +kernel
theorem d_TP_isNoMost_5 : decode c_TP_isNoMost 5 = .ok (.sipush 10000, 3) := by decide +kernel
theorem d_TP_isNoMost_8 : decode c_TP_isNoMost 8 = .ok (.if_icmp .le 7, 3) := by decide +kernel
theorem d_TP_isNoMost_11 : decode c_TP_isNoMost 11 = .ok (.iconst 1, 1) := by decide +kernel
theorem d_TP_isNoMost_12 : decode c_TP_isNoMost 12 = .ok (.goto 4, 3) := by decide +kernel
theorem d_TP_isNoMost_15 : decode c_TP_isNoMost 15 = .ok (.iconst 0, 1) := by decide +kernel
theorem d_TP_isNoMost_16 : decode c_TP_isNoMost 16 = .ok (.ireturn, 1) := by decide +kernel
theorem d_TP_endWriting_0 : decode c_TP_endWriting 0 = .ok (.aload_n 0, 1) := by decide +kernel
theorem d_TP_endWriting_1 : decode c_TP_endWriting 1 = .ok (.getfield 19, 3) := by decide +kernel
theorem d_TP_endWriting_4 : decode c_TP_endWriting 4 = .ok (.invokevirtual 122, 3) := by decide +kernel
theorem d_TP_endWriting_7 : decode c_TP_endWriting 7 = .ok (.ifCond .ne 5, 3) := by decide +kernel
theorem d_TP_endWriting_10 : decode c_TP_endWriting 10 = .ok (.iconst (-1), 1) := by decide +kernel
theorem d_TP_endWriting_11 : decode c_TP_endWriting 11 = .ok (.ireturn, 1) := by decide +kernel
theorem d_TP_endWriting_12 : decode c_TP_endWriting 12 = .ok (.aload_n 0, 1) := by decide +kernel
theorem d_TP_endWriting_13 : decode c_TP_endWriting 13 = .ok (.getfield 16, 3) := by decide +kernel
theorem d_TP_endWriting_16 : decode c_TP_endWriting 16 = .ok (.aload_n 0, 1) := by decide +kernel
theorem d_TP_endWriting_17 : decode c_TP_endWriting 17 = .ok (.getfield 19, 3) := by decide +kernel
theorem d_TP_endWriting_20 : decode c_TP_endWriting 20 = .ok (.invokevirtual 85, 3) := by decide +kernel
theorem d_TP_endWriting_23 : decode c_TP_endWriting 23 = .ok (.aload_n 0, 1) := by decide +kernel
theorem d_TP_endWriting_24 : decode c_TP_endWriting 24 = .ok (.getfield 16, 3) := by decide +kernel
theorem d_TP_endWriting_27 : decode c_TP_endWriting 27 = .ok (.getfield 71, 3) := by decide +kernel
theorem d_TP_endWriting_30 : decode c_TP_endWriting 30 = .ok (.ireturn, 1) := by decide +kernel
theorem d_TP_endReading_0 : decode c_TP_endReading 0 = .ok (.iload_n 1, 1) := by decide +kernel
theorem d_TP_endReading_1 : decode c_TP_endReading 1 = .ok (.ifCond .eq 11, 3) := by decide +kernel
theorem d_TP_endReading_4 : decode c_TP_endReading 4 = .ok (.aload_n 0, 1) := by decide +kernel
theorem d_TP_endReading_5 : decode c_TP_endReading 5 = .ok (.iload_n 2, 1) := by decide +kernel
theorem d_TP_endReading_6 : decode c_TP_endReading 6 = .ok (.putfield 67, 3) := by decide +kernel
theorem d_TP_endReading_9 : decode c_TP_endReading 9 = .ok (.iload_n 1, 1) := by decide +kernel
theorem d_TP_endReading_10 : decode c_TP_endReading 10 = .ok (.ineg, 1) := by decide +kernel
theorem d_TP_endReading_11 : decode c_TP_endReading 11 = .ok (.ireturn, 1) := by decide +kernel
theorem d_TP_endReading_12 : decode c_TP_endReading 12 = .ok (.aload_n 0, 1) := by decide +kernel
theorem d_TP_endReading_13 : decode c_TP_endReading 13 = .ok (.aload_n 0, 1) := by decide +kernel
theorem d_TP_endReading_14 : decode c_TP_endReading 14 = .ok (.getfield 10, 3) := by decide +kernel
theorem d_TP_endReading_17 : decode c_TP_endReading 17 = .ok (.getfield 71, 3) := by decide +kernel
theorem d_TP_endReading_20 : decode c_TP_endReading 20 = .ok (.putfield 67, 3) := by decide +kernel
theorem d_TP_endReading_23 : decode c_TP_endReading 23 = .ok (.aload_n 0, 1) := by decide +kernel
theorem d_TP_endReading_24 : decode c_TP_endReading 24 = .ok (.getfield 16, 3) := by decide +kernel
theorem d_TP_endReading_27 : decode c_TP_endReading 27 = .ok (.aload_n 0, 1) := by decide +kernel
theorem d_TP_endReading_28 : decode c_TP_endReading 28 = .ok (.getfield 19, 3) := by decide +kernel
theorem d_TP_endReading_31 : decode c_TP_endReading 31 = .ok (.invokevirtual 85, 3) := by decide +kernel
theorem d_TP_endReading_34 : decode c_TP_endReading 34 = .ok (.aload_n 0, 1) := by decide +kernel
theorem d_TP_endReading_35 : decode c_TP_endReading 35 = .ok (.getfield 16, 3) := by decide +kernel
theorem d_TP_endReading_38 : decode c_TP_endReading 38 = .ok (.getfield 71, 3) := by decide +kernel
theorem d_TP_endReading_41 : decode c_TP_endReading 41 = .ok (.ireturn, 1) := by decide +kernel
theorem d_La_law_0 : decode c_La_law 0 = .ok (.new 7, 3) := by decide +kernel
theorem d_La_law_3 : decode c_La_law 3 = .ok (.dup, 1) := by decide +kernel
theorem d_La_law_4 : decode c_La_law 4 = .ok (.invokespecial 9, 3) := by decide +kernel
theorem d_La_law_7 : decode c_La_law 7 = .ok (.astore_n 1, 1) := by decide +kernel
theorem d_La_law_8 : decode c_La_law 8 = .ok (.new 10, 3) := by decide +kernel
theorem d_La_law_11 : decode c_La_law 11 = .ok (.dup, 1) := by decide +kernel
theorem d_La_law_12 : decode c_La_law 12 = .ok (.invokespecial 12, 3) := by decide +kernel
theorem d_La_law_15 : decode c_La_law 15 = .ok (.astore_n 2, 1) := by decide +kernel
theorem d_La_law_16 : decode c_La_law 16 = .ok (.iconst 0, 1) := by decide +kernel
theorem d_La_law_17 : decode c_La_law 17 = .ok (.istore_n 3, 1) := by decide +kernel
theorem d_La_law_18 : decode c_La_law 18 = .ok (.iload_n 3, 1) := by decide +kernel
theorem d_La_law_19 : decode c_La_law 19 = .ok (.aload_n 0, 1) := by decide +kernel
theorem d_La_law_20 : decode c_La_law 20 = .ok (.arraylength, 1) := by decide +kernel
theorem d_La_law_21 : decode c_La_law 21 = .ok (.iconst 4, 1) := by decide +kernel
theorem d_La_law_22 : decode c_La_law 22 = .ok (.isub, 1) := by decide +kernel
theorem d_La_law_23 : decode c_La_law 23 = .ok (.if_icmp .gt 371, 3) := by decide +kernel
theorem d_La_law_26 : decode c_La_law 26 = .ok (.aload_n 0, 1) := by decide +kernel
theorem d_La_law_27 : decode c_La_law 27 = .ok (.iload_n 3, 1) := by decide +kernel
theorem d_La_law_28 : decode c_La_law 28 = .ok (.iaload, 1) := by decide +kernel
theorem d_La_law_29 : decode c_La_law 29 = .ok (.bipush 15, 2) := by decide +kernel
theorem d_La_law_31 : decode c_La_law 31 = .ok (.iand, 1) := by decide +kernel
theorem d_La_law_32 : decode c_La_law 32 = .ok (.tableswitch 356 0 11 #[64, 127, 160, 171, 182, 205, 228, 271, 294, 307, 320, 333], 64) := by decide +kernel
theorem d_La_law_96 : decode c_La_law 96 = .ok (.aload_n 1, 1) := by decide +kernel
theorem d_La_law_97 : decode c_La_law 97 = .ok (.aload_n 0, 1) := by decide +kernel
theorem d_La_law_98 : decode c_La_law 98 = .ok (.iload_n 3, 1) := by decide +kernel
theorem d_La_law_99 : decode c_La_law 99 = .ok (.iconst 1, 1) := by decide +kernel
theorem d_La_law_100 : decode c_La_law 100 = .ok (.iadd, 1) := by decide +kernel
theorem d_La_law_101 : decode c_La_law 101 = .ok (.iaload, 1) := by decide +kernel
theorem d_La_law_102 : decode c_La_law 102 = .ok (.i2l, 1) := by decide +kernel
theorem d_La_law_103 : decode c_La_law 103 = .ok (.bipush 32, 2) := by decide +kernel
theorem d_La_law_105 : decode c_La_law 105 = .ok (.lshl, 1) := by decide +kernel
theorem d_La_law_106 : decode c_La_law 106 = .ok (.aload_n 0, 1) := by decide +kernel
theorem d_La_law_107 : decode c_La_law 107 = .ok (.iload_n 3, 1) := by decide +kernel
theorem d_La_law_108 : decode c_La_law 108 = .ok (.iconst 2, 1) := by decide +kernel
theorem d_La_law_109 : decode c_La_law 109 = .ok (.iadd, 1) := by decide +kernel
theorem d_La_law_110 : decode c_La_law 110 = .ok (.iaload, 1) := by decide +kernel
theorem d_La_law_111 : decode c_La_law 111 = .ok (.i2l, 1) := by decide +kernel
theorem d_La_law_112 : decode c_La_law 112 = .ok (.ldc2_w 13, 3) := by decide +kernel
theorem d_La_law_115 : decode c_La_law 115 = .ok (.land, 1) := by decide +kernel
theorem d_La_law_116 : decode c_La_law 116 = .ok (.lor, 1) := by decide +kernel
theorem d_La_law_117 : decode c_La_law 117 = .ok (.aload_n 0, 1) := by decide +kernel
theorem d_La_law_118 : decode c_La_law 118 = .ok (.iload_n 3, 1) := by decide +kernel
theorem d_La_law_119 : decode c_La_law 119 = .ok (.iconst 3, 1) := by decide +kernel
theorem d_La_law_120 : decode c_La_law 120 = .ok (.iadd, 1) := by decide +kernel
theorem d_La_law_121 : decode c_La_law 121 = .ok (.iaload, 1) := by decide +kernel
theorem d_La_law_122 : decode c_La_law 122 = .ok (.invokevirtual 15, 3) := by decide +kernel
theorem d_La_law_125 : decode c_La_law 125 = .ok (.aload_n 2, 1) := by decide +kernel
theorem d_La_law_126 : decode c_La_law 126 = .ok (.aload_n 0, 1) := by decide +kernel
theorem d_La_law_127 : decode c_La_law 127 = .ok (.iload_n 3, 1) := by decide +kernel
theorem d_La_law_128 : decode c_La_law 128 = .ok (.iconst 1, 1) := by decide +kernel
theorem d_La_law_129 : decode c_La_law 129 = .ok (.iadd, 1) := by decide +kernel
theorem d_La_law_130 : decode c_La_law 130 = .ok (.iaload, 1) := by decide +kernel
theorem d_La_law_131 : decode c_La_law 131 = .ok (.i2l, 1) := by decide +kernel
theorem d_La_law_132 : decode c_La_law 132 = .ok (.bipush 32, 2) := by decide +kernel
theorem d_La_law_134 : decode c_La_law 134 = .ok (.lshl, 1) := by decide +kernel
theorem d_La_law_135 : decode c_La_law 135 = .ok (.aload_n 0, 1) := by decide +kernel
theorem d_La_law_136 : decode c_La_law 136 = .ok (.iload_n 3, 1) := by decide +kernel
theorem d_La_law_137 : decode c_La_law 137 = .ok (.iconst 2, 1) := by decide +kernel
theorem d_La_law_138 : decode c_La_law 138 = .ok (.iadd, 1) := by decide +kernel
theorem d_La_law_139 : decode c_La_law 139 = .ok (.iaload, 1) := by decide +kernel
theorem d_La_law_140 : decode c_La_law 140 = .ok (.i2l, 1) := by decide +kernel
theorem d_La_law_141 : decode c_La_law 141 = .ok (.ldc2_w 13, 3) := by decide +kernel
theorem d_La_law_144 : decode c_La_law 144 = .ok (.land, 1) := by decide +kernel
theorem d_La_law_145 : decode c_La_law 145 = .ok (.lor, 1) := by decide +kernel
theorem d_La_law_146 : decode c_La_law 146 = .ok (.aload_n 0, 1) := by decide +kernel
theorem d_La_law_147 : decode c_La_law 147 = .ok (.iload_n 3, 1) := by decide +kernel
theorem d_La_law_148 : decode c_La_law 148 = .ok (.iconst 3, 1) := by decide +kernel
theorem d_La_law_149 : decode c_La_law 149 = .ok (.iadd, 1) := by decide +kernel
theorem d_La_law_150 : decode c_La_law 150 = .ok (.iaload, 1) := by decide +kernel
theorem d_La_law_151 : decode c_La_law 151 = .ok (.invokevirtual 19, 3) := by decide +kernel
theorem d_La_law_154 : decode c_La_law 154 = .ok (.if_icmp .eq 234, 3) := by decide +kernel
theorem d_La_law_157 : decode c_La_law 157 = .ok (.iconst 0, 1) := by decide +kernel
theorem d_La_law_158 : decode c_La_law 158 = .ok (.ireturn, 1) := by decide +kernel
theorem d_La_law_159 : decode c_La_law 159 = .ok (.aload_n 1, 1) := by decide +kernel
theorem d_La_law_160 : decode c_La_law 160 = .ok (.aload_n 0, 1) := by decide +kernel
theorem d_La_law_161 : decode c_La_law 161 = .ok (.iload_n 3, 1) := by decide +kernel
theorem d_La_law_162 : decode c_La_law 162 = .ok (.iconst 1, 1) := by decide +kernel
theorem d_La_law_163 : decode c_La_law 163 = .ok (.iadd, 1) := by decide +kernel
theorem d_La_law_164 : decode c_La_law 164 = .ok (.iaload, 1) := by decide +kernel
theorem d_La_law_165 : decode c_La_law 165 = .ok (.aload_n 0, 1) := by decide +kernel
theorem d_La_law_166 : decode c_La_law 166 = .ok (.iload_n 3, 1) := by decide +kernel
theorem d_La_law_167 : decode c_La_law 167 = .ok (.iconst 2, 1) := by decide +kernel
theorem d_La_law_168 : decode c_La_law 168 = .ok (.iadd, 1) := by decide +kernel
theorem d_La_law_169 : decode c_La_law 169 = .ok (.iaload, 1) := by decide +kernel
theorem d_La_law_170 : decode c_La_law 170 = .ok (.invokevirtual 20, 3) := by decide +kernel
theorem d_La_law_173 : decode c_La_law 173 = .ok (.aload_n 2, 1) := by decide +kernel
theorem d_La_law_174 : decode c_La_law 174 = .ok (.aload_n 0, 1) := by decide +kernel
theorem d_La_law_175 : decode c_La_law 175 = .ok (.iload_n 3, 1) := by decide +kernel
theorem d_La_law_176 : decode c_La_law 176 = .ok (.iconst 1, 1) := by decide +kernel
theorem d_La_law_177 : decode c_La_law 177 = .ok (.iadd, 1) := by decide +kernel
theorem d_La_law_178 : decode c_La_law 178 = .ok (.iaload, 1) := by decide +kernel
theorem d_La_law_179 : decode c_La_law 179 = .ok (.aload_n 0, 1) := by decide +kernel
theorem d_La_law_180 : decode c_La_law 180 = .ok (.iload_n 3, 1) := by decide +kernel
theorem d_La_law_181 : decode c_La_law 181 = .ok (.iconst 2, 1) := by decide +kernel
theorem d_La_law_182 : decode c_La_law 182 = .ok (.iadd, 1) := by decide +kernel
theorem d_La_law_183 : decode c_La_law 183 = .ok (.iaload, 1) := by decide +kernel
theorem d_La_law_184 : decode c_La_law 184 = .ok (.invokevirtual 24, 3) := by decide +kernel
theorem d_La_law_187 : decode c_La_law 187 = .ok (.if_icmp .eq 201, 3) := by decide +kernel
theorem d_La_law_190 : decode c_La_law 190 = .ok (.iconst 0, 1) := by decide +kernel
theorem d_La_law_191 : decode c_La_law 191 = .ok (.ireturn, 1) := by decide +kernel
theorem d_La_law_192 : decode c_La_law 192 = .ok (.aload_n 1, 1) := by decide +kernel
theorem d_La_law_193 : decode c_La_law 193 = .ok (.invokevirtual 25, 3) := by decide +kernel
theorem d_La_law_196 : decode c_La_law 196 = .ok (.aload_n 2, 1) := by decide +kernel
theorem d_La_law_197 : decode c_La_law 197 = .ok (.invokevirtual 28, 3) := by decide +kernel
theorem d_La_law_200 : decode c_La_law 200 = .ok (.goto 188, 3) := by decide +kernel
theorem d_La_law_203 : decode c_La_law 203 = .ok (.aload_n 1, 1) := by decide +kernel
theorem d_La_law_204 : decode c_La_law 204 = .ok (.invokevirtual 29, 3) := by decide +kernel
theorem d_La_law_207 : decode c_La_law 207 = .ok (.aload_n 2, 1) := by decide +kernel
theorem d_La_law_208 : decode c_La_law 208 = .ok (.invokevirtual 32, 3) := by decide +kernel
theorem d_La_law_211 : decode c_La_law 211 = .ok (.goto 177, 3) := by decide +kernel
theorem d_La_law_214 : decode c_La_law 214 = .ok (.aload_n 1, 1) := by decide +kernel
theorem d_La_law_215 : decode c_La_law 215 = .ok (.aload_n 0, 1) := by decide +kernel
theorem d_La_law_216 : decode c_La_law 216 = .ok (.iload_n 3, 1) := by decide +kernel
theorem d_La_law_217 : decode c_La_law 217 = .ok (.iconst 1, 1) := by decide +kernel
theorem d_La_law_218 : decode c_La_law 218 = .ok (.iadd, 1) := by decide +kernel
theorem d_La_law_219 : decode c_La_law 219 = .ok (.iaload, 1) := by decide +kernel
theorem d_La_law_220 : decode c_La_law 220 = .ok (.invokevirtual 33, 3) := by decide +kernel
theorem d_La_law_223 : decode c_La_law 223 = .ok (.aload_n 2, 1) := by decide +kernel
theorem d_La_law_224 : decode c_La_law 224 = .ok (.aload_n 0, 1) := by decide +kernel
theorem d_La_law_225 : decode c_La_law 225 = .ok (.iload_n 3, 1) := by decide +kernel
theorem d_La_law_226 : decode c_La_law 226 = .ok (.iconst 1, 1) := by decide +kernel
theorem d_La_law_227 : decode c_La_law 227 = .ok (.iadd, 1) := by decide +kernel
theorem d_La_law_228 : decode c_La_law 228 = .ok (.iaload, 1) := by decide +kernel
theorem d_La_law_229 : decode c_La_law 229 = .ok (.invokevirtual 37, 3) := by decide +kernel
theorem d_La_law_232 : decode c_La_law 232 = .ok (.if_icmp .eq 156, 3) := by decide +kernel
theorem d_La_law_235 : decode c_La_law 235 = .ok (.iconst 0, 1) := by decide +kernel
theorem d_La_law_236 : decode c_La_law 236 = .ok (.ireturn, 1) := by decide +kernel
theorem d_La_law_237 : decode c_La_law 237 = .ok (.aload_n 1, 1) := by decide +kernel
theorem d_La_law_238 : decode c_La_law 238 = .ok (.aload_n 0, 1) := by decide +kernel
theorem d_La_law_239 : decode c_La_law 239 = .ok (.iload_n 3, 1) := by decide +kernel
theorem d_La_law_240 : decode c_La_law 240 = .ok (.iconst 1, 1) := by decide +kernel
theorem d_La_law_241 : decode c_La_law 241 = .ok (.iadd, 1) := by decide +kernel
theorem d_La_law_242 : decode c_La_law 242 = .ok (.iaload, 1) := by decide +kernel
theorem d_La_law_243 : decode c_La_law 243 = .ok (.invokevirtual 38, 3) := by decide +kernel
theorem d_La_law_246 : decode c_La_law 246 = .ok (.aload_n 2, 1) := by decide +kernel
theorem d_La_law_247 : decode c_La_law 247 = .ok (.aload_n 0, 1) := by decide +kernel
theorem d_La_law_248 : decode c_La_law 248 = .ok (.iload_n 3, 1) := by decide +kernel
theorem d_La_law_249 : decode c_La_law 249 = .ok (.iconst 1, 1) := by decide +kernel
theorem d_La_law_250 : decode c_La_law 250 = .ok (.iadd, 1) := by decide +kernel
theorem d_La_law_251 : decode c_La_law 251 = .ok (.iaload, 1) := by decide +kernel
theorem d_La_law_252 : decode c_La_law 252 = .ok (.invokevirtual 41, 3) := by decide +kernel
theorem d_La_law_255 : decode c_La_law 255 = .ok (.if_icmp .eq 133, 3) := by decide +kernel
theorem d_La_law_258 : decode c_La_law 258 = .ok (.iconst 0, 1) := by decide +kernel
theorem d_La_law_259 : decode c_La_law 259 = .ok (.ireturn, 1) := by decide +kernel
theorem d_La_law_260 : decode c_La_law 260 = .ok (.aload_n 1, 1) := by decide +kernel
theorem d_La_law_261 : decode c_La_law 261 = .ok (.aload_n 0, 1) := by decide +kernel
theorem d_La_law_262 : decode c_La_law 262 = .ok (.iload_n 3, 1) := by decide +kernel
theorem d_La_law_263 : decode c_La_law 263 = .ok (.iconst 1, 1) := by decide +kernel
theorem d_La_law_264 : decode c_La_law 264 = .ok (.iadd, 1) := by decide +kernel
theorem d_La_law_265 : decode c_La_law 265 = .ok (.iaload, 1) := by decide +kernel
theorem d_La_law_266 : decode c_La_law 266 = .ok (.aload_n 0, 1) := by decide +kernel
theorem d_La_law_267 : decode c_La_law 267 = .ok (.iload_n 3, 1) := by decide +kernel
theorem d_La_law_268 : decode c_La_law 268 = .ok (.iconst 2, 1) := by decide +kernel
theorem d_La_law_269 : decode c_La_law 269 = .ok (.iadd, 1) := by decide +kernel
theorem d_La_law_270 : decode c_La_law 270 = .ok (.iaload, 1) := by decide +kernel
theorem d_La_law_271 : decode c_La_law 271 = .ok (.aload_n 0, 1) := by decide +kernel
theorem d_La_law_272 : decode c_La_law 272 = .ok (.iload_n 3, 1) := by decide +kernel
theorem d_La_law_273 : decode c_La_law 273 = .ok (.iconst 3, 1) := by decide +kernel
theorem d_La_law_274 : decode c_La_law 274 = .ok (.iadd, 1) := by decide +kernel
theorem d_La_law_275 : decode c_La_law 275 = .ok (.iaload, 1) := by decide +kernel
theorem d_La_law_276 : decode c_La_law 276 = .ok (.invokevirtual 42, 3) := by decide +kernel
theorem d_La_law_279 : decode c_La_law 279 = .ok (.aload_n 2, 1) := by decide +kernel
theorem d_La_law_280 : decode c_La_law 280 = .ok (.aload_n 0, 1) := by decide +kernel
theorem d_La_law_281 : decode c_La_law 281 = .ok (.iload_n 3, 1) := by decide +kernel
theorem d_La_law_282 : decode c_La_law 282 = .ok (.iconst 1, 1) := by decide +kernel
theorem d_La_law_283 : decode c_La_law 283 = .ok (.iadd, 1) := by decide +kernel
theorem d_La_law_284 : decode c_La_law 284 = .ok (.iaload, 1) := by decide +kernel
theorem d_La_law_285 : decode c_La_law 285 = .ok (.aload_n 0, 1) := by decide +kernel
theorem d_La_law_286 : decode c_La_law 286 = .ok (.iload_n 3, 1) := by decide +kernel
theorem d_La_law_287 : decode c_La_law 287 = .ok (.iconst 2, 1) := by decide +kernel
theorem d_La_law_288 : decode c_La_law 288 = .ok (.iadd, 1) := by decide +kernel
theorem d_La_law_289 : decode c_La_law 289 = .ok (.iaload, 1) := by decide +kernel
theorem d_La_law_290 : decode c_La_law 290 = .ok (.aload_n 0, 1) := by decide +kernel
theorem d_La_law_291 : decode c_La_law 291 = .ok (.iload_n 3, 1) := by decide +kernel
theorem d_La_law_292 : decode c_La_law 292 = .ok (.iconst 3, 1) := by decide +kernel
theorem d_La_law_293 : decode c_La_law 293 = .ok (.iadd, 1) := by decide +kernel
theorem d_La_law_294 : decode c_La_law 294 = .ok (.iaload, 1) := by decide +kernel
theorem d_La_law_295 : decode c_La_law 295 = .ok (.invokevirtual 46, 3) := by decide +kernel
theorem d_La_law_298 : decode c_La_law 298 = .ok (.if_icmp .eq 90, 3) := by decide +kernel
theorem d_La_law_301 : decode c_La_law 301 = .ok (.iconst 0, 1) := by decide +kernel
theorem d_La_law_302 : decode c_La_law 302 = .ok (.ireturn, 1) := by decide +kernel
theorem d_La_law_303 : decode c_La_law 303 = .ok (.aload_n 1, 1) := by decide +kernel
theorem d_La_law_304 : decode c_La_law 304 = .ok (.aload_n 0, 1) := by decide +kernel
theorem d_La_law_305 : decode c_La_law 305 = .ok (.iload_n 3, 1) := by decide +kernel
theorem d_La_law_306 : decode c_La_law 306 = .ok (.iconst 1, 1) := by decide +kernel
theorem d_La_law_307 : decode c_La_law 307 = .ok (.iadd, 1) := by decide +kernel
theorem d_La_law_308 : decode c_La_law 308 = .ok (.iaload, 1) := by decide +kernel
theorem d_La_law_309 : decode c_La_law 309 = .ok (.invokevirtual 47, 3) := by decide +kernel
theorem d_La_law_312 : decode c_La_law 312 = .ok (.aload_n 2, 1) := by decide +kernel
theorem d_La_law_313 : decode c_La_law 313 = .ok (.aload_n 0, 1) := by decide +kernel
theorem d_La_law_314 : decode c_La_law 314 = .ok (.iload_n 3, 1) := by decide +kernel
theorem d_La_law_315 : decode c_La_law 315 = .ok (.iconst 1, 1) := by decide +kernel
theorem d_La_law_316 : decode c_La_law 316 = .ok (.iadd, 1) := by decide +kernel
theorem d_La_law_317 : decode c_La_law 317 = .ok (.iaload, 1) := by decide +kernel
theorem d_La_law_318 : decode c_La_law 318 = .ok (.invokevirtual 50, 3) := by decide +kernel
theorem d_La_law_321 : decode c_La_law 321 = .ok (.if_icmp .eq 67, 3) := by decide +kernel
theorem d_La_law_324 : decode c_La_law 324 = .ok (.iconst 0, 1) := by decide +kernel
theorem d_La_law_325 : decode c_La_law 325 = .ok (.ireturn, 1) := by decide +kernel
theorem d_La_law_326 : decode c_La_law 326 = .ok (.aload_n 1, 1) := by decide +kernel
theorem d_La_law_327 : decode c_La_law 327 = .ok (.invokevirtual 51, 3) := by decide +kernel
theorem d_La_law_330 : decode c_La_law 330 = .ok (.aload_n 2, 1) := by decide +kernel
theorem d_La_law_331 : decode c_La_law 331 = .ok (.invokevirtual 55, 3) := by decide +kernel
theorem d_La_law_334 : decode c_La_law 334 = .ok (.if_icmp .eq 54, 3) := by decide +kernel
theorem d_La_law_337 : decode c_La_law 337 = .ok (.iconst 0, 1) := by decide +kernel
theorem d_La_law_338 : decode c_La_law 338 = .ok (.ireturn, 1) := by decide +kernel
theorem d_La_law_339 : decode c_La_law 339 = .ok (.aload_n 1, 1) := by decide +kernel
theorem d_La_law_340 : decode c_La_law 340 = .ok (.invokevirtual 56, 3) := by decide +kernel
theorem d_La_law_343 : decode c_La_law 343 = .ok (.aload_n 2, 1) := by decide +kernel
theorem d_La_law_344 : decode c_La_law 344 = .ok (.invokevirtual 59, 3) := by decide +kernel
theorem d_La_law_347 : decode c_La_law 347 = .ok (.if_icmp .eq 41, 3) := by decide +kernel
theorem d_La_law_350 : decode c_La_law 350 = .ok (.iconst 0, 1) := by decide +kernel
theorem d_La_law_351 : decode c_La_law 351 = .ok (.ireturn, 1) := by decide +kernel
theorem d_La_law_352 : decode c_La_law 352 = .ok (.aload_n 1, 1) := by decide +kernel
theorem d_La_law_353 : decode c_La_law 353 = .ok (.invokevirtual 60, 3) := by decide +kernel
theorem d_La_law_356 : decode c_La_law 356 = .ok (.aload_n 2, 1) := by decide +kernel
theorem d_La_law_357 : decode c_La_law 357 = .ok (.invokevirtual 63, 3) := by decide +kernel
theorem d_La_law_360 : decode c_La_law 360 = .ok (.if_icmp .eq 28, 3) := by decide +kernel
theorem d_La_law_363 : decode c_La_law 363 = .ok (.iconst 0, 1) := by decide +kernel
theorem d_La_law_364 : decode c_La_law 364 = .ok (.ireturn, 1) := by decide +kernel
theorem d_La_law_365 : decode c_La_law 365 = .ok (.aload_n 1, 1) := by decide +kernel
theorem d_La_law_366 : decode c_La_law 366 = .ok (.aload_n 0, 1) := by decide +kernel
theorem d_La_law_367 : decode c_La_law 367 = .ok (.iload_n 3, 1) := by decide +kernel
theorem d_La_law_368 : decode c_La_law 368 = .ok (.iconst 1, 1) := by decide +kernel
theorem d_La_law_369 : decode c_La_law 369 = .ok (.iadd, 1) := by decide +kernel
theorem d_La_law_370 : decode c_La_law 370 = .ok (.iaload, 1) := by decide +kernel
theorem d_La_law_371 : decode c_La_law 371 = .ok (.invokevirtual 64, 3) := by decide +kernel
theorem d_La_law_374 : decode c_La_law 374 = .ok (.aload_n 2, 1) := by decide +kernel
theorem d_La_law_375 : decode c_La_law 375 = .ok (.aload_n 0, 1) := by decide +kernel
theorem d_La_law_376 : decode c_La_law 376 = .ok (.iload_n 3, 1) := by decide +kernel
theorem d_La_law_377 : decode c_La_law 377 = .ok (.iconst 1, 1) := by decide +kernel
theorem d_La_law_378 : decode c_La_law 378 = .ok (.iadd, 1) := by decide +kernel
theorem d_La_law_379 : decode c_La_law 379 = .ok (.iaload, 1) := by decide +kernel
theorem d_La_law_380 : decode c_La_law 380 = .ok (.invokevirtual 67, 3) := by decide +kernel
theorem d_La_law_383 : decode c_La_law 383 = .ok (.if_icmp .eq 5, 3) := by decide +kernel
theorem d_La_law_386 : decode c_La_law 386 = .ok (.iconst 0, 1) := by decide +kernel
theorem d_La_law_387 : decode c_La_law 387 = .ok (.ireturn, 1) := by decide +kernel
theorem d_La_law_388 : decode c_La_law 388 = .ok (.iinc 3 4, 3) := by decide +kernel
theorem d_La_law_391 : decode c_La_law 391 = .ok (.goto (-373), 3) := by decide +kernel
theorem d_La_law_394 : decode c_La_law 394 = .ok (.iconst 1, 1) := by decide +kernel
theorem d_La_law_395 : decode c_La_law 395 = .ok (.ireturn, 1) := by decide +kernel
