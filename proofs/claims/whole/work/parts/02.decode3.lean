theorem d_Mo_beginReading_0 : decode c_Mo_beginReading 0 = .ok (.aload_n 0, 1) := by decide +kernel
theorem d_Mo_beginReading_1 : decode c_Mo_beginReading 1 = .ok (.iconst 0, 1) := by decide +kernel
theorem d_Mo_beginReading_2 : decode c_Mo_beginReading 2 = .ok (.putfield 107, 3) := by decide +kernel
theorem d_Mo_beginReading_5 : decode c_Mo_beginReading 5 = .ok (.aload_n 0, 1) := by decide +kernel
theorem d_Mo_beginReading_6 : decode c_Mo_beginReading 6 = .ok (.aload_n 0, 1) := by decide +kernel
theorem d_Mo_beginReading_7 : decode c_Mo_beginReading 7 = .ok (.getfield 26, 3) := by decide +kernel
theorem d_Mo_beginReading_10 : decode c_Mo_beginReading 10 = .ok (.putfield 110, 3) := by decide +kernel
theorem d_Mo_beginReading_13 : decode c_Mo_beginReading 13 = .ok (.aload_n 0, 1) := by decide +kernel
theorem d_Mo_beginReading_14 : decode c_Mo_beginReading 14 = .ok (.iconst 0, 1) := by decide +kernel
theorem d_Mo_beginReading_15 : decode c_Mo_beginReading 15 = .ok (.putfield 99, 3) := by decide +kernel
theorem d_Mo_beginReading_18 : decode c_Mo_beginReading 18 = .ok (.aload_n 0, 1) := by decide +kernel
theorem d_Mo_beginReading_19 : decode c_Mo_beginReading 19 = .ok (.iconst 0, 1) := by decide +kernel
theorem d_Mo_beginReading_20 : decode c_Mo_beginReading 20 = .ok (.putfield 35, 3) := by decide +kernel
theorem d_Mo_beginReading_23 : decode c_Mo_beginReading 23 = .ok (.return_, 1) := by decide +kernel
theorem d_Mo_endReading_0 : decode c_Mo_endReading 0 = .ok (.aload_n 0, 1) := by decide +kernel
theorem d_Mo_endReading_1 : decode c_Mo_endReading 1 = .ok (.aload_n 0, 1) := by decide +kernel
theorem d_Mo_endReading_2 : decode c_Mo_endReading 2 = .ok (.getfield 99, 3) := by decide +kernel
theorem d_Mo_endReading_5 : decode c_Mo_endReading 5 = .ok (.ifCond .ne 10, 3) := by decide +kernel
theorem d_Mo_endReading_8 : decode c_Mo_endReading 8 = .ok (.aload_n 0, 1) := by decide +kernel
theorem d_Mo_endReading_9 : decode c_Mo_endReading 9 = .ok (.getfield 26, 3) := by decide +kernel
theorem d_Mo_endReading_12 : decode c_Mo_endReading 12 = .ok (.goto 7, 3) := by decide +kernel
theorem d_Mo_endReading_15 : decode c_Mo_endReading 15 = .ok (.aload_n 0, 1) := by decide +kernel
theorem d_Mo_endReading_16 : decode c_Mo_endReading 16 = .ok (.getfield 102, 3) := by decide +kernel
theorem d_Mo_endReading_19 : decode c_Mo_endReading 19 = .ok (.putfield 146, 3) := by decide +kernel
theorem d_Mo_endReading_22 : decode c_Mo_endReading 22 = .ok (.aload_n 0, 1) := by decide +kernel
theorem d_Mo_endReading_23 : decode c_Mo_endReading 23 = .ok (.getfield 99, 3) := by decide +kernel
theorem d_Mo_endReading_26 : decode c_Mo_endReading 26 = .ok (.ifCond .ne 10, 3) := by decide +kernel
theorem d_Mo_endReading_29 : decode c_Mo_endReading 29 = .ok (.aload_n 0, 1) := by decide +kernel
theorem d_Mo_endReading_30 : decode c_Mo_endReading 30 = .ok (.invokevirtual 95, 3) := by decide +kernel
theorem d_Mo_endReading_33 : decode c_Mo_endReading 33 = .ok (.goto 8, 3) := by decide +kernel
theorem d_Mo_endReading_36 : decode c_Mo_endReading 36 = .ok (.aload_n 0, 1) := by decide +kernel
theorem d_Mo_endReading_37 : decode c_Mo_endReading 37 = .ok (.getfield 99, 3) := by decide +kernel
theorem d_Mo_endReading_40 : decode c_Mo_endReading 40 = .ok (.ineg, 1) := by decide +kernel
theorem d_Mo_endReading_41 : decode c_Mo_endReading 41 = .ok (.ireturn, 1) := by decide +kernel
theorem d_Mo_unpack_0 : decode c_Mo_unpack 0 = .ok (.iload_n 1, 1) := by decide +kernel
theorem d_Mo_unpack_1 : decode c_Mo_unpack 1 = .ok (.ifCond .lt 10, 3) := by decide +kernel
theorem d_Mo_unpack_4 : decode c_Mo_unpack 4 = .ok (.iload_n 1, 1) := by decide +kernel
theorem d_Mo_unpack_5 : decode c_Mo_unpack 5 = .ok (.sipush 10000, 3) := by decide +kernel
theorem d_Mo_unpack_8 : decode c_Mo_unpack 8 = .ok (.if_icmp .le 6, 3) := by decide +kernel
theorem d_Mo_unpack_11 : decode c_Mo_unpack 11 = .ok (.bipush (-20), 2) := by decide +kernel
theorem d_Mo_unpack_13 : decode c_Mo_unpack 13 = .ok (.ireturn, 1) := by decide +kernel
theorem d_Mo_unpack_14 : decode c_Mo_unpack 14 = .ok (.aload_n 0, 1) := by decide +kernel
theorem d_Mo_unpack_15 : decode c_Mo_unpack 15 = .ok (.invokevirtual 149, 3) := by decide +kernel
theorem d_Mo_unpack_18 : decode c_Mo_unpack 18 = .ok (.aload_n 0, 1) := by decide +kernel
theorem d_Mo_unpack_19 : decode c_Mo_unpack 19 = .ok (.iload_n 1, 1) := by decide +kernel
theorem d_Mo_unpack_20 : decode c_Mo_unpack 20 = .ok (.invokevirtual 152, 3) := by decide +kernel
theorem d_Mo_unpack_23 : decode c_Mo_unpack 23 = .ok (.aload_n 0, 1) := by decide +kernel
theorem d_Mo_unpack_24 : decode c_Mo_unpack 24 = .ok (.invokevirtual 155, 3) := by decide +kernel
theorem d_Mo_unpack_27 : decode c_Mo_unpack 27 = .ok (.ireturn, 1) := by decide +kernel
theorem d_Mo_sumOf_0 : decode c_Mo_sumOf 0 = .ok (.iconst (-1), 1) := by decide +kernel
theorem d_Mo_sumOf_1 : decode c_Mo_sumOf 1 = .ok (.istore_n 3, 1) := by decide +kernel
theorem d_Mo_sumOf_2 : decode c_Mo_sumOf 2 = .ok (.iload_n 1, 1) := by decide +kernel
theorem d_Mo_sumOf_3 : decode c_Mo_sumOf 3 = .ok (.istore 4, 2) := by decide +kernel
theorem d_Mo_sumOf_5 : decode c_Mo_sumOf 5 = .ok (.iload 4, 2) := by decide +kernel
theorem d_Mo_sumOf_7 : decode c_Mo_sumOf 7 = .ok (.iload_n 2, 1) := by decide +kernel
theorem d_Mo_sumOf_8 : decode c_Mo_sumOf 8 = .ok (.if_icmp .ge 60, 3) := by decide +kernel
theorem d_Mo_sumOf_11 : decode c_Mo_sumOf 11 = .ok (.iconst 0, 1) := by decide +kernel
theorem d_Mo_sumOf_12 : decode c_Mo_sumOf 12 = .ok (.istore 5, 2) := by decide +kernel
theorem d_Mo_sumOf_14 : decode c_Mo_sumOf 14 = .ok (.iload 5, 2) := by decide +kernel
theorem d_Mo_sumOf_16 : decode c_Mo_sumOf 16 = .ok (.bipush 8, 2) := by decide +kernel
theorem d_Mo_sumOf_18 : decode c_Mo_sumOf 18 = .ok (.if_icmp .ge 44, 3) := by decide +kernel
theorem d_Mo_sumOf_21 : decode c_Mo_sumOf 21 = .ok (.iload_n 3, 1) := by decide +kernel
theorem d_Mo_sumOf_22 : decode c_Mo_sumOf 22 = .ok (.aload_n 0, 1) := by decide +kernel
theorem d_Mo_sumOf_23 : decode c_Mo_sumOf 23 = .ok (.iload 4, 2) := by decide +kernel
theorem d_Mo_sumOf_25 : decode c_Mo_sumOf 25 = .ok (.baload, 1) := by decide +kernel
theorem d_Mo_sumOf_26 : decode c_Mo_sumOf 26 = .ok (.iload 5, 2) := by decide +kernel
theorem d_Mo_sumOf_28 : decode c_Mo_sumOf 28 = .ok (.ishr, 1) := by decide +kernel
theorem d_Mo_sumOf_29 : decode c_Mo_sumOf 29 = .ok (.ixor, 1) := by decide +kernel
theorem d_Mo_sumOf_30 : decode c_Mo_sumOf 30 = .ok (.iconst 1, 1) := by decide +kernel
theorem d_Mo_sumOf_31 : decode c_Mo_sumOf 31 = .ok (.iand, 1) := by decide +kernel
theorem d_Mo_sumOf_32 : decode c_Mo_sumOf 32 = .ok (.ifCond .eq 7, 3) := by decide +kernel
theorem d_Mo_sumOf_35 : decode c_Mo_sumOf 35 = .ok (.iconst 1, 1) := by decide +kernel
theorem d_Mo_sumOf_36 : decode c_Mo_sumOf 36 = .ok (.goto 4, 3) := by decide +kernel
theorem d_Mo_sumOf_39 : decode c_Mo_sumOf 39 = .ok (.iconst 0, 1) := by decide +kernel
theorem d_Mo_sumOf_40 : decode c_Mo_sumOf 40 = .ok (.istore 6, 2) := by decide +kernel
theorem d_Mo_sumOf_42 : decode c_Mo_sumOf 42 = .ok (.iload_n 3, 1) := by decide +kernel
theorem d_Mo_sumOf_43 : decode c_Mo_sumOf 43 = .ok (.iconst 1, 1) := by decide +kernel
theorem d_Mo_sumOf_44 : decode c_Mo_sumOf 44 = .ok (.iushr, 1) := by decide +kernel
theorem d_Mo_sumOf_45 : decode c_Mo_sumOf 45 = .ok (.istore_n 3, 1) := by decide +kernel
theorem d_Mo_sumOf_46 : decode c_Mo_sumOf 46 = .ok (.iload 6, 2) := by decide +kernel
theorem d_Mo_sumOf_48 : decode c_Mo_sumOf 48 = .ok (.ifCond .eq 8, 3) := by decide +kernel
theorem d_Mo_sumOf_51 : decode c_Mo_sumOf 51 = .ok (.iload_n 3, 1) := by decide +kernel
theorem d_Mo_sumOf_52 : decode c_Mo_sumOf 52 = .ok (.ldc 158, 2) := by decide +kernel
theorem d_Mo_sumOf_54 : decode c_Mo_sumOf 54 = .ok (.ixor, 1) := by decide +kernel
theorem d_Mo_sumOf_55 : decode c_Mo_sumOf 55 = .ok (.istore_n 3, 1) := by decide +kernel
theorem d_Mo_sumOf_56 : decode c_Mo_sumOf 56 = .ok (.iinc 5 1, 3) := by decide +kernel
theorem d_Mo_sumOf_59 : decode c_Mo_sumOf 59 = .ok (.goto (-45), 3) := by decide +kernel
theorem d_Mo_sumOf_62 : decode c_Mo_sumOf 62 = .ok (.iinc 4 1, 3) := by decide +kernel
theorem d_Mo_sumOf_65 : decode c_Mo_sumOf 65 = .ok (.goto (-60), 3) := by decide +kernel
theorem d_Mo_sumOf_68 : decode c_Mo_sumOf 68 = .ok (.iload_n 3, 1) := by decide +kernel
theorem d_Mo_sumOf_69 : decode c_Mo_sumOf 69 = .ok (.iconst (-1), 1) := by decide +kernel
theorem d_Mo_sumOf_70 : decode c_Mo_sumOf 70 = .ok (.ixor, 1) := by decide +kernel
theorem d_Mo_sumOf_71 : decode c_Mo_sumOf 71 = .ok (.istore_n 3, 1) := by decide +kernel
theorem d_Mo_sumOf_72 : decode c_Mo_sumOf 72 = .ok (.iload_n 3, 1) := by decide +kernel
theorem d_Mo_sumOf_73 : decode c_Mo_sumOf 73 = .ok (.bipush 17, 2) := by decide +kernel
theorem d_Mo_sumOf_75 : decode c_Mo_sumOf 75 = .ok (.ishl, 1) := by decide +kernel
theorem d_Mo_sumOf_76 : decode c_Mo_sumOf 76 = .ok (.iload_n 3, 1) := by decide +kernel
theorem d_Mo_sumOf_77 : decode c_Mo_sumOf 77 = .ok (.bipush 15, 2) := by decide +kernel
theorem d_Mo_sumOf_79 : decode c_Mo_sumOf 79 = .ok (.iushr, 1) := by decide +kernel
theorem d_Mo_sumOf_80 : decode c_Mo_sumOf 80 = .ok (.ior, 1) := by decide +kernel
theorem d_Mo_sumOf_81 : decode c_Mo_sumOf 81 = .ok (.ldc 159, 2) := by decide +kernel
theorem d_Mo_sumOf_83 : decode c_Mo_sumOf 83 = .ok (.iadd, 1) := by decide +kernel
theorem d_Mo_sumOf_84 : decode c_Mo_sumOf 84 = .ok (.ireturn, 1) := by decide +kernel
theorem d_Mo_mark_0 : decode c_Mo_mark 0 = .ok (.iload_n 0, 1) := by decide +kernel
theorem d_Mo_mark_1 : decode c_Mo_mark 1 = .ok (.ifCond .ne 8, 3) := by decide +kernel
theorem d_Mo_mark_4 : decode c_Mo_mark 4 = .ok (.bipush 115, 2) := by decide +kernel
theorem d_Mo_mark_6 : decode c_Mo_mark 6 = .ok (.goto 45, 3) := by decide +kernel
theorem d_Mo_mark_9 : decode c_Mo_mark 9 = .ok (.iload_n 0, 1) := by decide +kernel
theorem d_Mo_mark_10 : decode c_Mo_mark 10 = .ok (.iconst 1, 1) := by decide +kernel
theorem d_Mo_mark_11 : decode c_Mo_mark 11 = .ok (.if_icmp .ne 8, 3) := by decide +kernel
theorem d_Mo_mark_14 : decode c_Mo_mark 14 = .ok (.bipush 78, 2) := by decide +kernel
theorem d_Mo_mark_16 : decode c_Mo_mark 16 = .ok (.goto 35, 3) := by decide +kernel
theorem d_Mo_mark_19 : decode c_Mo_mark 19 = .ok (.iload_n 0, 1) := by decide +kernel
theorem d_Mo_mark_20 : decode c_Mo_mark 20 = .ok (.iconst 2, 1) := by decide +kernel
theorem d_Mo_mark_21 : decode c_Mo_mark 21 = .ok (.if_icmp .ne 8, 3) := by decide +kernel
theorem d_Mo_mark_24 : decode c_Mo_mark 24 = .ok (.bipush 97, 2) := by decide +kernel
theorem d_Mo_mark_26 : decode c_Mo_mark 26 = .ok (.goto 25, 3) := by decide +kernel
theorem d_Mo_mark_29 : decode c_Mo_mark 29 = .ok (.iload_n 0, 1) := by decide +kernel
theorem d_Mo_mark_30 : decode c_Mo_mark 30 = .ok (.iconst 3, 1) := by decide +kernel
theorem d_Mo_mark_31 : decode c_Mo_mark 31 = .ok (.if_icmp .ne 8, 3) := by decide +kernel
theorem d_Mo_mark_34 : decode c_Mo_mark 34 = .ok (.bipush 80, 2) := by decide +kernel
theorem d_Mo_mark_36 : decode c_Mo_mark 36 = .ok (.goto 15, 3) := by decide +kernel
theorem d_Mo_mark_39 : decode c_Mo_mark 39 = .ok (.iload_n 0, 1) := by decide +kernel
theorem d_Mo_mark_40 : decode c_Mo_mark 40 = .ok (.iconst 4, 1) := by decide +kernel
theorem d_Mo_mark_41 : decode c_Mo_mark 41 = .ok (.if_icmp .ne 8, 3) := by decide +kernel
theorem d_Mo_mark_44 : decode c_Mo_mark 44 = .ok (.bipush 112, 2) := by decide +kernel
theorem d_Mo_mark_46 : decode c_Mo_mark 46 = .ok (.goto 5, 3) := by decide +kernel
theorem d_Mo_mark_49 : decode c_Mo_mark 49 = .ok (.bipush 89, 2) := by decide +kernel
theorem d_Mo_mark_51 : decode c_Mo_mark 51 = .ok (.ireturn, 1) := by decide +kernel
theorem d_Mo_putRow_0 : decode c_Mo_putRow 0 = .ok (.aload_n 0, 1) := by decide +kernel
theorem d_Mo_putRow_1 : decode c_Mo_putRow 1 = .ok (.getfield 35, 3) := by decide +kernel
theorem d_Mo_putRow_4 : decode c_Mo_putRow 4 = .ok (.istore 4, 2) := by decide +kernel
theorem d_Mo_putRow_6 : decode c_Mo_putRow 6 = .ok (.aload_n 0, 1) := by decide +kernel
theorem d_Mo_putRow_7 : decode c_Mo_putRow 7 = .ok (.iconst 0, 1) := by decide +kernel
theorem d_Mo_putRow_8 : decode c_Mo_putRow 8 = .ok (.iconst 4, 1) := by decide +kernel
theorem d_Mo_putRow_9 : decode c_Mo_putRow 9 = .ok (.invokevirtual 78, 3) := by decide +kernel
theorem d_Mo_putRow_12 : decode c_Mo_putRow 12 = .ok (.aload_n 0, 1) := by decide +kernel
theorem d_Mo_putRow_13 : decode c_Mo_putRow 13 = .ok (.aload_n 0, 1) := by decide +kernel
theorem d_Mo_putRow_14 : decode c_Mo_putRow 14 = .ok (.getfield 7, 3) := by decide +kernel
theorem d_Mo_putRow_17 : decode c_Mo_putRow 17 = .ok (.iload_n 1, 1) := by decide +kernel
theorem d_Mo_putRow_18 : decode c_Mo_putRow 18 = .ok (.iload_n 2, 1) := by decide +kernel
theorem d_Mo_putRow_19 : decode c_Mo_putRow 19 = .ok (.invokestatic 160, 3) := by decide +kernel
theorem d_Mo_putRow_22 : decode c_Mo_putRow 22 = .ok (.iconst 4, 1) := by decide +kernel
theorem d_Mo_putRow_23 : decode c_Mo_putRow 23 = .ok (.invokevirtual 78, 3) := by decide +kernel
theorem d_Mo_putRow_26 : decode c_Mo_putRow 26 = .ok (.aload_n 0, 1) := by decide +kernel
theorem d_Mo_putRow_27 : decode c_Mo_putRow 27 = .ok (.iload_n 1, 1) := by decide +kernel
theorem d_Mo_putRow_28 : decode c_Mo_putRow 28 = .ok (.iload_n 2, 1) := by decide +kernel
theorem d_Mo_putRow_29 : decode c_Mo_putRow 29 = .ok (.iload_n 3, 1) := by decide +kernel
theorem d_Mo_putRow_30 : decode c_Mo_putRow 30 = .ok (.invokevirtual 92, 3) := by decide +kernel
theorem d_Mo_putRow_33 : decode c_Mo_putRow 33 = .ok (.aload_n 0, 1) := by decide +kernel
theorem d_Mo_putRow_34 : decode c_Mo_putRow 34 = .ok (.getfield 35, 3) := by decide +kernel
theorem d_Mo_putRow_37 : decode c_Mo_putRow 37 = .ok (.iload 4, 2) := by decide +kernel
theorem d_Mo_putRow_39 : decode c_Mo_putRow 39 = .ok (.isub, 1) := by decide +kernel
theorem d_Mo_putRow_40 : decode c_Mo_putRow 40 = .ok (.iconst 4, 1) := by decide +kernel
theorem d_Mo_putRow_41 : decode c_Mo_putRow 41 = .ok (.isub, 1) := by decide +kernel
theorem d_Mo_putRow_42 : decode c_Mo_putRow 42 = .ok (.istore 5, 2) := by decide +kernel
theorem d_Mo_putRow_44 : decode c_Mo_putRow 44 = .ok (.iconst 0, 1) := by decide +kernel
theorem d_Mo_putRow_45 : decode c_Mo_putRow 45 = .ok (.istore 6, 2) := by decide +kernel
theorem d_Mo_putRow_47 : decode c_Mo_putRow 47 = .ok (.iload 5, 2) := by decide +kernel
theorem d_Mo_putRow_49 : decode c_Mo_putRow 49 = .ok (.iconst 4, 1) := by decide +kernel
theorem d_Mo_putRow_50 : decode c_Mo_putRow 50 = .ok (.isub, 1) := by decide +kernel
theorem d_Mo_putRow_51 : decode c_Mo_putRow 51 = .ok (.iload_n 2, 1) := by decide +kernel
theorem d_Mo_putRow_52 : decode c_Mo_putRow 52 = .ok (.iload_n 1, 1) := by decide +kernel
theorem d_Mo_putRow_53 : decode c_Mo_putRow 53 = .ok (.isub, 1) := by decide +kernel
theorem d_Mo_putRow_54 : decode c_Mo_putRow 54 = .ok (.if_icmp .lt 48, 3) := by decide +kernel
theorem d_Mo_putRow_57 : decode c_Mo_putRow 57 = .ok (.iconst 1, 1) := by decide +kernel
theorem d_Mo_putRow_58 : decode c_Mo_putRow 58 = .ok (.istore 6, 2) := by decide +kernel
theorem d_Mo_putRow_60 : decode c_Mo_putRow 60 = .ok (.iload_n 2, 1) := by decide +kernel
theorem d_Mo_putRow_61 : decode c_Mo_putRow 61 = .ok (.iload_n 1, 1) := by decide +kernel
theorem d_Mo_putRow_62 : decode c_Mo_putRow 62 = .ok (.isub, 1) := by decide +kernel
theorem d_Mo_putRow_63 : decode c_Mo_putRow 63 = .ok (.iconst 4, 1) := by decide +kernel
theorem d_Mo_putRow_64 : decode c_Mo_putRow 64 = .ok (.iadd, 1) := by decide +kernel
theorem d_Mo_putRow_65 : decode c_Mo_putRow 65 = .ok (.istore 5, 2) := by decide +kernel
theorem d_Mo_putRow_67 : decode c_Mo_putRow 67 = .ok (.aload_n 0, 1) := by decide +kernel
theorem d_Mo_putRow_68 : decode c_Mo_putRow 68 = .ok (.iload 4, 2) := by decide +kernel
theorem d_Mo_putRow_70 : decode c_Mo_putRow 70 = .ok (.bipush 8, 2) := by decide +kernel
theorem d_Mo_putRow_72 : decode c_Mo_putRow 72 = .ok (.iadd, 1) := by decide +kernel
theorem d_Mo_putRow_73 : decode c_Mo_putRow 73 = .ok (.putfield 35, 3) := by decide +kernel
theorem d_Mo_putRow_76 : decode c_Mo_putRow 76 = .ok (.iload_n 1, 1) := by decide +kernel
theorem d_Mo_putRow_77 : decode c_Mo_putRow 77 = .ok (.istore 7, 2) := by decide +kernel
theorem d_Mo_putRow_79 : decode c_Mo_putRow 79 = .ok (.iload 7, 2) := by decide +kernel
theorem d_Mo_putRow_81 : decode c_Mo_putRow 81 = .ok (.iload_n 2, 1) := by decide +kernel
theorem d_Mo_putRow_82 : decode c_Mo_putRow 82 = .ok (.if_icmp .ge 20, 3) := by decide +kernel
theorem d_Mo_putRow_85 : decode c_Mo_putRow 85 = .ok (.aload_n 0, 1) := by decide +kernel
theorem d_Mo_putRow_86 : decode c_Mo_putRow 86 = .ok (.aload_n 0, 1) := by decide +kernel
theorem d_Mo_putRow_87 : decode c_Mo_putRow 87 = .ok (.getfield 7, 3) := by decide +kernel
theorem d_Mo_putRow_90 : decode c_Mo_putRow 90 = .ok (.iload 7, 2) := by decide +kernel
theorem d_Mo_putRow_92 : decode c_Mo_putRow 92 = .ok (.baload, 1) := by decide +kernel
theorem d_Mo_putRow_93 : decode c_Mo_putRow 93 = .ok (.invokevirtual 38, 3) := by decide +kernel
theorem d_Mo_putRow_96 : decode c_Mo_putRow 96 = .ok (.iinc 7 1, 3) := by decide +kernel
theorem d_Mo_putRow_99 : decode c_Mo_putRow 99 = .ok (.goto (-20), 3) := by decide +kernel
theorem d_Mo_putRow_102 : decode c_Mo_putRow 102 = .ok (.aload_n 0, 1) := by decide +kernel
theorem d_Mo_putRow_103 : decode c_Mo_putRow 103 = .ok (.getfield 35, 3) := by decide +kernel
theorem d_Mo_putRow_106 : decode c_Mo_putRow 106 = .ok (.istore 7, 2) := by decide +kernel
theorem d_Mo_putRow_108 : decode c_Mo_putRow 108 = .ok (.aload_n 0, 1) := by decide +kernel
theorem d_Mo_putRow_109 : decode c_Mo_putRow 109 = .ok (.iload 4, 2) := by decide +kernel
theorem d_Mo_putRow_111 : decode c_Mo_putRow 111 = .ok (.putfield 35, 3) := by decide +kernel
theorem d_Mo_putRow_114 : decode c_Mo_putRow 114 = .ok (.aload_n 0, 1) := by decide +kernel
theorem d_Mo_putRow_115 : decode c_Mo_putRow 115 = .ok (.iload 6, 2) := by decide +kernel
theorem d_Mo_putRow_117 : decode c_Mo_putRow 117 = .ok (.invokevirtual 38, 3) := by decide +kernel
theorem d_Mo_putRow_120 : decode c_Mo_putRow 120 = .ok (.aload_n 0, 1) := by decide +kernel
theorem d_Mo_putRow_121 : decode c_Mo_putRow 121 = .ok (.iload 5, 2) := by decide +kernel
theorem d_Mo_putRow_123 : decode c_Mo_putRow 123 = .ok (.iconst 3, 1) := by decide +kernel
theorem d_Mo_putRow_124 : decode c_Mo_putRow 124 = .ok (.invokevirtual 78, 3) := by decide +kernel
theorem d_Mo_putRow_127 : decode c_Mo_putRow 127 = .ok (.aload_n 0, 1) := by decide +kernel
theorem d_Mo_putRow_128 : decode c_Mo_putRow 128 = .ok (.iload 7, 2) := by decide +kernel
theorem d_Mo_putRow_130 : decode c_Mo_putRow 130 = .ok (.putfield 35, 3) := by decide +kernel
theorem d_Mo_putRow_133 : decode c_Mo_putRow 133 = .ok (.return_, 1) := by decide +kernel
theorem d_Mo_chunks_0 : decode c_Mo_chunks 0 = .ok (.iload_n 1, 1) := by decide +kernel
theorem d_Mo_chunks_1 : decode c_Mo_chunks 1 = .ok (.iconst 1, 1) := by decide +kernel
theorem d_Mo_chunks_2 : decode c_Mo_chunks 2 = .ok (.if_icmp .lt 30, 3) := by decide +kernel
theorem d_Mo_chunks_5 : decode c_Mo_chunks 5 = .ok (.iload_n 1, 1) := by decide +kernel
theorem d_Mo_chunks_6 : decode c_Mo_chunks 6 = .ok (.sipush 10000, 3) := by decide +kernel
theorem d_Mo_chunks_9 : decode c_Mo_chunks 9 = .ok (.if_icmp .gt 23, 3) := by decide +kernel
theorem d_Mo_chunks_12 : decode c_Mo_chunks 12 = .ok (.iload_n 3, 1) := by decide +kernel
theorem d_Mo_chunks_13 : decode c_Mo_chunks 13 = .ok (.ifCond .lt 19, 3) := by decide +kernel
theorem d_Mo_chunks_16 : decode c_Mo_chunks 16 = .ok (.iload_n 3, 1) := by decide +kernel
theorem d_Mo_chunks_17 : decode c_Mo_chunks 17 = .ok (.sipush 255, 3) := by decide +kernel
theorem d_Mo_chunks_20 : decode c_Mo_chunks 20 = .ok (.if_icmp .gt 12, 3) := by decide +kernel
theorem d_Mo_chunks_23 : decode c_Mo_chunks 23 = .ok (.iload_n 2, 1) := by decide +kernel
theorem d_Mo_chunks_24 : decode c_Mo_chunks 24 = .ok (.ifCond .lt 8, 3) := by decide +kernel
theorem d_Mo_chunks_27 : decode c_Mo_chunks 27 = .ok (.iload_n 2, 1) := by decide +kernel
theorem d_Mo_chunks_28 : decode c_Mo_chunks 28 = .ok (.iconst 3, 1) := by decide +kernel
theorem d_Mo_chunks_29 : decode c_Mo_chunks 29 = .ok (.if_icmp .le 5, 3) := by decide +kernel
theorem d_Mo_chunks_32 : decode c_Mo_chunks 32 = .ok (.iconst (-1), 1) := by decide +kernel
theorem d_Mo_chunks_33 : decode c_Mo_chunks 33 = .ok (.ireturn, 1) := by decide +kernel
theorem d_Mo_chunks_34 : decode c_Mo_chunks 34 = .ok (.aload_n 0, 1) := by decide +kernel
theorem d_Mo_chunks_35 : decode c_Mo_chunks 35 = .ok (.iconst 0, 1) := by decide +kernel
theorem d_Mo_chunks_36 : decode c_Mo_chunks 36 = .ok (.putfield 35, 3) := by decide +kernel
theorem d_Mo_chunks_39 : decode c_Mo_chunks 39 = .ok (.aload_n 0, 1) := by decide +kernel
theorem d_Mo_chunks_40 : decode c_Mo_chunks 40 = .ok (.sipush 255, 3) := by decide +kernel
theorem d_Mo_chunks_43 : decode c_Mo_chunks 43 = .ok (.invokevirtual 38, 3) := by decide +kernel
theorem d_Mo_chunks_46 : decode c_Mo_chunks 46 = .ok (.aload_n 0, 1) := by decide +kernel
theorem d_Mo_chunks_47 : decode c_Mo_chunks 47 = .ok (.bipush 6, 2) := by decide +kernel
theorem d_Mo_chunks_49 : decode c_Mo_chunks 49 = .ok (.iconst 3, 1) := by decide +kernel
theorem d_Mo_chunks_50 : decode c_Mo_chunks 50 = .ok (.invokevirtual 78, 3) := by decide +kernel
theorem d_Mo_chunks_53 : decode c_Mo_chunks 53 = .ok (.iconst 0, 1) := by decide +kernel
theorem d_Mo_chunks_54 : decode c_Mo_chunks 54 = .ok (.istore 4, 2) := by decide +kernel
theorem d_Mo_chunks_56 : decode c_Mo_chunks 56 = .ok (.iload 4, 2) := by decide +kernel
theorem d_Mo_chunks_58 : decode c_Mo_chunks 58 = .ok (.bipush 6, 2) := by decide +kernel
theorem d_Mo_chunks_60 : decode c_Mo_chunks 60 = .ok (.if_icmp .ge 18, 3) := by decide +kernel
theorem d_Mo_chunks_63 : decode c_Mo_chunks 63 = .ok (.aload_n 0, 1) := by decide +kernel
theorem d_Mo_chunks_64 : decode c_Mo_chunks 64 = .ok (.iload 4, 2) := by decide +kernel
theorem d_Mo_chunks_66 : decode c_Mo_chunks 66 = .ok (.invokestatic 164, 3) := by decide +kernel
theorem d_Mo_chunks_69 : decode c_Mo_chunks 69 = .ok (.invokevirtual 38, 3) := by decide +kernel
theorem d_Mo_chunks_72 : decode c_Mo_chunks 72 = .ok (.iinc 4 1, 3) := by decide +kernel
theorem d_Mo_chunks_75 : decode c_Mo_chunks 75 = .ok (.goto (-19), 3) := by decide +kernel
theorem d_Mo_chunks_78 : decode c_Mo_chunks 78 = .ok (.iconst 0, 1) := by decide +kernel
theorem d_Mo_chunks_79 : decode c_Mo_chunks 79 = .ok (.istore 4, 2) := by decide +kernel
theorem d_Mo_chunks_81 : decode c_Mo_chunks 81 = .ok (.iload 4, 2) := by decide +kernel
theorem d_Mo_chunks_83 : decode c_Mo_chunks 83 = .ok (.aload_n 0, 1) := by decide +kernel
theorem d_Mo_chunks_84 : decode c_Mo_chunks 84 = .ok (.getfield 26, 3) := by decide +kernel
theorem d_Mo_chunks_87 : decode c_Mo_chunks 87 = .ok (.if_icmp .ge 78, 3) := by decide +kernel
theorem d_Mo_chunks_90 : decode c_Mo_chunks 90 = .ok (.aload_n 0, 1) := by decide +kernel
theorem d_Mo_chunks_91 : decode c_Mo_chunks 91 = .ok (.iload 4, 2) := by decide +kernel
theorem d_Mo_chunks_93 : decode c_Mo_chunks 93 = .ok (.iload 4, 2) := by decide +kernel
theorem d_Mo_chunks_95 : decode c_Mo_chunks 95 = .ok (.iload_n 1, 1) := by decide +kernel
theorem d_Mo_chunks_96 : decode c_Mo_chunks 96 = .ok (.iadd, 1) := by decide +kernel
theorem d_Mo_chunks_97 : decode c_Mo_chunks 97 = .ok (.aload_n 0, 1) := by decide +kernel
theorem d_Mo_chunks_98 : decode c_Mo_chunks 98 = .ok (.getfield 26, 3) := by decide +kernel
theorem d_Mo_chunks_101 : decode c_Mo_chunks 101 = .ok (.if_icmp .ge 10, 3) := by decide +kernel
theorem d_Mo_chunks_104 : decode c_Mo_chunks 104 = .ok (.iload 4, 2) := by decide +kernel
theorem d_Mo_chunks_106 : decode c_Mo_chunks 106 = .ok (.iload_n 1, 1) := by decide +kernel
theorem d_Mo_chunks_107 : decode c_Mo_chunks 107 = .ok (.iadd, 1) := by decide +kernel
theorem d_Mo_chunks_108 : decode c_Mo_chunks 108 = .ok (.goto 7, 3) := by decide +kernel
theorem d_Mo_chunks_111 : decode c_Mo_chunks 111 = .ok (.aload_n 0, 1) := by decide +kernel
theorem d_Mo_chunks_112 : decode c_Mo_chunks 112 = .ok (.getfield 26, 3) := by decide +kernel
theorem d_Mo_chunks_115 : decode c_Mo_chunks 115 = .ok (.iload_n 2, 1) := by decide +kernel
theorem d_Mo_chunks_116 : decode c_Mo_chunks 116 = .ok (.invokevirtual 168, 3) := by decide +kernel
theorem d_Mo_chunks_119 : decode c_Mo_chunks 119 = .ok (.iload_n 3, 1) := by decide +kernel
theorem d_Mo_chunks_120 : decode c_Mo_chunks 120 = .ok (.ifCond .le 36, 3) := by decide +kernel
theorem d_Mo_chunks_123 : decode c_Mo_chunks 123 = .ok (.aload_n 0, 1) := by decide +kernel
theorem d_Mo_chunks_124 : decode c_Mo_chunks 124 = .ok (.sipush 254, 3) := by decide +kernel
theorem d_Mo_chunks_127 : decode c_Mo_chunks 127 = .ok (.invokevirtual 38, 3) := by decide +kernel
theorem d_Mo_chunks_130 : decode c_Mo_chunks 130 = .ok (.aload_n 0, 1) := by decide +kernel
theorem d_Mo_chunks_131 : decode c_Mo_chunks 131 = .ok (.iload_n 3, 1) := by decide +kernel
theorem d_Mo_chunks_132 : decode c_Mo_chunks 132 = .ok (.iconst 3, 1) := by decide +kernel
theorem d_Mo_chunks_133 : decode c_Mo_chunks 133 = .ok (.invokevirtual 78, 3) := by decide +kernel
theorem d_Mo_chunks_136 : decode c_Mo_chunks 136 = .ok (.iconst 0, 1) := by decide +kernel
theorem d_Mo_chunks_137 : decode c_Mo_chunks 137 = .ok (.istore 5, 2) := by decide +kernel
theorem d_Mo_chunks_139 : decode c_Mo_chunks 139 = .ok (.iload 5, 2) := by decide +kernel
theorem d_Mo_chunks_141 : decode c_Mo_chunks 141 = .ok (.iload_n 3, 1) := by decide +kernel
theorem d_Mo_chunks_142 : decode c_Mo_chunks 142 = .ok (.if_icmp .ge 14, 3) := by decide +kernel
theorem d_Mo_chunks_145 : decode c_Mo_chunks 145 = .ok (.aload_n 0, 1) := by decide +kernel
theorem d_Mo_chunks_146 : decode c_Mo_chunks 146 = .ok (.iconst 0, 1) := by decide +kernel
theorem d_Mo_chunks_147 : decode c_Mo_chunks 147 = .ok (.invokevirtual 38, 3) := by decide +kernel
theorem d_Mo_chunks_150 : decode c_Mo_chunks 150 = .ok (.iinc 5 1, 3) := by decide +kernel
theorem d_Mo_chunks_153 : decode c_Mo_chunks 153 = .ok (.goto (-14), 3) := by decide +kernel
theorem d_Mo_chunks_156 : decode c_Mo_chunks 156 = .ok (.iload 4, 2) := by decide +kernel
theorem d_Mo_chunks_158 : decode c_Mo_chunks 158 = .ok (.iload_n 1, 1) := by decide +kernel
theorem d_Mo_chunks_159 : decode c_Mo_chunks 159 = .ok (.iadd, 1) := by decide +kernel
theorem d_Mo_chunks_160 : decode c_Mo_chunks 160 = .ok (.istore 4, 2) := by decide +kernel
theorem d_Mo_chunks_162 : decode c_Mo_chunks 162 = .ok (.goto (-81), 3) := by decide +kernel
theorem d_Mo_chunks_165 : decode c_Mo_chunks 165 = .ok (.aload_n 0, 1) := by decide +kernel
theorem d_Mo_chunks_166 : decode c_Mo_chunks 166 = .ok (.getfield 35, 3) := by decide +kernel
theorem d_Mo_chunks_169 : decode c_Mo_chunks 169 = .ok (.sipush 10000, 3) := by decide +kernel
theorem d_Mo_chunks_172 : decode c_Mo_chunks 172 = .ok (.if_icmp .le 7, 3) := by decide +kernel
theorem d_Mo_chunks_175 : decode c_Mo_chunks 175 = .ok (.iconst (-1), 1) := by decide +kernel
theorem d_Mo_chunks_176 : decode c_Mo_chunks 176 = .ok (.goto 7, 3) := by decide +kernel
theorem d_Mo_chunks_179 : decode c_Mo_chunks 179 = .ok (.aload_n 0, 1) := by decide +kernel
theorem d_Mo_chunks_180 : decode c_Mo_chunks 180 = .ok (.invokevirtual 95, 3) := by decide +kernel
theorem d_Mo_chunks_183 : decode c_Mo_chunks 183 = .ok (.ireturn, 1) := by decide +kernel
theorem d_Mo_byteOf_0 : decode c_Mo_byteOf 0 = .ok (.aload_n 0, 1) := by decide +kernel
theorem d_Mo_byteOf_1 : decode c_Mo_byteOf 1 = .ok (.getfield 7, 3) := by decide +kernel
theorem d_Mo_byteOf_4 : decode c_Mo_byteOf 4 = .ok (.iload_n 1, 1) := by decide +kernel
theorem d_Mo_byteOf_5 : decode c_Mo_byteOf 5 = .ok (.baload, 1) := by decide +kernel
theorem d_Mo_byteOf_6 : decode c_Mo_byteOf 6 = .ok (.sipush 255, 3) := by decide +kernel
theorem d_Mo_byteOf_9 : decode c_Mo_byteOf 9 = .ok (.iand, 1) := by decide +kernel
theorem d_Mo_byteOf_10 : decode c_Mo_byteOf 10 = .ok (.ireturn, 1) := by decide +kernel
theorem d_Mo_orderly_0 : decode c_Mo_orderly 0 = .ok (.iload_n 1, 1) := by decide +kernel
theorem d_Mo_orderly_1 : decode c_Mo_orderly 1 = .ok (.ifCond .ne 18, 3) := by decide +kernel
theorem d_Mo_orderly_4 : decode c_Mo_orderly 4 = .ok (.iload_n 2, 1) := by decide +kernel
theorem d_Mo_orderly_5 : decode c_Mo_orderly 5 = .ok (.sipush 255, 3) := by decide +kernel
theorem d_Mo_orderly_8 : decode c_Mo_orderly 8 = .ok (.if_icmp .eq 11, 3) := by decide +kernel
theorem d_Mo_orderly_11 : decode c_Mo_orderly 11 = .ok (.aload_n 0, 1) := by decide +kernel
theorem d_Mo_orderly_12 : decode c_Mo_orderly 12 = .ok (.bipush 8, 2) := by decide +kernel
theorem d_Mo_orderly_14 : decode c_Mo_orderly 14 = .ok (.iload_n 1, 1) := by decide +kernel
theorem d_Mo_orderly_15 : decode c_Mo_orderly 15 = .ok (.invokevirtual 113, 3) := by decide +kernel
theorem d_Mo_orderly_18 : decode c_Mo_orderly 18 = .ok (.ireturn, 1) := by decide +kernel
theorem d_Mo_orderly_19 : decode c_Mo_orderly 19 = .ok (.iload_n 2, 1) := by decide +kernel
theorem d_Mo_orderly_20 : decode c_Mo_orderly 20 = .ok (.iconst 2, 1) := by decide +kernel
theorem d_Mo_orderly_21 : decode c_Mo_orderly 21 = .ok (.if_icmp .lt 17, 3) := by decide +kernel
theorem d_Mo_orderly_24 : decode c_Mo_orderly 24 = .ok (.iload_n 2, 1) := by decide +kernel
theorem d_Mo_orderly_25 : decode c_Mo_orderly 25 = .ok (.bipush 127, 2) := by decide +kernel
theorem d_Mo_orderly_27 : decode c_Mo_orderly 27 = .ok (.if_icmp .gt 11, 3) := by decide +kernel
theorem d_Mo_orderly_30 : decode c_Mo_orderly 30 = .ok (.aload_n 0, 1) := by decide +kernel
theorem d_Mo_orderly_31 : decode c_Mo_orderly 31 = .ok (.bipush 9, 2) := by decide +kernel
theorem d_Mo_orderly_33 : decode c_Mo_orderly 33 = .ok (.iload_n 1, 1) := by decide +kernel
theorem d_Mo_orderly_34 : decode c_Mo_orderly 34 = .ok (.invokevirtual 113, 3) := by decide +kernel
theorem d_Mo_orderly_37 : decode c_Mo_orderly 37 = .ok (.ireturn, 1) := by decide +kernel
theorem d_Mo_orderly_38 : decode c_Mo_orderly 38 = .ok (.iload_n 1, 1) := by decide +kernel
theorem d_Mo_orderly_39 : decode c_Mo_orderly 39 = .ok (.iconst 4, 1) := by decide +kernel
theorem d_Mo_orderly_40 : decode c_Mo_orderly 40 = .ok (.iadd, 1) := by decide +kernel
theorem d_Mo_orderly_41 : decode c_Mo_orderly 41 = .ok (.aload_n 0, 1) := by decide +kernel
theorem d_Mo_orderly_42 : decode c_Mo_orderly 42 = .ok (.getfield 26, 3) := by decide +kernel
theorem d_Mo_orderly_45 : decode c_Mo_orderly 45 = .ok (.if_icmp .le 14, 3) := by decide +kernel
theorem d_Mo_orderly_48 : decode c_Mo_orderly 48 = .ok (.aload_n 0, 1) := by decide +kernel
theorem d_Mo_orderly_49 : decode c_Mo_orderly 49 = .ok (.bipush 7, 2) := by decide +kernel
theorem d_Mo_orderly_51 : decode c_Mo_orderly 51 = .ok (.aload_n 0, 1) := by decide +kernel
theorem d_Mo_orderly_52 : decode c_Mo_orderly 52 = .ok (.getfield 26, 3) := by decide +kernel
theorem d_Mo_orderly_55 : decode c_Mo_orderly 55 = .ok (.invokevirtual 113, 3) := by decide +kernel
theorem d_Mo_orderly_58 : decode c_Mo_orderly 58 = .ok (.ireturn, 1) := by decide +kernel
theorem d_Mo_orderly_59 : decode c_Mo_orderly 59 = .ok (.aload_n 0, 1) := by decide +kernel
theorem d_Mo_orderly_60 : decode c_Mo_orderly 60 = .ok (.iload_n 1, 1) := by decide +kernel
theorem d_Mo_orderly_61 : decode c_Mo_orderly 61 = .ok (.iconst 1, 1) := by decide +kernel
theorem d_Mo_orderly_62 : decode c_Mo_orderly 62 = .ok (.iadd, 1) := by decide +kernel
theorem d_Mo_orderly_63 : decode c_Mo_orderly 63 = .ok (.invokevirtual 171, 3) := by decide +kernel
theorem d_Mo_orderly_66 : decode c_Mo_orderly 66 = .ok (.sipush 256, 3) := by decide +kernel
theorem d_Mo_orderly_69 : decode c_Mo_orderly 69 = .ok (.aload_n 0, 1) := by decide +kernel
theorem d_Mo_orderly_70 : decode c_Mo_orderly 70 = .ok (.iload_n 1, 1) := by decide +kernel
theorem d_Mo_orderly_71 : decode c_Mo_orderly 71 = .ok (.iconst 2, 1) := by decide +kernel
theorem d_Mo_orderly_72 : decode c_Mo_orderly 72 = .ok (.iadd, 1) := by decide +kernel
theorem d_Mo_orderly_73 : decode c_Mo_orderly 73 = .ok (.invokevirtual 171, 3) := by decide +kernel
theorem d_Mo_orderly_76 : decode c_Mo_orderly 76 = .ok (.imul, 1) := by decide +kernel
theorem d_Mo_orderly_77 : decode c_Mo_orderly 77 = .ok (.iadd, 1) := by decide +kernel
theorem d_Mo_orderly_78 : decode c_Mo_orderly 78 = .ok (.ldc 82, 2) := by decide +kernel
theorem d_Mo_orderly_80 : decode c_Mo_orderly 80 = .ok (.aload_n 0, 1) := by decide +kernel
theorem d_Mo_orderly_81 : decode c_Mo_orderly 81 = .ok (.iload_n 1, 1) := by decide +kernel
theorem d_Mo_orderly_82 : decode c_Mo_orderly 82 = .ok (.iconst 3, 1) := by decide +kernel
theorem d_Mo_orderly_83 : decode c_Mo_orderly 83 = .ok (.iadd, 1) := by decide +kernel
theorem d_Mo_orderly_84 : decode c_Mo_orderly 84 = .ok (.invokevirtual 171, 3) := by decide +kernel
theorem d_Mo_orderly_87 : decode c_Mo_orderly 87 = .ok (.imul, 1) := by decide +kernel
theorem d_Mo_orderly_88 : decode c_Mo_orderly 88 = .ok (.iadd, 1) := by decide +kernel
theorem d_Mo_orderly_89 : decode c_Mo_orderly 89 = .ok (.istore_n 3, 1) := by decide +kernel
theorem d_Mo_orderly_90 : decode c_Mo_orderly 90 = .ok (.iload_n 1, 1) := by decide +kernel
theorem d_Mo_orderly_91 : decode c_Mo_orderly 91 = .ok (.iconst 4, 1) := by decide +kernel
theorem d_Mo_orderly_92 : decode c_Mo_orderly 92 = .ok (.iadd, 1) := by decide +kernel
theorem d_Mo_orderly_93 : decode c_Mo_orderly 93 = .ok (.iload_n 3, 1) := by decide +kernel
theorem d_Mo_orderly_94 : decode c_Mo_orderly 94 = .ok (.iadd, 1) := by decide +kernel
theorem d_Mo_orderly_95 : decode c_Mo_orderly 95 = .ok (.aload_n 0, 1) := by decide +kernel
theorem d_Mo_orderly_96 : decode c_Mo_orderly 96 = .ok (.getfield 26, 3) := by decide +kernel
theorem d_Mo_orderly_99 : decode c_Mo_orderly 99 = .ok (.if_icmp .le 14, 3) := by decide +kernel
theorem d_Mo_orderly_102 : decode c_Mo_orderly 102 = .ok (.aload_n 0, 1) := by decide +kernel
theorem d_Mo_orderly_103 : decode c_Mo_orderly 103 = .ok (.bipush 7, 2) := by decide +kernel
theorem d_Mo_orderly_105 : decode c_Mo_orderly 105 = .ok (.aload_n 0, 1) := by decide +kernel
theorem d_Mo_orderly_106 : decode c_Mo_orderly 106 = .ok (.getfield 26, 3) := by decide +kernel
theorem d_Mo_orderly_109 : decode c_Mo_orderly 109 = .ok (.invokevirtual 113, 3) := by decide +kernel
theorem d_Mo_orderly_112 : decode c_Mo_orderly 112 = .ok (.ireturn, 1) := by decide +kernel
theorem d_Mo_orderly_113 : decode c_Mo_orderly 113 = .ok (.aload_n 0, 1) := by decide +kernel
theorem d_Mo_orderly_114 : decode c_Mo_orderly 114 = .ok (.iload_n 1, 1) := by decide +kernel
theorem d_Mo_orderly_115 : decode c_Mo_orderly 115 = .ok (.iconst 4, 1) := by decide +kernel
theorem d_Mo_orderly_116 : decode c_Mo_orderly 116 = .ok (.iadd, 1) := by decide +kernel
theorem d_Mo_orderly_117 : decode c_Mo_orderly 117 = .ok (.iload_n 3, 1) := by decide +kernel
theorem d_Mo_orderly_118 : decode c_Mo_orderly 118 = .ok (.iadd, 1) := by decide +kernel
theorem d_Mo_orderly_119 : decode c_Mo_orderly 119 = .ok (.putfield 110, 3) := by decide +kernel
theorem d_Mo_orderly_122 : decode c_Mo_orderly 122 = .ok (.iload_n 2, 1) := by decide +kernel
theorem d_Mo_orderly_123 : decode c_Mo_orderly 123 = .ok (.sipush 255, 3) := by decide +kernel
theorem d_Mo_orderly_126 : decode c_Mo_orderly 126 = .ok (.if_icmp .ne 83, 3) := by decide +kernel
theorem d_Mo_orderly_129 : decode c_Mo_orderly 129 = .ok (.iload_n 3, 1) := by decide +kernel
theorem d_Mo_orderly_130 : decode c_Mo_orderly 130 = .ok (.bipush 6, 2) := by decide +kernel
theorem d_Mo_orderly_132 : decode c_Mo_orderly 132 = .ok (.if_icmp .ne 7, 3) := by decide +kernel
theorem d_Mo_orderly_135 : decode c_Mo_orderly 135 = .ok (.iconst 1, 1) := by decide +kernel
theorem d_Mo_orderly_136 : decode c_Mo_orderly 136 = .ok (.goto 4, 3) := by decide +kernel
theorem d_Mo_orderly_139 : decode c_Mo_orderly 139 = .ok (.iconst 0, 1) := by decide +kernel
theorem d_Mo_orderly_140 : decode c_Mo_orderly 140 = .ok (.istore 4, 2) := by decide +kernel
theorem d_Mo_orderly_142 : decode c_Mo_orderly 142 = .ok (.iconst 0, 1) := by decide +kernel
theorem d_Mo_orderly_143 : decode c_Mo_orderly 143 = .ok (.istore 5, 2) := by decide +kernel
theorem d_Mo_orderly_145 : decode c_Mo_orderly 145 = .ok (.iload 5, 2) := by decide +kernel
theorem d_Mo_orderly_147 : decode c_Mo_orderly 147 = .ok (.bipush 6, 2) := by decide +kernel
theorem d_Mo_orderly_149 : decode c_Mo_orderly 149 = .ok (.if_icmp .ge 39, 3) := by decide +kernel
theorem d_Mo_orderly_152 : decode c_Mo_orderly 152 = .ok (.iload 4, 2) := by decide +kernel
theorem d_Mo_orderly_154 : decode c_Mo_orderly 154 = .ok (.ifCond .eq 34, 3) := by decide +kernel
theorem d_Mo_orderly_157 : decode c_Mo_orderly 157 = .ok (.aload_n 0, 1) := by decide +kernel
theorem d_Mo_orderly_158 : decode c_Mo_orderly 158 = .ok (.iload_n 1, 1) := by decide +kernel
theorem d_Mo_orderly_159 : decode c_Mo_orderly 159 = .ok (.iconst 4, 1) := by decide +kernel
theorem d_Mo_orderly_160 : decode c_Mo_orderly 160 = .ok (.iadd, 1) := by decide +kernel
theorem d_Mo_orderly_161 : decode c_Mo_orderly 161 = .ok (.iload 5, 2) := by decide +kernel
theorem d_Mo_orderly_163 : decode c_Mo_orderly 163 = .ok (.iadd, 1) := by decide +kernel
theorem d_Mo_orderly_164 : decode c_Mo_orderly 164 = .ok (.invokevirtual 171, 3) := by decide +kernel
theorem d_Mo_orderly_167 : decode c_Mo_orderly 167 = .ok (.iload 5, 2) := by decide +kernel
theorem d_Mo_orderly_169 : decode c_Mo_orderly 169 = .ok (.invokestatic 164, 3) := by decide +kernel
theorem d_Mo_orderly_172 : decode c_Mo_orderly 172 = .ok (.if_icmp .ne 7, 3) := by decide +kernel
theorem d_Mo_orderly_175 : decode c_Mo_orderly 175 = .ok (.iconst 1, 1) := by decide +kernel
theorem d_Mo_orderly_176 : decode c_Mo_orderly 176 = .ok (.goto 4, 3) := by decide +kernel
theorem d_Mo_orderly_179 : decode c_Mo_orderly 179 = .ok (.iconst 0, 1) := by decide +kernel
theorem d_Mo_orderly_180 : decode c_Mo_orderly 180 = .ok (.istore 4, 2) := by decide +kernel
theorem d_Mo_orderly_182 : decode c_Mo_orderly 182 = .ok (.iinc 5 1, 3) := by decide +kernel
theorem d_Mo_orderly_185 : decode c_Mo_orderly 185 = .ok (.goto (-40), 3) := by decide +kernel
theorem d_Mo_orderly_188 : decode c_Mo_orderly 188 = .ok (.iload 4, 2) := by decide +kernel
theorem d_Mo_orderly_190 : decode c_Mo_orderly 190 = .ok (.ifCond .ne 13, 3) := by decide +kernel
theorem d_Mo_orderly_193 : decode c_Mo_orderly 193 = .ok (.aload_n 0, 1) := by decide +kernel
theorem d_Mo_orderly_194 : decode c_Mo_orderly 194 = .ok (.bipush 8, 2) := by decide +kernel
theorem d_Mo_orderly_196 : decode c_Mo_orderly 196 = .ok (.iload_n 1, 1) := by decide +kernel
theorem d_Mo_orderly_197 : decode c_Mo_orderly 197 = .ok (.invokevirtual 113, 3) := by decide +kernel
theorem d_Mo_orderly_200 : decode c_Mo_orderly 200 = .ok (.ifCond .eq 7, 3) := by decide +kernel
theorem d_Mo_orderly_203 : decode c_Mo_orderly 203 = .ok (.iconst 1, 1) := by decide +kernel
theorem d_Mo_orderly_204 : decode c_Mo_orderly 204 = .ok (.goto 4, 3) := by decide +kernel
theorem d_Mo_orderly_207 : decode c_Mo_orderly 207 = .ok (.iconst 0, 1) := by decide +kernel
theorem d_Mo_orderly_208 : decode c_Mo_orderly 208 = .ok (.ireturn, 1) := by decide +kernel
theorem d_Mo_orderly_209 : decode c_Mo_orderly 209 = .ok (.iload_n 2, 1) := by decide +kernel
theorem d_Mo_orderly_210 : decode c_Mo_orderly 210 = .ok (.iconst 1, 1) := by decide +kernel
theorem d_Mo_orderly_211 : decode c_Mo_orderly 211 = .ok (.if_icmp .gt 8, 3) := by decide +kernel
theorem d_Mo_orderly_214 : decode c_Mo_orderly 214 = .ok (.iload_n 3, 1) := by decide +kernel
theorem d_Mo_orderly_215 : decode c_Mo_orderly 215 = .ok (.iconst 4, 1) := by decide +kernel
theorem d_Mo_orderly_216 : decode c_Mo_orderly 216 = .ok (.if_icmp .lt 14, 3) := by decide +kernel
theorem d_Mo_orderly_219 : decode c_Mo_orderly 219 = .ok (.iload_n 2, 1) := by decide +kernel
theorem d_Mo_orderly_220 : decode c_Mo_orderly 220 = .ok (.iconst 1, 1) := by decide +kernel
theorem d_Mo_orderly_221 : decode c_Mo_orderly 221 = .ok (.if_icmp .ne 13, 3) := by decide +kernel
theorem d_Mo_orderly_224 : decode c_Mo_orderly 224 = .ok (.iload_n 3, 1) := by decide +kernel
theorem d_Mo_orderly_225 : decode c_Mo_orderly 225 = .ok (.ldc 174, 2) := by decide +kernel
theorem d_Mo_orderly_227 : decode c_Mo_orderly 227 = .ok (.if_icmp .le 7, 3) := by decide +kernel
theorem d_Mo_orderly_230 : decode c_Mo_orderly 230 = .ok (.iconst 1, 1) := by decide +kernel
theorem d_Mo_orderly_231 : decode c_Mo_orderly 231 = .ok (.goto 4, 3) := by decide +kernel
theorem d_Mo_orderly_234 : decode c_Mo_orderly 234 = .ok (.iconst 0, 1) := by decide +kernel
theorem d_Mo_orderly_235 : decode c_Mo_orderly 235 = .ok (.istore 4, 2) := by decide +kernel
theorem d_Mo_orderly_237 : decode c_Mo_orderly 237 = .ok (.iload 4, 2) := by decide +kernel
theorem d_Mo_orderly_239 : decode c_Mo_orderly 239 = .ok (.ifCond .eq 13, 3) := by decide +kernel
theorem d_Mo_orderly_242 : decode c_Mo_orderly 242 = .ok (.aload_n 0, 1) := by decide +kernel
theorem d_Mo_orderly_243 : decode c_Mo_orderly 243 = .ok (.bipush 10, 2) := by decide +kernel
theorem d_Mo_orderly_245 : decode c_Mo_orderly 245 = .ok (.iload_n 1, 1) := by decide +kernel
theorem d_Mo_orderly_246 : decode c_Mo_orderly 246 = .ok (.invokevirtual 113, 3) := by decide +kernel
theorem d_Mo_orderly_249 : decode c_Mo_orderly 249 = .ok (.ifCond .eq 7, 3) := by decide +kernel
theorem d_Mo_orderly_252 : decode c_Mo_orderly 252 = .ok (.iconst 1, 1) := by decide +kernel
theorem d_Mo_orderly_253 : decode c_Mo_orderly 253 = .ok (.goto 4, 3) := by decide +kernel
theorem d_Mo_orderly_256 : decode c_Mo_orderly 256 = .ok (.iconst 0, 1) := by decide +kernel
theorem d_Mo_orderly_257 : decode c_Mo_orderly 257 = .ok (.ireturn, 1) := by decide +kernel
theorem d_Mo_takeChunk_0 : decode c_Mo_takeChunk 0 = .ok (.iload_n 2, 1) := by decide +kernel
theorem d_Mo_takeChunk_1 : decode c_Mo_takeChunk 1 = .ok (.iconst 1, 1) := by decide +kernel
theorem d_Mo_takeChunk_2 : decode c_Mo_takeChunk 2 = .ok (.if_icmp .le 4, 3) := by decide +kernel
theorem d_Mo_takeChunk_5 : decode c_Mo_takeChunk 5 = .ok (.return_, 1) := by decide +kernel
theorem d_Mo_takeChunk_6 : decode c_Mo_takeChunk 6 = .ok (.aload_n 0, 1) := by decide +kernel
theorem d_Mo_takeChunk_7 : decode c_Mo_takeChunk 7 = .ok (.getfield 35, 3) := by decide +kernel
theorem d_Mo_takeChunk_10 : decode c_Mo_takeChunk 10 = .ok (.istore 4, 2) := by decide +kernel
theorem d_Mo_takeChunk_12 : decode c_Mo_takeChunk 12 = .ok (.iload_n 3, 1) := by decide +kernel
theorem d_Mo_takeChunk_13 : decode c_Mo_takeChunk 13 = .ok (.iload 4, 2) := by decide +kernel
theorem d_Mo_takeChunk_15 : decode c_Mo_takeChunk 15 = .ok (.isub, 1) := by decide +kernel
theorem d_Mo_takeChunk_16 : decode c_Mo_takeChunk 16 = .ok (.istore 5, 2) := by decide +kernel
theorem d_Mo_takeChunk_18 : decode c_Mo_takeChunk 18 = .ok (.aload_n 0, 1) := by decide +kernel
theorem d_Mo_takeChunk_19 : decode c_Mo_takeChunk 19 = .ok (.iload_n 1, 1) := by decide +kernel
theorem d_Mo_takeChunk_20 : decode c_Mo_takeChunk 20 = .ok (.bipush 8, 2) := by decide +kernel
theorem d_Mo_takeChunk_22 : decode c_Mo_takeChunk 22 = .ok (.iadd, 1) := by decide +kernel
theorem d_Mo_takeChunk_23 : decode c_Mo_takeChunk 23 = .ok (.putfield 107, 3) := by decide +kernel
theorem d_Mo_takeChunk_26 : decode c_Mo_takeChunk 26 = .ok (.iload_n 2, 1) := by decide +kernel
theorem d_Mo_takeChunk_27 : decode c_Mo_takeChunk 27 = .ok (.ifCond .ne 38, 3) := by decide +kernel
theorem d_Mo_takeChunk_30 : decode c_Mo_takeChunk 30 = .ok (.aload_n 0, 1) := by decide +kernel
theorem d_Mo_takeChunk_31 : decode c_Mo_takeChunk 31 = .ok (.iload 5, 2) := by decide +kernel
theorem d_Mo_takeChunk_33 : decode c_Mo_takeChunk 33 = .ok (.ldc 82, 2) := by decide +kernel
theorem d_Mo_takeChunk_35 : decode c_Mo_takeChunk 35 = .ok (.if_icmp .ge 8, 3) := by decide +kernel
theorem d_Mo_takeChunk_38 : decode c_Mo_takeChunk 38 = .ok (.iload 5, 2) := by decide +kernel
theorem d_Mo_takeChunk_40 : decode c_Mo_takeChunk 40 = .ok (.goto 5, 3) := by decide +kernel
theorem d_Mo_takeChunk_43 : decode c_Mo_takeChunk 43 = .ok (.ldc 82, 2) := by decide +kernel
theorem d_Mo_takeChunk_45 : decode c_Mo_takeChunk 45 = .ok (.invokevirtual 152, 3) := by decide +kernel
theorem d_Mo_takeChunk_48 : decode c_Mo_takeChunk 48 = .ok (.aload_n 0, 1) := by decide +kernel
theorem d_Mo_takeChunk_49 : decode c_Mo_takeChunk 49 = .ok (.getfield 99, 3) := by decide +kernel
theorem d_Mo_takeChunk_52 : decode c_Mo_takeChunk 52 = .ok (.iconst 1, 1) := by decide +kernel
theorem d_Mo_takeChunk_53 : decode c_Mo_takeChunk 53 = .ok (.if_icmp .ne 74, 3) := by decide +kernel
theorem d_Mo_takeChunk_56 : decode c_Mo_takeChunk 56 = .ok (.aload_n 0, 1) := by decide +kernel
theorem d_Mo_takeChunk_57 : decode c_Mo_takeChunk 57 = .ok (.bipush 12, 2) := by decide +kernel
theorem d_Mo_takeChunk_59 : decode c_Mo_takeChunk 59 = .ok (.putfield 99, 3) := by decide +kernel
theorem d_Mo_takeChunk_62 : decode c_Mo_takeChunk 62 = .ok (.goto 65, 3) := by decide +kernel
theorem d_Mo_takeChunk_65 : decode c_Mo_takeChunk 65 = .ok (.aload_n 0, 1) := by decide +kernel
theorem d_Mo_takeChunk_66 : decode c_Mo_takeChunk 66 = .ok (.getfield 110, 3) := by decide +kernel
theorem d_Mo_takeChunk_69 : decode c_Mo_takeChunk 69 = .ok (.aload_n 0, 1) := by decide +kernel
theorem d_Mo_takeChunk_70 : decode c_Mo_takeChunk 70 = .ok (.getfield 107, 3) := by decide +kernel
theorem d_Mo_takeChunk_73 : decode c_Mo_takeChunk 73 = .ok (.isub, 1) := by decide +kernel
theorem d_Mo_takeChunk_74 : decode c_Mo_takeChunk 74 = .ok (.iload 5, 2) := by decide +kernel
theorem d_Mo_takeChunk_76 : decode c_Mo_takeChunk 76 = .ok (.if_icmp .le 19, 3) := by decide +kernel
theorem d_Mo_takeChunk_79 : decode c_Mo_takeChunk 79 = .ok (.aload_n 0, 1) := by decide +kernel
theorem d_Mo_takeChunk_80 : decode c_Mo_takeChunk 80 = .ok (.iconst 3, 1) := by decide +kernel
theorem d_Mo_takeChunk_81 : decode c_Mo_takeChunk 81 = .ok (.aload_n 0, 1) := by decide +kernel
theorem d_Mo_takeChunk_82 : decode c_Mo_takeChunk 82 = .ok (.getfield 107, 3) := by decide +kernel
theorem d_Mo_takeChunk_85 : decode c_Mo_takeChunk 85 = .ok (.iload 5, 2) := by decide +kernel
theorem d_Mo_takeChunk_87 : decode c_Mo_takeChunk 87 = .ok (.iadd, 1) := by decide +kernel
theorem d_Mo_takeChunk_88 : decode c_Mo_takeChunk 88 = .ok (.invokevirtual 113, 3) := by decide +kernel
theorem d_Mo_takeChunk_91 : decode c_Mo_takeChunk 91 = .ok (.pop, 1) := by decide +kernel
theorem d_Mo_takeChunk_92 : decode c_Mo_takeChunk 92 = .ok (.goto 35, 3) := by decide +kernel
theorem d_Mo_takeChunk_95 : decode c_Mo_takeChunk 95 = .ok (.aload_n 0, 1) := by decide +kernel
theorem d_Mo_takeChunk_96 : decode c_Mo_takeChunk 96 = .ok (.getfield 107, 3) := by decide +kernel
theorem d_Mo_takeChunk_99 : decode c_Mo_takeChunk 99 = .ok (.istore 6, 2) := by decide +kernel
theorem d_Mo_takeChunk_101 : decode c_Mo_takeChunk 101 = .ok (.iload 6, 2) := by decide +kernel
theorem d_Mo_takeChunk_103 : decode c_Mo_takeChunk 103 = .ok (.aload_n 0, 1) := by decide +kernel
theorem d_Mo_takeChunk_104 : decode c_Mo_takeChunk 104 = .ok (.getfield 110, 3) := by decide +kernel
theorem d_Mo_takeChunk_107 : decode c_Mo_takeChunk 107 = .ok (.if_icmp .ge 20, 3) := by decide +kernel
theorem d_Mo_takeChunk_110 : decode c_Mo_takeChunk 110 = .ok (.aload_n 0, 1) := by decide +kernel
theorem d_Mo_takeChunk_111 : decode c_Mo_takeChunk 111 = .ok (.aload_n 0, 1) := by decide +kernel
theorem d_Mo_takeChunk_112 : decode c_Mo_takeChunk 112 = .ok (.getfield 7, 3) := by decide +kernel
theorem d_Mo_takeChunk_115 : decode c_Mo_takeChunk 115 = .ok (.iload 6, 2) := by decide +kernel
theorem d_Mo_takeChunk_117 : decode c_Mo_takeChunk 117 = .ok (.baload, 1) := by decide +kernel
theorem d_Mo_takeChunk_118 : decode c_Mo_takeChunk 118 = .ok (.invokevirtual 38, 3) := by decide +kernel
theorem d_Mo_takeChunk_121 : decode c_Mo_takeChunk 121 = .ok (.iinc 6 1, 3) := by decide +kernel
theorem d_Mo_takeChunk_124 : decode c_Mo_takeChunk 124 = .ok (.goto (-23), 3) := by decide +kernel
theorem d_Mo_takeChunk_127 : decode c_Mo_takeChunk 127 = .ok (.aload_n 0, 1) := by decide +kernel
theorem d_Mo_takeChunk_128 : decode c_Mo_takeChunk 128 = .ok (.getfield 99, 3) := by decide +kernel
theorem d_Mo_takeChunk_131 : decode c_Mo_takeChunk 131 = .ok (.ifCond .eq 4, 3) := by decide +kernel
theorem d_Mo_takeChunk_134 : decode c_Mo_takeChunk 134 = .ok (.return_, 1) := by decide +kernel
theorem d_Mo_takeChunk_135 : decode c_Mo_takeChunk 135 = .ok (.aload_n 0, 1) := by decide +kernel
theorem d_Mo_takeChunk_136 : decode c_Mo_takeChunk 136 = .ok (.iload_n 1, 1) := by decide +kernel
theorem d_Mo_takeChunk_137 : decode c_Mo_takeChunk 137 = .ok (.iconst 4, 1) := by decide +kernel
theorem d_Mo_takeChunk_138 : decode c_Mo_takeChunk 138 = .ok (.iadd, 1) := by decide +kernel
theorem d_Mo_takeChunk_139 : decode c_Mo_takeChunk 139 = .ok (.invokevirtual 171, 3) := by decide +kernel
theorem d_Mo_takeChunk_142 : decode c_Mo_takeChunk 142 = .ok (.aload_n 0, 1) := by decide +kernel
theorem d_Mo_takeChunk_143 : decode c_Mo_takeChunk 143 = .ok (.iload_n 1, 1) := by decide +kernel
theorem d_Mo_takeChunk_144 : decode c_Mo_takeChunk 144 = .ok (.iconst 5, 1) := by decide +kernel
theorem d_Mo_takeChunk_145 : decode c_Mo_takeChunk 145 = .ok (.iadd, 1) := by decide +kernel
theorem d_Mo_takeChunk_146 : decode c_Mo_takeChunk 146 = .ok (.invokevirtual 171, 3) := by decide +kernel
theorem d_Mo_takeChunk_149 : decode c_Mo_takeChunk 149 = .ok (.bipush 8, 2) := by decide +kernel
theorem d_Mo_takeChunk_151 : decode c_Mo_takeChunk 151 = .ok (.ishl, 1) := by decide +kernel
theorem d_Mo_takeChunk_152 : decode c_Mo_takeChunk 152 = .ok (.ior, 1) := by decide +kernel
theorem d_Mo_takeChunk_153 : decode c_Mo_takeChunk 153 = .ok (.aload_n 0, 1) := by decide +kernel
theorem d_Mo_takeChunk_154 : decode c_Mo_takeChunk 154 = .ok (.iload_n 1, 1) := by decide +kernel
theorem d_Mo_takeChunk_155 : decode c_Mo_takeChunk 155 = .ok (.bipush 6, 2) := by decide +kernel
theorem d_Mo_takeChunk_157 : decode c_Mo_takeChunk 157 = .ok (.iadd, 1) := by decide +kernel
theorem d_Mo_takeChunk_158 : decode c_Mo_takeChunk 158 = .ok (.invokevirtual 171, 3) := by decide +kernel
theorem d_Mo_takeChunk_161 : decode c_Mo_takeChunk 161 = .ok (.bipush 16, 2) := by decide +kernel
theorem d_Mo_takeChunk_163 : decode c_Mo_takeChunk 163 = .ok (.ishl, 1) := by decide +kernel
theorem d_Mo_takeChunk_164 : decode c_Mo_takeChunk 164 = .ok (.ior, 1) := by decide +kernel
theorem d_Mo_takeChunk_165 : decode c_Mo_takeChunk 165 = .ok (.aload_n 0, 1) := by decide +kernel
theorem d_Mo_takeChunk_166 : decode c_Mo_takeChunk 166 = .ok (.iload_n 1, 1) := by decide +kernel
theorem d_Mo_takeChunk_167 : decode c_Mo_takeChunk 167 = .ok (.bipush 7, 2) := by decide +kernel
theorem d_Mo_takeChunk_169 : decode c_Mo_takeChunk 169 = .ok (.iadd, 1) := by decide +kernel
theorem d_Mo_takeChunk_170 : decode c_Mo_takeChunk 170 = .ok (.invokevirtual 171, 3) := by decide +kernel
theorem d_Mo_takeChunk_173 : decode c_Mo_takeChunk 173 = .ok (.bipush 24, 2) := by decide +kernel
theorem d_Mo_takeChunk_175 : decode c_Mo_takeChunk 175 = .ok (.ishl, 1) := by decide +kernel
theorem d_Mo_takeChunk_176 : decode c_Mo_takeChunk 176 = .ok (.ior, 1) := by decide +kernel
theorem d_Mo_takeChunk_177 : decode c_Mo_takeChunk 177 = .ok (.istore 6, 2) := by decide +kernel
theorem d_Mo_takeChunk_179 : decode c_Mo_takeChunk 179 = .ok (.aload_n 0, 1) := by decide +kernel
theorem d_Mo_takeChunk_180 : decode c_Mo_takeChunk 180 = .ok (.getfield 16, 3) := by decide +kernel
theorem d_Mo_takeChunk_183 : decode c_Mo_takeChunk 183 = .ok (.iload 4, 2) := by decide +kernel
theorem d_Mo_takeChunk_185 : decode c_Mo_takeChunk 185 = .ok (.aload_n 0, 1) := by decide +kernel
theorem d_Mo_takeChunk_186 : decode c_Mo_takeChunk 186 = .ok (.getfield 35, 3) := by decide +kernel
theorem d_Mo_takeChunk_189 : decode c_Mo_takeChunk 189 = .ok (.invokestatic 160, 3) := by decide +kernel
theorem d_Mo_takeChunk_192 : decode c_Mo_takeChunk 192 = .ok (.iload 6, 2) := by decide +kernel
theorem d_Mo_takeChunk_194 : decode c_Mo_takeChunk 194 = .ok (.if_icmp .eq 13, 3) := by decide +kernel
theorem d_Mo_takeChunk_197 : decode c_Mo_takeChunk 197 = .ok (.aload_n 0, 1) := by decide +kernel
theorem d_Mo_takeChunk_198 : decode c_Mo_takeChunk 198 = .ok (.bipush 11, 2) := by decide +kernel
theorem d_Mo_takeChunk_200 : decode c_Mo_takeChunk 200 = .ok (.iload_n 1, 1) := by decide +kernel
theorem d_Mo_takeChunk_201 : decode c_Mo_takeChunk 201 = .ok (.iconst 4, 1) := by decide +kernel
theorem d_Mo_takeChunk_202 : decode c_Mo_takeChunk 202 = .ok (.iadd, 1) := by decide +kernel
theorem d_Mo_takeChunk_203 : decode c_Mo_takeChunk 203 = .ok (.invokevirtual 113, 3) := by decide +kernel
theorem d_Mo_takeChunk_206 : decode c_Mo_takeChunk 206 = .ok (.pop, 1) := by decide +kernel
theorem d_Mo_takeChunk_207 : decode c_Mo_takeChunk 207 = .ok (.return_, 1) := by decide +kernel
theorem d_Mo_unchunk_0 : decode c_Mo_unchunk 0 = .ok (.iload_n 1, 1) := by decide +kernel
theorem d_Mo_unchunk_1 : decode c_Mo_unchunk 1 = .ok (.ifCond .lt 10, 3) := by decide +kernel
theorem d_Mo_unchunk_4 : decode c_Mo_unchunk 4 = .ok (.iload_n 1, 1) := by decide +kernel
theorem d_Mo_unchunk_5 : decode c_Mo_unchunk 5 = .ok (.sipush 10000, 3) := by decide +kernel
theorem d_Mo_unchunk_8 : decode c_Mo_unchunk 8 = .ok (.if_icmp .le 6, 3) := by decide +kernel
theorem d_Mo_unchunk_11 : decode c_Mo_unchunk 11 = .ok (.bipush (-20), 2) := by decide +kernel
theorem d_Mo_unchunk_13 : decode c_Mo_unchunk 13 = .ok (.ireturn, 1) := by decide +kernel
theorem d_Mo_unchunk_14 : decode c_Mo_unchunk 14 = .ok (.aload_n 0, 1) := by decide +kernel
theorem d_Mo_unchunk_15 : decode c_Mo_unchunk 15 = .ok (.invokevirtual 149, 3) := by decide +kernel
theorem d_Mo_unchunk_18 : decode c_Mo_unchunk 18 = .ok (.iconst 0, 1) := by decide +kernel
theorem d_Mo_unchunk_19 : decode c_Mo_unchunk 19 = .ok (.istore_n 2, 1) := by decide +kernel
theorem d_Mo_unchunk_20 : decode c_Mo_unchunk 20 = .ok (.aload_n 0, 1) := by decide +kernel
theorem d_Mo_unchunk_21 : decode c_Mo_unchunk 21 = .ok (.getfield 99, 3) := by decide +kernel
theorem d_Mo_unchunk_24 : decode c_Mo_unchunk 24 = .ok (.ifCond .ne 41, 3) := by decide +kernel
theorem d_Mo_unchunk_27 : decode c_Mo_unchunk 27 = .ok (.iload_n 2, 1) := by decide +kernel
theorem d_Mo_unchunk_28 : decode c_Mo_unchunk 28 = .ok (.aload_n 0, 1) := by decide +kernel
theorem d_Mo_unchunk_29 : decode c_Mo_unchunk 29 = .ok (.getfield 26, 3) := by decide +kernel
theorem d_Mo_unchunk_32 : decode c_Mo_unchunk 32 = .ok (.if_icmp .ge 33, 3) := by decide +kernel
theorem d_Mo_unchunk_35 : decode c_Mo_unchunk 35 = .ok (.aload_n 0, 1) := by decide +kernel
theorem d_Mo_unchunk_36 : decode c_Mo_unchunk 36 = .ok (.iload_n 2, 1) := by decide +kernel
theorem d_Mo_unchunk_37 : decode c_Mo_unchunk 37 = .ok (.invokevirtual 171, 3) := by decide +kernel
theorem d_Mo_unchunk_40 : decode c_Mo_unchunk 40 = .ok (.istore_n 3, 1) := by decide +kernel
theorem d_Mo_unchunk_41 : decode c_Mo_unchunk 41 = .ok (.aload_n 0, 1) := by decide +kernel
theorem d_Mo_unchunk_42 : decode c_Mo_unchunk 42 = .ok (.iload_n 2, 1) := by decide +kernel
theorem d_Mo_unchunk_43 : decode c_Mo_unchunk 43 = .ok (.iload_n 3, 1) := by decide +kernel
theorem d_Mo_unchunk_44 : decode c_Mo_unchunk 44 = .ok (.invokevirtual 175, 3) := by decide +kernel
theorem d_Mo_unchunk_47 : decode c_Mo_unchunk 47 = .ok (.ifCond .eq 10, 3) := by decide +kernel
theorem d_Mo_unchunk_50 : decode c_Mo_unchunk 50 = .ok (.aload_n 0, 1) := by decide +kernel
theorem d_Mo_unchunk_51 : decode c_Mo_unchunk 51 = .ok (.iload_n 2, 1) := by decide +kernel
theorem d_Mo_unchunk_52 : decode c_Mo_unchunk 52 = .ok (.iload_n 3, 1) := by decide +kernel
theorem d_Mo_unchunk_53 : decode c_Mo_unchunk 53 = .ok (.iload_n 1, 1) := by decide +kernel
theorem d_Mo_unchunk_54 : decode c_Mo_unchunk 54 = .ok (.invokevirtual 178, 3) := by decide +kernel
theorem d_Mo_unchunk_57 : decode c_Mo_unchunk 57 = .ok (.aload_n 0, 1) := by decide +kernel
theorem d_Mo_unchunk_58 : decode c_Mo_unchunk 58 = .ok (.getfield 110, 3) := by decide +kernel
theorem d_Mo_unchunk_61 : decode c_Mo_unchunk 61 = .ok (.istore_n 2, 1) := by decide +kernel
theorem d_Mo_unchunk_62 : decode c_Mo_unchunk 62 = .ok (.goto (-42), 3) := by decide +kernel
theorem d_Mo_unchunk_65 : decode c_Mo_unchunk 65 = .ok (.aload_n 0, 1) := by decide +kernel
theorem d_Mo_unchunk_66 : decode c_Mo_unchunk 66 = .ok (.invokevirtual 155, 3) := by decide +kernel
theorem d_Mo_unchunk_69 : decode c_Mo_unchunk 69 = .ok (.ireturn, 1) := by decide +kernel
theorem d_Mo_place_0 : decode c_Mo_place 0 = .ok (.aload_n 0, 1) := by decide +kernel
theorem d_Mo_place_1 : decode c_Mo_place 1 = .ok (.getfield 146, 3) := by decide +kernel
theorem d_Mo_place_4 : decode c_Mo_place 4 = .ok (.ireturn, 1) := by decide +kernel
theorem d_Mo_sum_0 : decode c_Mo_sum 0 = .ok (.aload_n 0, 1) := by decide +kernel
theorem d_Mo_sum_1 : decode c_Mo_sum 1 = .ok (.getfield 7, 3) := by decide +kernel
theorem d_Mo_sum_4 : decode c_Mo_sum 4 = .ok (.iconst 0, 1) := by decide +kernel
theorem d_Mo_sum_5 : decode c_Mo_sum 5 = .ok (.aload_n 0, 1) := by decide +kernel
theorem d_Mo_sum_6 : decode c_Mo_sum 6 = .ok (.getfield 26, 3) := by decide +kernel
theorem d_Mo_sum_9 : decode c_Mo_sum 9 = .ok (.invokestatic 160, 3) := by decide +kernel
theorem d_Mo_sum_12 : decode c_Mo_sum 12 = .ok (.ireturn, 1) := by decide +kernel
theorem d_Mo_size_0 : decode c_Mo_size 0 = .ok (.aload_n 0, 1) := by decide +kernel
theorem d_Mo_size_1 : decode c_Mo_size 1 = .ok (.getfield 32, 3) := by decide +kernel
theorem d_Mo_size_4 : decode c_Mo_size 4 = .ok (.ireturn, 1) := by decide +kernel
theorem d_Mo_byteAt_0 : decode c_Mo_byteAt 0 = .ok (.iload_n 1, 1) := by decide +kernel
theorem d_Mo_byteAt_1 : decode c_Mo_byteAt 1 = .ok (.ifCond .lt 11, 3) := by decide +kernel
theorem d_Mo_byteAt_4 : decode c_Mo_byteAt 4 = .ok (.iload_n 1, 1) := by decide +kernel
theorem d_Mo_byteAt_5 : decode c_Mo_byteAt 5 = .ok (.aload_n 0, 1) := by decide +kernel
theorem d_Mo_byteAt_6 : decode c_Mo_byteAt 6 = .ok (.getfield 32, 3) := by decide +kernel
theorem d_Mo_byteAt_9 : decode c_Mo_byteAt 9 = .ok (.if_icmp .lt 7, 3) := by decide +kernel
theorem d_Mo_byteAt_12 : decode c_Mo_byteAt 12 = .ok (.iconst (-1), 1) := by decide +kernel
theorem d_Mo_byteAt_13 : decode c_Mo_byteAt 13 = .ok (.goto 13, 3) := by decide +kernel
theorem d_Mo_byteAt_16 : decode c_Mo_byteAt 16 = .ok (.aload_n 0, 1) := by decide +kernel
theorem d_Mo_byteAt_17 : decode c_Mo_byteAt 17 = .ok (.getfield 13, 3) := by decide +kernel
theorem d_Mo_byteAt_20 : decode c_Mo_byteAt 20 = .ok (.iload_n 1, 1) := by decide +kernel
theorem d_Mo_byteAt_21 : decode c_Mo_byteAt 21 = .ok (.baload, 1) := by decide +kernel
theorem d_Mo_byteAt_22 : decode c_Mo_byteAt 22 = .ok (.sipush 255, 3) := by decide +kernel
theorem d_Mo_byteAt_25 : decode c_Mo_byteAt 25 = .ok (.iand, 1) := by decide +kernel
theorem d_Mo_byteAt_26 : decode c_Mo_byteAt 26 = .ok (.ireturn, 1) := by decide +kernel
theorem d_Ar_fill_0 : decode c_Ar_fill 0 = .ok (.iconst 0, 1) := by decide +kernel
theorem d_Ar_fill_1 : decode c_Ar_fill 1 = .ok (.istore_n 2, 1) := by decide +kernel
theorem d_Ar_fill_2 : decode c_Ar_fill 2 = .ok (.aload_n 0, 1) := by decide +kernel
theorem d_Ar_fill_3 : decode c_Ar_fill 3 = .ok (.arraylength, 1) := by decide +kernel
theorem d_Ar_fill_4 : decode c_Ar_fill 4 = .ok (.istore_n 3, 1) := by decide +kernel
theorem d_Ar_fill_5 : decode c_Ar_fill 5 = .ok (.iload_n 2, 1) := by decide +kernel
theorem d_Ar_fill_6 : decode c_Ar_fill 6 = .ok (.iload_n 3, 1) := by decide +kernel
theorem d_Ar_fill_7 : decode c_Ar_fill 7 = .ok (.if_icmp .ge 13, 3) := by decide +kernel
theorem d_Ar_fill_10 : decode c_Ar_fill 10 = .ok (.aload_n 0, 1) := by decide +kernel
theorem d_Ar_fill_11 : decode c_Ar_fill 11 = .ok (.iload_n 2, 1) := by decide +kernel
theorem d_Ar_fill_12 : decode c_Ar_fill 12 = .ok (.iload_n 1, 1) := by decide +kernel
theorem d_Ar_fill_13 : decode c_Ar_fill 13 = .ok (.iastore, 1) := by decide +kernel
theorem d_Ar_fill_14 : decode c_Ar_fill 14 = .ok (.iinc 2 1, 3) := by decide +kernel
theorem d_Ar_fill_17 : decode c_Ar_fill 17 = .ok (.goto (-12), 3) := by decide +kernel
theorem d_Ar_fill_20 : decode c_Ar_fill 20 = .ok (.return_, 1) := by decide +kernel
