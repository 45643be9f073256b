theorem d_BlockReader_init_0 : decode c_BlockReader_init 0 = .ok (.aload_n 0, 1) := by decide +kernel
theorem d_BlockReader_init_1 : decode c_BlockReader_init 1 = .ok (.invokespecial 3, 3) := by decide +kernel
theorem d_BlockReader_init_4 : decode c_BlockReader_init 4 = .ok (.aload_n 0, 1) := by decide +kernel
theorem d_BlockReader_init_5 : decode c_BlockReader_init 5 = .ok (.iconst 0, 1) := by decide +kernel
theorem d_BlockReader_init_6 : decode c_BlockReader_init 6 = .ok (.putfield 9, 3) := by decide +kernel
theorem d_BlockReader_init_9 : decode c_BlockReader_init 9 = .ok (.aload_n 0, 1) := by decide +kernel
theorem d_BlockReader_init_10 : decode c_BlockReader_init 10 = .ok (.iconst 0, 1) := by decide +kernel
theorem d_BlockReader_init_11 : decode c_BlockReader_init 11 = .ok (.putfield 15, 3) := by decide +kernel
theorem d_BlockReader_init_14 : decode c_BlockReader_init 14 = .ok (.aload_n 0, 1) := by decide +kernel
theorem d_BlockReader_init_15 : decode c_BlockReader_init 15 = .ok (.iconst 0, 1) := by decide +kernel
theorem d_BlockReader_init_16 : decode c_BlockReader_init 16 = .ok (.putfield 18, 3) := by decide +kernel
theorem d_BlockReader_init_19 : decode c_BlockReader_init 19 = .ok (.aload_n 0, 1) := by decide +kernel
theorem d_BlockReader_init_20 : decode c_BlockReader_init 20 = .ok (.lconst 0, 1) := by decide +kernel
theorem d_BlockReader_init_21 : decode c_BlockReader_init 21 = .ok (.putfield 21, 3) := by decide +kernel
theorem d_BlockReader_init_24 : decode c_BlockReader_init 24 = .ok (.aload_n 0, 1) := by decide +kernel
theorem d_BlockReader_init_25 : decode c_BlockReader_init 25 = .ok (.iconst 0, 1) := by decide +kernel
theorem d_BlockReader_init_26 : decode c_BlockReader_init 26 = .ok (.putfield 25, 3) := by decide +kernel
theorem d_BlockReader_init_29 : decode c_BlockReader_init 29 = .ok (.aload_n 0, 1) := by decide +kernel
theorem d_BlockReader_init_30 : decode c_BlockReader_init 30 = .ok (.iconst 0, 1) := by decide +kernel
theorem d_BlockReader_init_31 : decode c_BlockReader_init 31 = .ok (.putfield 28, 3) := by decide +kernel
theorem d_BlockReader_init_34 : decode c_BlockReader_init 34 = .ok (.aload_n 0, 1) := by decide +kernel
theorem d_BlockReader_init_35 : decode c_BlockReader_init 35 = .ok (.aload_n 1, 1) := by decide +kernel
theorem d_BlockReader_init_36 : decode c_BlockReader_init 36 = .ok (.putfield 31, 3) := by decide +kernel
theorem d_BlockReader_init_39 : decode c_BlockReader_init 39 = .ok (.aload_n 0, 1) := by decide +kernel
theorem d_BlockReader_init_40 : decode c_BlockReader_init 40 = .ok (.aload_n 2, 1) := by decide +kernel
theorem d_BlockReader_init_41 : decode c_BlockReader_init 41 = .ok (.putfield 35, 3) := by decide +kernel
theorem d_BlockReader_init_44 : decode c_BlockReader_init 44 = .ok (.return_, 1) := by decide +kernel
theorem d_BlockReader_readBlock_0 : decode c_BlockReader_readBlock 0 = .ok (.aload_n 0, 1) := by decide +kernel
theorem d_BlockReader_readBlock_1 : decode c_BlockReader_readBlock 1 = .ok (.iload_n 1, 1) := by decide +kernel
theorem d_BlockReader_readBlock_2 : decode c_BlockReader_readBlock 2 = .ok (.putfield 9, 3) := by decide +kernel
theorem d_BlockReader_readBlock_5 : decode c_BlockReader_readBlock 5 = .ok (.aload_n 0, 1) := by decide +kernel
theorem d_BlockReader_readBlock_6 : decode c_BlockReader_readBlock 6 = .ok (.iload_n 2, 1) := by decide +kernel
theorem d_BlockReader_readBlock_7 : decode c_BlockReader_readBlock 7 = .ok (.putfield 15, 3) := by decide +kernel
theorem d_BlockReader_readBlock_10 : decode c_BlockReader_readBlock 10 = .ok (.aload_n 0, 1) := by decide +kernel
theorem d_BlockReader_readBlock_11 : decode c_BlockReader_readBlock 11 = .ok (.aload_n 0, 1) := by decide +kernel
theorem d_BlockReader_readBlock_12 : decode c_BlockReader_readBlock 12 = .ok (.getfield 35, 3) := by decide +kernel
theorem d_BlockReader_readBlock_15 : decode c_BlockReader_readBlock 15 = .ok (.getfield 38, 3) := by decide +kernel
theorem d_BlockReader_readBlock_18 : decode c_BlockReader_readBlock 18 = .ok (.putfield 18, 3) := by decide +kernel
theorem d_BlockReader_readBlock_21 : decode c_BlockReader_readBlock 21 = .ok (.aload_n 0, 1) := by decide +kernel
theorem d_BlockReader_readBlock_22 : decode c_BlockReader_readBlock 22 = .ok (.iconst 0, 1) := by decide +kernel
theorem d_BlockReader_readBlock_23 : decode c_BlockReader_readBlock 23 = .ok (.putfield 25, 3) := by decide +kernel
theorem d_BlockReader_readBlock_26 : decode c_BlockReader_readBlock 26 = .ok (.aload_n 0, 1) := by decide +kernel
theorem d_BlockReader_readBlock_27 : decode c_BlockReader_readBlock 27 = .ok (.iload_n 3, 1) := by decide +kernel
theorem d_BlockReader_readBlock_28 : decode c_BlockReader_readBlock 28 = .ok (.invokevirtual 43, 3) := by decide +kernel
theorem d_BlockReader_readBlock_31 : decode c_BlockReader_readBlock 31 = .ok (.iconst 0, 1) := by decide +kernel
theorem d_BlockReader_readBlock_32 : decode c_BlockReader_readBlock 32 = .ok (.istore 4, 2) := by decide +kernel
theorem d_BlockReader_readBlock_34 : decode c_BlockReader_readBlock 34 = .ok (.iload 4, 2) := by decide +kernel
theorem d_BlockReader_readBlock_36 : decode c_BlockReader_readBlock 36 = .ok (.sipush 10000, 3) := by decide +kernel
theorem d_BlockReader_readBlock_39 : decode c_BlockReader_readBlock 39 = .ok (.if_icmp .ge 31, 3) := by decide +kernel
theorem d_BlockReader_readBlock_42 : decode c_BlockReader_readBlock 42 = .ok (.aload_n 0, 1) := by decide +kernel
theorem d_BlockReader_readBlock_43 : decode c_BlockReader_readBlock 43 = .ok (.getfield 25, 3) := by decide +kernel
theorem d_BlockReader_readBlock_46 : decode c_BlockReader_readBlock 46 = .ok (.ifCond .ne 24, 3) := by decide +kernel
theorem d_BlockReader_readBlock_49 : decode c_BlockReader_readBlock 49 = .ok (.aload_n 0, 1) := by decide +kernel
theorem d_BlockReader_readBlock_50 : decode c_BlockReader_readBlock 50 = .ok (.getfield 9, 3) := by decide +kernel
theorem d_BlockReader_readBlock_53 : decode c_BlockReader_readBlock 53 = .ok (.aload_n 0, 1) := by decide +kernel
theorem d_BlockReader_readBlock_54 : decode c_BlockReader_readBlock 54 = .ok (.getfield 15, 3) := by decide +kernel
theorem d_BlockReader_readBlock_57 : decode c_BlockReader_readBlock 57 = .ok (.if_icmp .ge 13, 3) := by decide +kernel
theorem d_BlockReader_readBlock_60 : decode c_BlockReader_readBlock 60 = .ok (.aload_n 0, 1) := by decide +kernel
theorem d_BlockReader_readBlock_61 : decode c_BlockReader_readBlock 61 = .ok (.invokevirtual 47, 3) := by decide +kernel
theorem d_BlockReader_readBlock_64 : decode c_BlockReader_readBlock 64 = .ok (.iinc 4 1, 3) := by decide +kernel
theorem d_BlockReader_readBlock_67 : decode c_BlockReader_readBlock 67 = .ok (.goto (-33), 3) := by decide +kernel
theorem d_BlockReader_readBlock_70 : decode c_BlockReader_readBlock 70 = .ok (.aload_n 0, 1) := by decide +kernel
theorem d_BlockReader_readBlock_71 : decode c_BlockReader_readBlock 71 = .ok (.getfield 25, 3) := by decide +kernel
theorem d_BlockReader_readBlock_74 : decode c_BlockReader_readBlock 74 = .ok (.ifCond .ne 26, 3) := by decide +kernel
theorem d_BlockReader_readBlock_77 : decode c_BlockReader_readBlock 77 = .ok (.aload_n 0, 1) := by decide +kernel
theorem d_BlockReader_readBlock_78 : decode c_BlockReader_readBlock 78 = .ok (.invokevirtual 50, 3) := by decide +kernel
theorem d_BlockReader_readBlock_81 : decode c_BlockReader_readBlock 81 = .ok (.i2l, 1) := by decide +kernel
theorem d_BlockReader_readBlock_82 : decode c_BlockReader_readBlock 82 = .ok (.aload_n 0, 1) := by decide +kernel
theorem d_BlockReader_readBlock_83 : decode c_BlockReader_readBlock 83 = .ok (.getfield 21, 3) := by decide +kernel
theorem d_BlockReader_readBlock_86 : decode c_BlockReader_readBlock 86 = .ok (.lcmp, 1) := by decide +kernel
theorem d_BlockReader_readBlock_87 : decode c_BlockReader_readBlock 87 = .ok (.ifCond .ge 13, 3) := by decide +kernel
theorem d_BlockReader_readBlock_90 : decode c_BlockReader_readBlock 90 = .ok (.aload_n 0, 1) := by decide +kernel
theorem d_BlockReader_readBlock_91 : decode c_BlockReader_readBlock 91 = .ok (.bipush 6, 2) := by decide +kernel
theorem d_BlockReader_readBlock_93 : decode c_BlockReader_readBlock 93 = .ok (.aload_n 0, 1) := by decide +kernel
theorem d_BlockReader_readBlock_94 : decode c_BlockReader_readBlock 94 = .ok (.getfield 15, 3) := by decide +kernel
theorem d_BlockReader_readBlock_97 : decode c_BlockReader_readBlock 97 = .ok (.invokevirtual 54, 3) := by decide +kernel
theorem d_BlockReader_readBlock_100 : decode c_BlockReader_readBlock 100 = .ok (.return_, 1) := by decide +kernel
theorem d_BlockReader_readLength_0 : decode c_BlockReader_readLength 0 = .ok (.aload_n 0, 1) := by decide +kernel
theorem d_BlockReader_readLength_1 : decode c_BlockReader_readLength 1 = .ok (.getfield 9, 3) := by decide +kernel
theorem d_BlockReader_readLength_4 : decode c_BlockReader_readLength 4 = .ok (.istore_n 2, 1) := by decide +kernel
theorem d_BlockReader_readLength_5 : decode c_BlockReader_readLength 5 = .ok (.sipush 128, 3) := by decide +kernel
theorem d_BlockReader_readLength_8 : decode c_BlockReader_readLength 8 = .ok (.istore_n 3, 1) := by decide +kernel
theorem d_BlockReader_readLength_9 : decode c_BlockReader_readLength 9 = .ok (.aload_n 0, 1) := by decide +kernel
theorem d_BlockReader_readLength_10 : decode c_BlockReader_readLength 10 = .ok (.lconst 0, 1) := by decide +kernel
theorem d_BlockReader_readLength_11 : decode c_BlockReader_readLength 11 = .ok (.putfield 21, 3) := by decide +kernel
theorem d_BlockReader_readLength_14 : decode c_BlockReader_readLength 14 = .ok (.iconst 0, 1) := by decide +kernel
theorem d_BlockReader_readLength_15 : decode c_BlockReader_readLength 15 = .ok (.istore 4, 2) := by decide +kernel
theorem d_BlockReader_readLength_17 : decode c_BlockReader_readLength 17 = .ok (.iload 4, 2) := by decide +kernel
theorem d_BlockReader_readLength_19 : decode c_BlockReader_readLength 19 = .ok (.iconst 5, 1) := by decide +kernel
theorem d_BlockReader_readLength_20 : decode c_BlockReader_readLength 20 = .ok (.if_icmp .ge 65, 3) := by decide +kernel
theorem d_BlockReader_readLength_23 : decode c_BlockReader_readLength 23 = .ok (.iload_n 3, 1) := by decide +kernel
theorem d_BlockReader_readLength_24 : decode c_BlockReader_readLength 24 = .ok (.bipush 127, 2) := by decide +kernel
theorem d_BlockReader_readLength_26 : decode c_BlockReader_readLength 26 = .ok (.if_icmp .le 59, 3) := by decide +kernel
theorem d_BlockReader_readLength_29 : decode c_BlockReader_readLength 29 = .ok (.aload_n 0, 1) := by decide +kernel
theorem d_BlockReader_readLength_30 : decode c_BlockReader_readLength 30 = .ok (.getfield 25, 3) := by decide +kernel
theorem d_BlockReader_readLength_33 : decode c_BlockReader_readLength 33 = .ok (.ifCond .ne 52, 3) := by decide +kernel
theorem d_BlockReader_readLength_36 : decode c_BlockReader_readLength 36 = .ok (.aload_n 0, 1) := by decide +kernel
theorem d_BlockReader_readLength_37 : decode c_BlockReader_readLength 37 = .ok (.invokevirtual 58, 3) := by decide +kernel
theorem d_BlockReader_readLength_40 : decode c_BlockReader_readLength 40 = .ok (.istore_n 3, 1) := by decide +kernel
theorem d_BlockReader_readLength_41 : decode c_BlockReader_readLength 41 = .ok (.aload_n 0, 1) := by decide +kernel
theorem d_BlockReader_readLength_42 : decode c_BlockReader_readLength 42 = .ok (.dup, 1) := by decide +kernel
theorem d_BlockReader_readLength_43 : decode c_BlockReader_readLength 43 = .ok (.getfield 21, 3) := by decide +kernel
theorem d_BlockReader_readLength_46 : decode c_BlockReader_readLength 46 = .ok (.iload_n 3, 1) := by decide +kernel
theorem d_BlockReader_readLength_47 : decode c_BlockReader_readLength 47 = .ok (.bipush 127, 2) := by decide +kernel
theorem d_BlockReader_readLength_49 : decode c_BlockReader_readLength 49 = .ok (.iand, 1) := by decide +kernel
theorem d_BlockReader_readLength_50 : decode c_BlockReader_readLength 50 = .ok (.i2l, 1) := by decide +kernel
theorem d_BlockReader_readLength_51 : decode c_BlockReader_readLength 51 = .ok (.bipush 7, 2) := by decide +kernel
theorem d_BlockReader_readLength_53 : decode c_BlockReader_readLength 53 = .ok (.iload 4, 2) := by decide +kernel
theorem d_BlockReader_readLength_55 : decode c_BlockReader_readLength 55 = .ok (.imul, 1) := by decide +kernel
theorem d_BlockReader_readLength_56 : decode c_BlockReader_readLength 56 = .ok (.lshl, 1) := by decide +kernel
theorem d_BlockReader_readLength_57 : decode c_BlockReader_readLength 57 = .ok (.lor, 1) := by decide +kernel
theorem d_BlockReader_readLength_58 : decode c_BlockReader_readLength 58 = .ok (.putfield 21, 3) := by decide +kernel
theorem d_BlockReader_readLength_61 : decode c_BlockReader_readLength 61 = .ok (.iload 4, 2) := by decide +kernel
theorem d_BlockReader_readLength_63 : decode c_BlockReader_readLength 63 = .ok (.iconst 4, 1) := by decide +kernel
theorem d_BlockReader_readLength_64 : decode c_BlockReader_readLength 64 = .ok (.if_icmp .ne 15, 3) := by decide +kernel
theorem d_BlockReader_readLength_67 : decode c_BlockReader_readLength 67 = .ok (.iload_n 3, 1) := by decide +kernel
theorem d_BlockReader_readLength_68 : decode c_BlockReader_readLength 68 = .ok (.bipush 15, 2) := by decide +kernel
theorem d_BlockReader_readLength_70 : decode c_BlockReader_readLength 70 = .ok (.if_icmp .le 9, 3) := by decide +kernel
theorem d_BlockReader_readLength_73 : decode c_BlockReader_readLength 73 = .ok (.aload_n 0, 1) := by decide +kernel
theorem d_BlockReader_readLength_74 : decode c_BlockReader_readLength 74 = .ok (.iconst 2, 1) := by decide +kernel
theorem d_BlockReader_readLength_75 : decode c_BlockReader_readLength 75 = .ok (.iload_n 2, 1) := by decide +kernel
theorem d_BlockReader_readLength_76 : decode c_BlockReader_readLength 76 = .ok (.invokevirtual 54, 3) := by decide +kernel
theorem d_BlockReader_readLength_79 : decode c_BlockReader_readLength 79 = .ok (.iinc 4 1, 3) := by decide +kernel
theorem d_BlockReader_readLength_82 : decode c_BlockReader_readLength 82 = .ok (.goto (-65), 3) := by decide +kernel
theorem d_BlockReader_readLength_85 : decode c_BlockReader_readLength 85 = .ok (.aload_n 0, 1) := by decide +kernel
theorem d_BlockReader_readLength_86 : decode c_BlockReader_readLength 86 = .ok (.getfield 21, 3) := by decide +kernel
theorem d_BlockReader_readLength_89 : decode c_BlockReader_readLength 89 = .ok (.iload_n 1, 1) := by decide +kernel
theorem d_BlockReader_readLength_90 : decode c_BlockReader_readLength 90 = .ok (.i2l, 1) := by decide +kernel
theorem d_BlockReader_readLength_91 : decode c_BlockReader_readLength 91 = .ok (.lcmp, 1) := by decide +kernel
theorem d_BlockReader_readLength_92 : decode c_BlockReader_readLength 92 = .ok (.ifCond .le 9, 3) := by decide +kernel
theorem d_BlockReader_readLength_95 : decode c_BlockReader_readLength 95 = .ok (.aload_n 0, 1) := by decide +kernel
theorem d_BlockReader_readLength_96 : decode c_BlockReader_readLength 96 = .ok (.iconst 3, 1) := by decide +kernel
theorem d_BlockReader_readLength_97 : decode c_BlockReader_readLength 97 = .ok (.iload_n 2, 1) := by decide +kernel
theorem d_BlockReader_readLength_98 : decode c_BlockReader_readLength 98 = .ok (.invokevirtual 54, 3) := by decide +kernel
theorem d_BlockReader_readLength_101 : decode c_BlockReader_readLength 101 = .ok (.return_, 1) := by decide +kernel
theorem d_BlockReader_readElement_0 : decode c_BlockReader_readElement 0 = .ok (.aload_n 0, 1) := by decide +kernel
theorem d_BlockReader_readElement_1 : decode c_BlockReader_readElement 1 = .ok (.getfield 9, 3) := by decide +kernel
theorem d_BlockReader_readElement_4 : decode c_BlockReader_readElement 4 = .ok (.istore_n 1, 1) := by decide +kernel
theorem d_BlockReader_readElement_5 : decode c_BlockReader_readElement 5 = .ok (.aload_n 0, 1) := by decide +kernel
theorem d_BlockReader_readElement_6 : decode c_BlockReader_readElement 6 = .ok (.invokevirtual 58, 3) := by decide +kernel
theorem d_BlockReader_readElement_9 : decode c_BlockReader_readElement 9 = .ok (.istore_n 2, 1) := by decide +kernel
theorem d_BlockReader_readElement_10 : decode c_BlockReader_readElement 10 = .ok (.iload_n 2, 1) := by decide +kernel
theorem d_BlockReader_readElement_11 : decode c_BlockReader_readElement 11 = .ok (.iconst 2, 1) := by decide +kernel
theorem d_BlockReader_readElement_12 : decode c_BlockReader_readElement 12 = .ok (.ishr, 1) := by decide +kernel
theorem d_BlockReader_readElement_13 : decode c_BlockReader_readElement 13 = .ok (.istore_n 3, 1) := by decide +kernel
theorem d_BlockReader_readElement_14 : decode c_BlockReader_readElement 14 = .ok (.iload_n 2, 1) := by decide +kernel
theorem d_BlockReader_readElement_15 : decode c_BlockReader_readElement 15 = .ok (.iconst 3, 1) := by decide +kernel
theorem d_BlockReader_readElement_16 : decode c_BlockReader_readElement 16 = .ok (.iand, 1) := by decide +kernel
theorem d_BlockReader_readElement_17 : decode c_BlockReader_readElement 17 = .ok (.tableswitch 100 0 2 #[27, 56, 84], 27) := by decide +kernel
theorem d_BlockReader_readElement_44 : decode c_BlockReader_readElement 44 = .ok (.aload_n 0, 1) := by decide +kernel
theorem d_BlockReader_readElement_45 : decode c_BlockReader_readElement 45 = .ok (.iload_n 1, 1) := by decide +kernel
theorem d_BlockReader_readElement_46 : decode c_BlockReader_readElement 46 = .ok (.lconst 1, 1) := by decide +kernel
theorem d_BlockReader_readElement_47 : decode c_BlockReader_readElement 47 = .ok (.iload_n 3, 1) := by decide +kernel
theorem d_BlockReader_readElement_48 : decode c_BlockReader_readElement 48 = .ok (.bipush 60, 2) := by decide +kernel
theorem d_BlockReader_readElement_50 : decode c_BlockReader_readElement 50 = .ok (.if_icmp .ge 8, 3) := by decide +kernel
theorem d_BlockReader_readElement_53 : decode c_BlockReader_readElement 53 = .ok (.iload_n 3, 1) := by decide +kernel
theorem d_BlockReader_readElement_54 : decode c_BlockReader_readElement 54 = .ok (.i2l, 1) := by decide +kernel
theorem d_BlockReader_readElement_55 : decode c_BlockReader_readElement 55 = .ok (.goto 11, 3) := by decide +kernel
theorem d_BlockReader_readElement_58 : decode c_BlockReader_readElement 58 = .ok (.aload_n 0, 1) := by decide +kernel
theorem d_BlockReader_readElement_59 : decode c_BlockReader_readElement 59 = .ok (.iload_n 3, 1) := by decide +kernel
theorem d_BlockReader_readElement_60 : decode c_BlockReader_readElement 60 = .ok (.bipush 59, 2) := by decide +kernel
theorem d_BlockReader_readElement_62 : decode c_BlockReader_readElement 62 = .ok (.isub, 1) := by decide +kernel
theorem d_BlockReader_readElement_63 : decode c_BlockReader_readElement 63 = .ok (.invokevirtual 61, 3) := by decide +kernel
theorem d_BlockReader_readElement_66 : decode c_BlockReader_readElement 66 = .ok (.ladd, 1) := by decide +kernel
theorem d_BlockReader_readElement_67 : decode c_BlockReader_readElement 67 = .ok (.invokevirtual 65, 3) := by decide +kernel
theorem d_BlockReader_readElement_70 : decode c_BlockReader_readElement 70 = .ok (.goto 60, 3) := by decide +kernel
theorem d_BlockReader_readElement_73 : decode c_BlockReader_readElement 73 = .ok (.aload_n 0, 1) := by decide +kernel
theorem d_BlockReader_readElement_74 : decode c_BlockReader_readElement 74 = .ok (.iload_n 1, 1) := by decide +kernel
theorem d_BlockReader_readElement_75 : decode c_BlockReader_readElement 75 = .ok (.iload_n 3, 1) := by decide +kernel
theorem d_BlockReader_readElement_76 : decode c_BlockReader_readElement 76 = .ok (.bipush 8, 2) := by decide +kernel
theorem d_BlockReader_readElement_78 : decode c_BlockReader_readElement 78 = .ok (.irem, 1) := by decide +kernel
theorem d_BlockReader_readElement_79 : decode c_BlockReader_readElement 79 = .ok (.iconst 4, 1) := by decide +kernel
theorem d_BlockReader_readElement_80 : decode c_BlockReader_readElement 80 = .ok (.iadd, 1) := by decide +kernel
theorem d_BlockReader_readElement_81 : decode c_BlockReader_readElement 81 = .ok (.aload_n 0, 1) := by decide +kernel
theorem d_BlockReader_readElement_82 : decode c_BlockReader_readElement 82 = .ok (.invokevirtual 58, 3) := by decide +kernel
theorem d_BlockReader_readElement_85 : decode c_BlockReader_readElement 85 = .ok (.sipush 256, 3) := by decide +kernel
theorem d_BlockReader_readElement_88 : decode c_BlockReader_readElement 88 = .ok (.iload_n 3, 1) := by decide +kernel
theorem d_BlockReader_readElement_89 : decode c_BlockReader_readElement 89 = .ok (.bipush 8, 2) := by decide +kernel
theorem d_BlockReader_readElement_91 : decode c_BlockReader_readElement 91 = .ok (.idiv, 1) := by decide +kernel
theorem d_BlockReader_readElement_92 : decode c_BlockReader_readElement 92 = .ok (.imul, 1) := by decide +kernel
theorem d_BlockReader_readElement_93 : decode c_BlockReader_readElement 93 = .ok (.iadd, 1) := by decide +kernel
theorem d_BlockReader_readElement_94 : decode c_BlockReader_readElement 94 = .ok (.i2l, 1) := by decide +kernel
theorem d_BlockReader_readElement_95 : decode c_BlockReader_readElement 95 = .ok (.invokevirtual 69, 3) := by decide +kernel
theorem d_BlockReader_readElement_98 : decode c_BlockReader_readElement 98 = .ok (.goto 32, 3) := by decide +kernel
theorem d_BlockReader_readElement_101 : decode c_BlockReader_readElement 101 = .ok (.aload_n 0, 1) := by decide +kernel
theorem d_BlockReader_readElement_102 : decode c_BlockReader_readElement 102 = .ok (.iload_n 1, 1) := by decide +kernel
theorem d_BlockReader_readElement_103 : decode c_BlockReader_readElement 103 = .ok (.iload_n 3, 1) := by decide +kernel
theorem d_BlockReader_readElement_104 : decode c_BlockReader_readElement 104 = .ok (.iconst 1, 1) := by decide +kernel
theorem d_BlockReader_readElement_105 : decode c_BlockReader_readElement 105 = .ok (.iadd, 1) := by decide +kernel
theorem d_BlockReader_readElement_106 : decode c_BlockReader_readElement 106 = .ok (.aload_n 0, 1) := by decide +kernel
theorem d_BlockReader_readElement_107 : decode c_BlockReader_readElement 107 = .ok (.iconst 2, 1) := by decide +kernel
theorem d_BlockReader_readElement_108 : decode c_BlockReader_readElement 108 = .ok (.invokevirtual 61, 3) := by decide +kernel
theorem d_BlockReader_readElement_111 : decode c_BlockReader_readElement 111 = .ok (.invokevirtual 69, 3) := by decide +kernel
theorem d_BlockReader_readElement_114 : decode c_BlockReader_readElement 114 = .ok (.goto 16, 3) := by decide +kernel
theorem d_BlockReader_readElement_117 : decode c_BlockReader_readElement 117 = .ok (.aload_n 0, 1) := by decide +kernel
theorem d_BlockReader_readElement_118 : decode c_BlockReader_readElement 118 = .ok (.iload_n 1, 1) := by decide +kernel
theorem d_BlockReader_readElement_119 : decode c_BlockReader_readElement 119 = .ok (.iload_n 3, 1) := by decide +kernel
theorem d_BlockReader_readElement_120 : decode c_BlockReader_readElement 120 = .ok (.iconst 1, 1) := by decide +kernel
theorem d_BlockReader_readElement_121 : decode c_BlockReader_readElement 121 = .ok (.iadd, 1) := by decide +kernel
theorem d_BlockReader_readElement_122 : decode c_BlockReader_readElement 122 = .ok (.aload_n 0, 1) := by decide +kernel
theorem d_BlockReader_readElement_123 : decode c_BlockReader_readElement 123 = .ok (.iconst 4, 1) := by decide +kernel
theorem d_BlockReader_readElement_124 : decode c_BlockReader_readElement 124 = .ok (.invokevirtual 61, 3) := by decide +kernel
theorem d_BlockReader_readElement_127 : decode c_BlockReader_readElement 127 = .ok (.invokevirtual 69, 3) := by decide +kernel
theorem d_BlockReader_readElement_130 : decode c_BlockReader_readElement 130 = .ok (.return_, 1) := by decide +kernel
theorem d_BlockReader_readLiterals_0 : decode c_BlockReader_readLiterals 0 = .ok (.lload_n 2, 1) := by decide +kernel
theorem d_BlockReader_readLiterals_1 : decode c_BlockReader_readLiterals 1 = .ok (.aload_n 0, 1) := by decide +kernel
theorem d_BlockReader_readLiterals_2 : decode c_BlockReader_readLiterals 2 = .ok (.getfield 21, 3) := by decide +kernel
theorem d_BlockReader_readLiterals_5 : decode c_BlockReader_readLiterals 5 = .ok (.aload_n 0, 1) := by decide +kernel
theorem d_BlockReader_readLiterals_6 : decode c_BlockReader_readLiterals 6 = .ok (.invokevirtual 50, 3) := by decide +kernel
theorem d_BlockReader_readLiterals_9 : decode c_BlockReader_readLiterals 9 = .ok (.i2l, 1) := by decide +kernel
theorem d_BlockReader_readLiterals_10 : decode c_BlockReader_readLiterals 10 = .ok (.lsub, 1) := by decide +kernel
theorem d_BlockReader_readLiterals_11 : decode c_BlockReader_readLiterals 11 = .ok (.lcmp, 1) := by decide +kernel
theorem d_BlockReader_readLiterals_12 : decode c_BlockReader_readLiterals 12 = .ok (.ifCond .le 9, 3) := by decide +kernel
theorem d_BlockReader_readLiterals_15 : decode c_BlockReader_readLiterals 15 = .ok (.aload_n 0, 1) := by decide +kernel
theorem d_BlockReader_readLiterals_16 : decode c_BlockReader_readLiterals 16 = .ok (.iconst 5, 1) := by decide +kernel
theorem d_BlockReader_readLiterals_17 : decode c_BlockReader_readLiterals 17 = .ok (.iload_n 1, 1) := by decide +kernel
theorem d_BlockReader_readLiterals_18 : decode c_BlockReader_readLiterals 18 = .ok (.invokevirtual 54, 3) := by decide +kernel
theorem d_BlockReader_readLiterals_21 : decode c_BlockReader_readLiterals 21 = .ok (.lload_n 2, 1) := by decide +kernel
theorem d_BlockReader_readLiterals_22 : decode c_BlockReader_readLiterals 22 = .ok (.aload_n 0, 1) := by decide +kernel
theorem d_BlockReader_readLiterals_23 : decode c_BlockReader_readLiterals 23 = .ok (.getfield 15, 3) := by decide +kernel
theorem d_BlockReader_readLiterals_26 : decode c_BlockReader_readLiterals 26 = .ok (.aload_n 0, 1) := by decide +kernel
theorem d_BlockReader_readLiterals_27 : decode c_BlockReader_readLiterals 27 = .ok (.getfield 9, 3) := by decide +kernel
theorem d_BlockReader_readLiterals_30 : decode c_BlockReader_readLiterals 30 = .ok (.isub, 1) := by decide +kernel
theorem d_BlockReader_readLiterals_31 : decode c_BlockReader_readLiterals 31 = .ok (.i2l, 1) := by decide +kernel
theorem d_BlockReader_readLiterals_32 : decode c_BlockReader_readLiterals 32 = .ok (.lcmp, 1) := by decide +kernel
theorem d_BlockReader_readLiterals_33 : decode c_BlockReader_readLiterals 33 = .ok (.ifCond .le 12, 3) := by decide +kernel
theorem d_BlockReader_readLiterals_36 : decode c_BlockReader_readLiterals 36 = .ok (.aload_n 0, 1) := by decide +kernel
theorem d_BlockReader_readLiterals_37 : decode c_BlockReader_readLiterals 37 = .ok (.iconst 1, 1) := by decide +kernel
theorem d_BlockReader_readLiterals_38 : decode c_BlockReader_readLiterals 38 = .ok (.aload_n 0, 1) := by decide +kernel
theorem d_BlockReader_readLiterals_39 : decode c_BlockReader_readLiterals 39 = .ok (.getfield 15, 3) := by decide +kernel
theorem d_BlockReader_readLiterals_42 : decode c_BlockReader_readLiterals 42 = .ok (.invokevirtual 54, 3) := by decide +kernel
theorem d_BlockReader_readLiterals_45 : decode c_BlockReader_readLiterals 45 = .ok (.aload_n 0, 1) := by decide +kernel
theorem d_BlockReader_readLiterals_46 : decode c_BlockReader_readLiterals 46 = .ok (.getfield 25, 3) := by decide +kernel
theorem d_BlockReader_readLiterals_49 : decode c_BlockReader_readLiterals 49 = .ok (.ifCond .ne 36, 3) := by decide +kernel
theorem d_BlockReader_readLiterals_52 : decode c_BlockReader_readLiterals 52 = .ok (.aload_n 0, 1) := by decide +kernel
theorem d_BlockReader_readLiterals_53 : decode c_BlockReader_readLiterals 53 = .ok (.getfield 35, 3) := by decide +kernel
theorem d_BlockReader_readLiterals_56 : decode c_BlockReader_readLiterals 56 = .ok (.aload_n 0, 1) := by decide +kernel
theorem d_BlockReader_readLiterals_57 : decode c_BlockReader_readLiterals 57 = .ok (.getfield 31, 3) := by decide +kernel
theorem d_BlockReader_readLiterals_60 : decode c_BlockReader_readLiterals 60 = .ok (.aload_n 0, 1) := by decide +kernel
theorem d_BlockReader_readLiterals_61 : decode c_BlockReader_readLiterals 61 = .ok (.getfield 9, 3) := by decide +kernel
theorem d_BlockReader_readLiterals_64 : decode c_BlockReader_readLiterals 64 = .ok (.aload_n 0, 1) := by decide +kernel
theorem d_BlockReader_readLiterals_65 : decode c_BlockReader_readLiterals 65 = .ok (.getfield 9, 3) := by decide +kernel
theorem d_BlockReader_readLiterals_68 : decode c_BlockReader_readLiterals 68 = .ok (.lload_n 2, 1) := by decide +kernel
theorem d_BlockReader_readLiterals_69 : decode c_BlockReader_readLiterals 69 = .ok (.l2i, 1) := by decide +kernel
theorem d_BlockReader_readLiterals_70 : decode c_BlockReader_readLiterals 70 = .ok (.iadd, 1) := by decide +kernel
theorem d_BlockReader_readLiterals_71 : decode c_BlockReader_readLiterals 71 = .ok (.invokevirtual 73, 3) := by decide +kernel
theorem d_BlockReader_readLiterals_74 : decode c_BlockReader_readLiterals 74 = .ok (.aload_n 0, 1) := by decide +kernel
theorem d_BlockReader_readLiterals_75 : decode c_BlockReader_readLiterals 75 = .ok (.dup, 1) := by decide +kernel
theorem d_BlockReader_readLiterals_76 : decode c_BlockReader_readLiterals 76 = .ok (.getfield 9, 3) := by decide +kernel
theorem d_BlockReader_readLiterals_79 : decode c_BlockReader_readLiterals 79 = .ok (.lload_n 2, 1) := by decide +kernel
theorem d_BlockReader_readLiterals_80 : decode c_BlockReader_readLiterals 80 = .ok (.l2i, 1) := by decide +kernel
theorem d_BlockReader_readLiterals_81 : decode c_BlockReader_readLiterals 81 = .ok (.iadd, 1) := by decide +kernel
theorem d_BlockReader_readLiterals_82 : decode c_BlockReader_readLiterals 82 = .ok (.putfield 9, 3) := by decide +kernel
theorem d_BlockReader_readLiterals_85 : decode c_BlockReader_readLiterals 85 = .ok (.return_, 1) := by decide +kernel
theorem d_BlockReader_readCopy_0 : decode c_BlockReader_readCopy 0 = .ok (.lload_n 3, 1) := by decide +kernel
theorem d_BlockReader_readCopy_1 : decode c_BlockReader_readCopy 1 = .ok (.lconst 0, 1) := by decide +kernel
theorem d_BlockReader_readCopy_2 : decode c_BlockReader_readCopy 2 = .ok (.lcmp, 1) := by decide +kernel
theorem d_BlockReader_readCopy_3 : decode c_BlockReader_readCopy 3 = .ok (.ifCond .eq 13, 3) := by decide +kernel
theorem d_BlockReader_readCopy_6 : decode c_BlockReader_readCopy 6 = .ok (.lload_n 3, 1) := by decide +kernel
theorem d_BlockReader_readCopy_7 : decode c_BlockReader_readCopy 7 = .ok (.aload_n 0, 1) := by decide +kernel
theorem d_BlockReader_readCopy_8 : decode c_BlockReader_readCopy 8 = .ok (.invokevirtual 50, 3) := by decide +kernel
theorem d_BlockReader_readCopy_11 : decode c_BlockReader_readCopy 11 = .ok (.i2l, 1) := by decide +kernel
theorem d_BlockReader_readCopy_12 : decode c_BlockReader_readCopy 12 = .ok (.lcmp, 1) := by decide +kernel
theorem d_BlockReader_readCopy_13 : decode c_BlockReader_readCopy 13 = .ok (.ifCond .le 9, 3) := by decide +kernel
theorem d_BlockReader_readCopy_16 : decode c_BlockReader_readCopy 16 = .ok (.aload_n 0, 1) := by decide +kernel
theorem d_BlockReader_readCopy_17 : decode c_BlockReader_readCopy 17 = .ok (.iconst 4, 1) := by decide +kernel
theorem d_BlockReader_readCopy_18 : decode c_BlockReader_readCopy 18 = .ok (.iload_n 1, 1) := by decide +kernel
theorem d_BlockReader_readCopy_19 : decode c_BlockReader_readCopy 19 = .ok (.invokevirtual 54, 3) := by decide +kernel
theorem d_BlockReader_readCopy_22 : decode c_BlockReader_readCopy 22 = .ok (.iload_n 2, 1) := by decide +kernel
theorem d_BlockReader_readCopy_23 : decode c_BlockReader_readCopy 23 = .ok (.i2l, 1) := by decide +kernel
theorem d_BlockReader_readCopy_24 : decode c_BlockReader_readCopy 24 = .ok (.aload_n 0, 1) := by decide +kernel
theorem d_BlockReader_readCopy_25 : decode c_BlockReader_readCopy 25 = .ok (.getfield 21, 3) := by decide +kernel
theorem d_BlockReader_readCopy_28 : decode c_BlockReader_readCopy 28 = .ok (.aload_n 0, 1) := by decide +kernel
theorem d_BlockReader_readCopy_29 : decode c_BlockReader_readCopy 29 = .ok (.invokevirtual 50, 3) := by decide +kernel
theorem d_BlockReader_readCopy_32 : decode c_BlockReader_readCopy 32 = .ok (.i2l, 1) := by decide +kernel
theorem d_BlockReader_readCopy_33 : decode c_BlockReader_readCopy 33 = .ok (.lsub, 1) := by decide +kernel
theorem d_BlockReader_readCopy_34 : decode c_BlockReader_readCopy 34 = .ok (.lcmp, 1) := by decide +kernel
theorem d_BlockReader_readCopy_35 : decode c_BlockReader_readCopy 35 = .ok (.ifCond .le 9, 3) := by decide +kernel
theorem d_BlockReader_readCopy_38 : decode c_BlockReader_readCopy 38 = .ok (.aload_n 0, 1) := by decide +kernel
theorem d_BlockReader_readCopy_39 : decode c_BlockReader_readCopy 39 = .ok (.iconst 5, 1) := by decide +kernel
theorem d_BlockReader_readCopy_40 : decode c_BlockReader_readCopy 40 = .ok (.iload_n 1, 1) := by decide +kernel
theorem d_BlockReader_readCopy_41 : decode c_BlockReader_readCopy 41 = .ok (.invokevirtual 54, 3) := by decide +kernel
theorem d_BlockReader_readCopy_44 : decode c_BlockReader_readCopy 44 = .ok (.aload_n 0, 1) := by decide +kernel
theorem d_BlockReader_readCopy_45 : decode c_BlockReader_readCopy 45 = .ok (.getfield 25, 3) := by decide +kernel
theorem d_BlockReader_readCopy_48 : decode c_BlockReader_readCopy 48 = .ok (.ifCond .ne 13, 3) := by decide +kernel
theorem d_BlockReader_readCopy_51 : decode c_BlockReader_readCopy 51 = .ok (.aload_n 0, 1) := by decide +kernel
theorem d_BlockReader_readCopy_52 : decode c_BlockReader_readCopy 52 = .ok (.getfield 35, 3) := by decide +kernel
theorem d_BlockReader_readCopy_55 : decode c_BlockReader_readCopy 55 = .ok (.lload_n 3, 1) := by decide +kernel
theorem d_BlockReader_readCopy_56 : decode c_BlockReader_readCopy 56 = .ok (.l2i, 1) := by decide +kernel
theorem d_BlockReader_readCopy_57 : decode c_BlockReader_readCopy 57 = .ok (.iload_n 2, 1) := by decide +kernel
theorem d_BlockReader_readCopy_58 : decode c_BlockReader_readCopy 58 = .ok (.invokevirtual 77, 3) := by decide +kernel
theorem d_BlockReader_readCopy_61 : decode c_BlockReader_readCopy 61 = .ok (.return_, 1) := by decide +kernel
theorem d_BlockReader_made_0 : decode c_BlockReader_made 0 = .ok (.aload_n 0, 1) := by decide +kernel
theorem d_BlockReader_made_1 : decode c_BlockReader_made 1 = .ok (.getfield 35, 3) := by decide +kernel
theorem d_BlockReader_made_4 : decode c_BlockReader_made 4 = .ok (.getfield 38, 3) := by decide +kernel
theorem d_BlockReader_made_7 : decode c_BlockReader_made 7 = .ok (.aload_n 0, 1) := by decide +kernel
theorem d_BlockReader_made_8 : decode c_BlockReader_made 8 = .ok (.getfield 18, 3) := by decide +kernel
theorem d_BlockReader_made_11 : decode c_BlockReader_made 11 = .ok (.isub, 1) := by decide +kernel
theorem d_BlockReader_made_12 : decode c_BlockReader_made 12 = .ok (.ireturn, 1) := by decide +kernel
theorem d_BlockReader_next_0 : decode c_BlockReader_next 0 = .ok (.aload_n 0, 1) := by decide +kernel
theorem d_BlockReader_next_1 : decode c_BlockReader_next 1 = .ok (.getfield 9, 3) := by decide +kernel
theorem d_BlockReader_next_4 : decode c_BlockReader_next 4 = .ok (.aload_n 0, 1) := by decide +kernel
theorem d_BlockReader_next_5 : decode c_BlockReader_next 5 = .ok (.getfield 15, 3) := by decide +kernel
theorem d_BlockReader_next_8 : decode c_BlockReader_next 8 = .ok (.if_icmp .lt 14, 3) := by decide +kernel
theorem d_BlockReader_next_11 : decode c_BlockReader_next 11 = .ok (.aload_n 0, 1) := by decide +kernel
theorem d_BlockReader_next_12 : decode c_BlockReader_next 12 = .ok (.iconst 1, 1) := by decide +kernel
theorem d_BlockReader_next_13 : decode c_BlockReader_next 13 = .ok (.aload_n 0, 1) := by decide +kernel
theorem d_BlockReader_next_14 : decode c_BlockReader_next 14 = .ok (.getfield 15, 3) := by decide +kernel
theorem d_BlockReader_next_17 : decode c_BlockReader_next 17 = .ok (.invokevirtual 54, 3) := by decide +kernel
theorem d_BlockReader_next_20 : decode c_BlockReader_next 20 = .ok (.iconst 0, 1) := by decide +kernel
theorem d_BlockReader_next_21 : decode c_BlockReader_next 21 = .ok (.ireturn, 1) := by decide +kernel
theorem d_BlockReader_next_22 : decode c_BlockReader_next 22 = .ok (.aload_n 0, 1) := by decide +kernel
theorem d_BlockReader_next_23 : decode c_BlockReader_next 23 = .ok (.dup, 1) := by decide +kernel
theorem d_BlockReader_next_24 : decode c_BlockReader_next 24 = .ok (.getfield 9, 3) := by decide +kernel
theorem d_BlockReader_next_27 : decode c_BlockReader_next 27 = .ok (.iconst 1, 1) := by decide +kernel
theorem d_BlockReader_next_28 : decode c_BlockReader_next 28 = .ok (.iadd, 1) := by decide +kernel
theorem d_BlockReader_next_29 : decode c_BlockReader_next 29 = .ok (.putfield 9, 3) := by decide +kernel
theorem d_BlockReader_next_32 : decode c_BlockReader_next 32 = .ok (.aload_n 0, 1) := by decide +kernel
theorem d_BlockReader_next_33 : decode c_BlockReader_next 33 = .ok (.getfield 31, 3) := by decide +kernel
theorem d_BlockReader_next_36 : decode c_BlockReader_next 36 = .ok (.aload_n 0, 1) := by decide +kernel
theorem d_BlockReader_next_37 : decode c_BlockReader_next 37 = .ok (.getfield 9, 3) := by decide +kernel
theorem d_BlockReader_next_40 : decode c_BlockReader_next 40 = .ok (.iconst 1, 1) := by decide +kernel
theorem d_BlockReader_next_41 : decode c_BlockReader_next 41 = .ok (.isub, 1) := by decide +kernel
theorem d_BlockReader_next_42 : decode c_BlockReader_next 42 = .ok (.invokevirtual 80, 3) := by decide +kernel
theorem d_BlockReader_next_45 : decode c_BlockReader_next 45 = .ok (.sipush 255, 3) := by decide +kernel
theorem d_BlockReader_next_48 : decode c_BlockReader_next 48 = .ok (.iand, 1) := by decide +kernel
theorem d_BlockReader_next_49 : decode c_BlockReader_next 49 = .ok (.ireturn, 1) := by decide +kernel
theorem d_BlockReader_nextNumber_0 : decode c_BlockReader_nextNumber 0 = .ok (.iload_n 1, 1) := by decide +kernel
theorem d_BlockReader_nextNumber_1 : decode c_BlockReader_nextNumber 1 = .ok (.aload_n 0, 1) := by decide +kernel
theorem d_BlockReader_nextNumber_2 : decode c_BlockReader_nextNumber 2 = .ok (.getfield 15, 3) := by decide +kernel
theorem d_BlockReader_nextNumber_5 : decode c_BlockReader_nextNumber 5 = .ok (.aload_n 0, 1) := by decide +kernel
theorem d_BlockReader_nextNumber_6 : decode c_BlockReader_nextNumber 6 = .ok (.getfield 9, 3) := by decide +kernel
theorem d_BlockReader_nextNumber_9 : decode c_BlockReader_nextNumber 9 = .ok (.isub, 1) := by decide +kernel
theorem d_BlockReader_nextNumber_10 : decode c_BlockReader_nextNumber 10 = .ok (.if_icmp .le 14, 3) := by decide +kernel
theorem d_BlockReader_nextNumber_13 : decode c_BlockReader_nextNumber 13 = .ok (.aload_n 0, 1) := by decide +kernel
theorem d_BlockReader_nextNumber_14 : decode c_BlockReader_nextNumber 14 = .ok (.iconst 1, 1) := by decide +kernel
theorem d_BlockReader_nextNumber_15 : decode c_BlockReader_nextNumber 15 = .ok (.aload_n 0, 1) := by decide +kernel
theorem d_BlockReader_nextNumber_16 : decode c_BlockReader_nextNumber 16 = .ok (.getfield 15, 3) := by decide +kernel
theorem d_BlockReader_nextNumber_19 : decode c_BlockReader_nextNumber 19 = .ok (.invokevirtual 54, 3) := by decide +kernel
theorem d_BlockReader_nextNumber_22 : decode c_BlockReader_nextNumber 22 = .ok (.lconst 0, 1) := by decide +kernel
theorem d_BlockReader_nextNumber_23 : decode c_BlockReader_nextNumber 23 = .ok (.lreturn, 1) := by decide +kernel
theorem d_BlockReader_nextNumber_24 : decode c_BlockReader_nextNumber 24 = .ok (.aload_n 0, 1) := by decide +kernel
theorem d_BlockReader_nextNumber_25 : decode c_BlockReader_nextNumber 25 = .ok (.dup, 1) := by decide +kernel
theorem d_BlockReader_nextNumber_26 : decode c_BlockReader_nextNumber 26 = .ok (.getfield 9, 3) := by decide +kernel
theorem d_BlockReader_nextNumber_29 : decode c_BlockReader_nextNumber 29 = .ok (.iload_n 1, 1) := by decide +kernel
theorem d_BlockReader_nextNumber_30 : decode c_BlockReader_nextNumber 30 = .ok (.iadd, 1) := by decide +kernel
theorem d_BlockReader_nextNumber_31 : decode c_BlockReader_nextNumber 31 = .ok (.putfield 9, 3) := by decide +kernel
theorem d_BlockReader_nextNumber_34 : decode c_BlockReader_nextNumber 34 = .ok (.aload_n 0, 1) := by decide +kernel
theorem d_BlockReader_nextNumber_35 : decode c_BlockReader_nextNumber 35 = .ok (.getfield 31, 3) := by decide +kernel
theorem d_BlockReader_nextNumber_38 : decode c_BlockReader_nextNumber 38 = .ok (.aload_n 0, 1) := by decide +kernel
theorem d_BlockReader_nextNumber_39 : decode c_BlockReader_nextNumber 39 = .ok (.getfield 9, 3) := by decide +kernel
theorem d_BlockReader_nextNumber_42 : decode c_BlockReader_nextNumber 42 = .ok (.iload_n 1, 1) := by decide +kernel
theorem d_BlockReader_nextNumber_43 : decode c_BlockReader_nextNumber 43 = .ok (.isub, 1) := by decide +kernel
theorem d_BlockReader_nextNumber_44 : decode c_BlockReader_nextNumber 44 = .ok (.iload_n 1, 1) := by decide +kernel
theorem d_BlockReader_nextNumber_45 : decode c_BlockReader_nextNumber 45 = .ok (.invokevirtual 83, 3) := by decide +kernel
theorem d_BlockReader_nextNumber_48 : decode c_BlockReader_nextNumber 48 = .ok (.lreturn, 1) := by decide +kernel
theorem d_BlockReader_fail_0 : decode c_BlockReader_fail 0 = .ok (.aload_n 0, 1) := by decide +kernel
theorem d_BlockReader_fail_1 : decode c_BlockReader_fail 1 = .ok (.getfield 25, 3) := by decide +kernel
theorem d_BlockReader_fail_4 : decode c_BlockReader_fail 4 = .ok (.ifCond .ne 13, 3) := by decide +kernel
theorem d_BlockReader_fail_7 : decode c_BlockReader_fail 7 = .ok (.aload_n 0, 1) := by decide +kernel
theorem d_BlockReader_fail_8 : decode c_BlockReader_fail 8 = .ok (.iload_n 1, 1) := by decide +kernel
theorem d_BlockReader_fail_9 : decode c_BlockReader_fail 9 = .ok (.putfield 25, 3) := by decide +kernel
theorem d_BlockReader_fail_12 : decode c_BlockReader_fail 12 = .ok (.aload_n 0, 1) := by decide +kernel
theorem d_BlockReader_fail_13 : decode c_BlockReader_fail 13 = .ok (.iload_n 2, 1) := by decide +kernel
theorem d_BlockReader_fail_14 : decode c_BlockReader_fail 14 = .ok (.putfield 28, 3) := by decide +kernel
theorem d_BlockReader_fail_17 : decode c_BlockReader_fail 17 = .ok (.return_, 1) := by decide +kernel
theorem d_BlockWriter_init_0 : decode c_BlockWriter_init 0 = .ok (.aload_n 0, 1) := by decide +kernel
theorem d_BlockWriter_init_1 : decode c_BlockWriter_init 1 = .ok (.invokespecial 1, 3) := by decide +kernel
theorem d_BlockWriter_init_4 : decode c_BlockWriter_init 4 = .ok (.aload_n 0, 1) := by decide +kernel
theorem d_BlockWriter_init_5 : decode c_BlockWriter_init 5 = .ok (.aload_n 1, 1) := by decide +kernel
theorem d_BlockWriter_init_6 : decode c_BlockWriter_init 6 = .ok (.putfield 7, 3) := by decide +kernel
theorem d_BlockWriter_init_9 : decode c_BlockWriter_init 9 = .ok (.aload_n 0, 1) := by decide +kernel
theorem d_BlockWriter_init_10 : decode c_BlockWriter_init 10 = .ok (.aload_n 2, 1) := by decide +kernel
theorem d_BlockWriter_init_11 : decode c_BlockWriter_init 11 = .ok (.putfield 13, 3) := by decide +kernel
theorem d_BlockWriter_init_14 : decode c_BlockWriter_init 14 = .ok (.aload_n 0, 1) := by decide +kernel
theorem d_BlockWriter_init_15 : decode c_BlockWriter_init 15 = .ok (.aload_n 3, 1) := by decide +kernel
theorem d_BlockWriter_init_16 : decode c_BlockWriter_init 16 = .ok (.putfield 16, 3) := by decide +kernel
theorem d_BlockWriter_init_19 : decode c_BlockWriter_init 19 = .ok (.return_, 1) := by decide +kernel
theorem d_BlockWriter_putBlock_0 : decode c_BlockWriter_putBlock 0 = .ok (.aload_n 0, 1) := by decide +kernel
theorem d_BlockWriter_putBlock_1 : decode c_BlockWriter_putBlock 1 = .ok (.getfield 16, 3) := by decide +kernel
theorem d_BlockWriter_putBlock_4 : decode c_BlockWriter_putBlock 4 = .ok (.iload_n 1, 1) := by decide +kernel
theorem d_BlockWriter_putBlock_5 : decode c_BlockWriter_putBlock 5 = .ok (.iload_n 2, 1) := by decide +kernel
theorem d_BlockWriter_putBlock_6 : decode c_BlockWriter_putBlock 6 = .ok (.invokevirtual 20, 3) := by decide +kernel
theorem d_BlockWriter_putBlock_9 : decode c_BlockWriter_putBlock 9 = .ok (.aload_n 0, 1) := by decide +kernel
theorem d_BlockWriter_putBlock_10 : decode c_BlockWriter_putBlock 10 = .ok (.iload_n 2, 1) := by decide +kernel
theorem d_BlockWriter_putBlock_11 : decode c_BlockWriter_putBlock 11 = .ok (.iload_n 1, 1) := by decide +kernel
theorem d_BlockWriter_putBlock_12 : decode c_BlockWriter_putBlock 12 = .ok (.isub, 1) := by decide +kernel
theorem d_BlockWriter_putBlock_13 : decode c_BlockWriter_putBlock 13 = .ok (.invokevirtual 26, 3) := by decide +kernel
theorem d_BlockWriter_putBlock_16 : decode c_BlockWriter_putBlock 16 = .ok (.iload_n 1, 1) := by decide +kernel
theorem d_BlockWriter_putBlock_17 : decode c_BlockWriter_putBlock 17 = .ok (.istore 4, 2) := by decide +kernel
theorem d_BlockWriter_putBlock_19 : decode c_BlockWriter_putBlock 19 = .ok (.iload_n 1, 1) := by decide +kernel
theorem d_BlockWriter_putBlock_20 : decode c_BlockWriter_putBlock 20 = .ok (.istore 5, 2) := by decide +kernel
theorem d_BlockWriter_putBlock_22 : decode c_BlockWriter_putBlock 22 = .ok (.iload 5, 2) := by decide +kernel
theorem d_BlockWriter_putBlock_24 : decode c_BlockWriter_putBlock 24 = .ok (.iload_n 2, 1) := by decide +kernel
theorem d_BlockWriter_putBlock_25 : decode c_BlockWriter_putBlock 25 = .ok (.if_icmp .ge 74, 3) := by decide +kernel
theorem d_BlockWriter_putBlock_28 : decode c_BlockWriter_putBlock 28 = .ok (.aload_n 0, 1) := by decide +kernel
theorem d_BlockWriter_putBlock_29 : decode c_BlockWriter_putBlock 29 = .ok (.getfield 16, 3) := by decide +kernel
theorem d_BlockWriter_putBlock_32 : decode c_BlockWriter_putBlock 32 = .ok (.iload 5, 2) := by decide +kernel
theorem d_BlockWriter_putBlock_34 : decode c_BlockWriter_putBlock 34 = .ok (.iload_n 3, 1) := by decide +kernel
theorem d_BlockWriter_putBlock_35 : decode c_BlockWriter_putBlock 35 = .ok (.invokevirtual 30, 3) := by decide +kernel
theorem d_BlockWriter_putBlock_38 : decode c_BlockWriter_putBlock 38 = .ok (.aload_n 0, 1) := by decide +kernel
theorem d_BlockWriter_putBlock_39 : decode c_BlockWriter_putBlock 39 = .ok (.getfield 16, 3) := by decide +kernel
theorem d_BlockWriter_putBlock_42 : decode c_BlockWriter_putBlock 42 = .ok (.getfield 33, 3) := by decide +kernel
theorem d_BlockWriter_putBlock_45 : decode c_BlockWriter_putBlock 45 = .ok (.ifCond .gt 9, 3) := by decide +kernel
theorem d_BlockWriter_putBlock_48 : decode c_BlockWriter_putBlock 48 = .ok (.iinc 5 1, 3) := by decide +kernel
theorem d_BlockWriter_putBlock_51 : decode c_BlockWriter_putBlock 51 = .ok (.goto (-29), 3) := by decide +kernel
theorem d_BlockWriter_putBlock_54 : decode c_BlockWriter_putBlock 54 = .ok (.aload_n 0, 1) := by decide +kernel
theorem d_BlockWriter_putBlock_55 : decode c_BlockWriter_putBlock 55 = .ok (.iload 4, 2) := by decide +kernel
theorem d_BlockWriter_putBlock_57 : decode c_BlockWriter_putBlock 57 = .ok (.iload 5, 2) := by decide +kernel
theorem d_BlockWriter_putBlock_59 : decode c_BlockWriter_putBlock 59 = .ok (.invokevirtual 37, 3) := by decide +kernel
theorem d_BlockWriter_putBlock_62 : decode c_BlockWriter_putBlock 62 = .ok (.aload_n 0, 1) := by decide +kernel
theorem d_BlockWriter_putBlock_63 : decode c_BlockWriter_putBlock 63 = .ok (.aload_n 0, 1) := by decide +kernel
theorem d_BlockWriter_putBlock_64 : decode c_BlockWriter_putBlock 64 = .ok (.getfield 16, 3) := by decide +kernel
theorem d_BlockWriter_putBlock_67 : decode c_BlockWriter_putBlock 67 = .ok (.getfield 33, 3) := by decide +kernel
theorem d_BlockWriter_putBlock_70 : decode c_BlockWriter_putBlock 70 = .ok (.aload_n 0, 1) := by decide +kernel
theorem d_BlockWriter_putBlock_71 : decode c_BlockWriter_putBlock 71 = .ok (.getfield 16, 3) := by decide +kernel
theorem d_BlockWriter_putBlock_74 : decode c_BlockWriter_putBlock 74 = .ok (.getfield 40, 3) := by decide +kernel
theorem d_BlockWriter_putBlock_77 : decode c_BlockWriter_putBlock 77 = .ok (.invokevirtual 43, 3) := by decide +kernel
theorem d_BlockWriter_putBlock_80 : decode c_BlockWriter_putBlock 80 = .ok (.iload 5, 2) := by decide +kernel
theorem d_BlockWriter_putBlock_82 : decode c_BlockWriter_putBlock 82 = .ok (.aload_n 0, 1) := by decide +kernel
theorem d_BlockWriter_putBlock_83 : decode c_BlockWriter_putBlock 83 = .ok (.getfield 16, 3) := by decide +kernel
theorem d_BlockWriter_putBlock_86 : decode c_BlockWriter_putBlock 86 = .ok (.getfield 33, 3) := by decide +kernel
theorem d_BlockWriter_putBlock_89 : decode c_BlockWriter_putBlock 89 = .ok (.iadd, 1) := by decide +kernel
theorem d_BlockWriter_putBlock_90 : decode c_BlockWriter_putBlock 90 = .ok (.istore 5, 2) := by decide +kernel
theorem d_BlockWriter_putBlock_92 : decode c_BlockWriter_putBlock 92 = .ok (.iload 5, 2) := by decide +kernel
theorem d_BlockWriter_putBlock_94 : decode c_BlockWriter_putBlock 94 = .ok (.istore 4, 2) := by decide +kernel
theorem d_BlockWriter_putBlock_96 : decode c_BlockWriter_putBlock 96 = .ok (.goto (-74), 3) := by decide +kernel
theorem d_BlockWriter_putBlock_99 : decode c_BlockWriter_putBlock 99 = .ok (.aload_n 0, 1) := by decide +kernel
theorem d_BlockWriter_putBlock_100 : decode c_BlockWriter_putBlock 100 = .ok (.iload 4, 2) := by decide +kernel
theorem d_BlockWriter_putBlock_102 : decode c_BlockWriter_putBlock 102 = .ok (.iload_n 2, 1) := by decide +kernel
theorem d_BlockWriter_putBlock_103 : decode c_BlockWriter_putBlock 103 = .ok (.invokevirtual 37, 3) := by decide +kernel
theorem d_BlockWriter_putBlock_106 : decode c_BlockWriter_putBlock 106 = .ok (.return_, 1) := by decide +kernel
theorem d_BlockWriter_putLength_0 : decode c_BlockWriter_putLength 0 = .ok (.iload_n 1, 1) := by decide +kernel
theorem d_BlockWriter_putLength_1 : decode c_BlockWriter_putLength 1 = .ok (.istore_n 2, 1) := by decide +kernel
theorem d_BlockWriter_putLength_2 : decode c_BlockWriter_putLength 2 = .ok (.iconst 0, 1) := by decide +kernel
theorem d_BlockWriter_putLength_3 : decode c_BlockWriter_putLength 3 = .ok (.istore_n 3, 1) := by decide +kernel
theorem d_BlockWriter_putLength_4 : decode c_BlockWriter_putLength 4 = .ok (.iload_n 3, 1) := by decide +kernel
theorem d_BlockWriter_putLength_5 : decode c_BlockWriter_putLength 5 = .ok (.iconst 4, 1) := by decide +kernel
theorem d_BlockWriter_putLength_6 : decode c_BlockWriter_putLength 6 = .ok (.if_icmp .ge 35, 3) := by decide +kernel
theorem d_BlockWriter_putLength_9 : decode c_BlockWriter_putLength 9 = .ok (.iload_n 2, 1) := by decide +kernel
theorem d_BlockWriter_putLength_10 : decode c_BlockWriter_putLength 10 = .ok (.bipush 127, 2) := by decide +kernel
theorem d_BlockWriter_putLength_12 : decode c_BlockWriter_putLength 12 = .ok (.if_icmp .le 29, 3) := by decide +kernel
theorem d_BlockWriter_putLength_15 : decode c_BlockWriter_putLength 15 = .ok (.aload_n 0, 1) := by decide +kernel
theorem d_BlockWriter_putLength_16 : decode c_BlockWriter_putLength 16 = .ok (.getfield 13, 3) := by decide +kernel
theorem d_BlockWriter_putLength_19 : decode c_BlockWriter_putLength 19 = .ok (.iload_n 2, 1) := by decide +kernel
theorem d_BlockWriter_putLength_20 : decode c_BlockWriter_putLength 20 = .ok (.bipush 127, 2) := by decide +kernel
theorem d_BlockWriter_putLength_22 : decode c_BlockWriter_putLength 22 = .ok (.iand, 1) := by decide +kernel
theorem d_BlockWriter_putLength_23 : decode c_BlockWriter_putLength 23 = .ok (.sipush 128, 3) := by decide +kernel
theorem d_BlockWriter_putLength_26 : decode c_BlockWriter_putLength 26 = .ok (.ior, 1) := by decide +kernel
theorem d_BlockWriter_putLength_27 : decode c_BlockWriter_putLength 27 = .ok (.invokevirtual 46, 3) := by decide +kernel
theorem d_BlockWriter_putLength_30 : decode c_BlockWriter_putLength 30 = .ok (.iload_n 2, 1) := by decide +kernel
theorem d_BlockWriter_putLength_31 : decode c_BlockWriter_putLength 31 = .ok (.bipush 7, 2) := by decide +kernel
theorem d_BlockWriter_putLength_33 : decode c_BlockWriter_putLength 33 = .ok (.iushr, 1) := by decide +kernel
theorem d_BlockWriter_putLength_34 : decode c_BlockWriter_putLength 34 = .ok (.istore_n 2, 1) := by decide +kernel
theorem d_BlockWriter_putLength_35 : decode c_BlockWriter_putLength 35 = .ok (.iinc 3 1, 3) := by decide +kernel
theorem d_BlockWriter_putLength_38 : decode c_BlockWriter_putLength 38 = .ok (.goto (-34), 3) := by decide +kernel
theorem d_BlockWriter_putLength_41 : decode c_BlockWriter_putLength 41 = .ok (.aload_n 0, 1) := by decide +kernel
theorem d_BlockWriter_putLength_42 : decode c_BlockWriter_putLength 42 = .ok (.getfield 13, 3) := by decide +kernel
theorem d_BlockWriter_putLength_45 : decode c_BlockWriter_putLength 45 = .ok (.iload_n 2, 1) := by decide +kernel
theorem d_BlockWriter_putLength_46 : decode c_BlockWriter_putLength 46 = .ok (.invokevirtual 46, 3) := by decide +kernel
theorem d_BlockWriter_putLength_49 : decode c_BlockWriter_putLength 49 = .ok (.return_, 1) := by decide +kernel
theorem d_BlockWriter_putLiterals_0 : decode c_BlockWriter_putLiterals 0 = .ok (.iload_n 2, 1) := by decide +kernel
theorem d_BlockWriter_putLiterals_1 : decode c_BlockWriter_putLiterals 1 = .ok (.iload_n 1, 1) := by decide +kernel
theorem d_BlockWriter_putLiterals_2 : decode c_BlockWriter_putLiterals 2 = .ok (.isub, 1) := by decide +kernel
theorem d_BlockWriter_putLiterals_3 : decode c_BlockWriter_putLiterals 3 = .ok (.istore_n 3, 1) := by decide +kernel
theorem d_BlockWriter_putLiterals_4 : decode c_BlockWriter_putLiterals 4 = .ok (.iload_n 3, 1) := by decide +kernel
theorem d_BlockWriter_putLiterals_5 : decode c_BlockWriter_putLiterals 5 = .ok (.iconst 1, 1) := by decide +kernel
theorem d_BlockWriter_putLiterals_6 : decode c_BlockWriter_putLiterals 6 = .ok (.if_icmp .ge 4, 3) := by decide +kernel
theorem d_BlockWriter_putLiterals_9 : decode c_BlockWriter_putLiterals 9 = .ok (.return_, 1) := by decide +kernel
theorem d_BlockWriter_putLiterals_10 : decode c_BlockWriter_putLiterals 10 = .ok (.iload_n 3, 1) := by decide +kernel
theorem d_BlockWriter_putLiterals_11 : decode c_BlockWriter_putLiterals 11 = .ok (.bipush 60, 2) := by decide +kernel
theorem d_BlockWriter_putLiterals_13 : decode c_BlockWriter_putLiterals 13 = .ok (.if_icmp .gt 18, 3) := by decide +kernel
theorem d_BlockWriter_putLiterals_16 : decode c_BlockWriter_putLiterals 16 = .ok (.aload_n 0, 1) := by decide +kernel
theorem d_BlockWriter_putLiterals_17 : decode c_BlockWriter_putLiterals 17 = .ok (.getfield 13, 3) := by decide +kernel
theorem d_BlockWriter_putLiterals_20 : decode c_BlockWriter_putLiterals 20 = .ok (.iload_n 3, 1) := by decide +kernel
theorem d_BlockWriter_putLiterals_21 : decode c_BlockWriter_putLiterals 21 = .ok (.iconst 1, 1) := by decide +kernel
theorem d_BlockWriter_putLiterals_22 : decode c_BlockWriter_putLiterals 22 = .ok (.isub, 1) := by decide +kernel
theorem d_BlockWriter_putLiterals_23 : decode c_BlockWriter_putLiterals 23 = .ok (.iconst 2, 1) := by decide +kernel
theorem d_BlockWriter_putLiterals_24 : decode c_BlockWriter_putLiterals 24 = .ok (.ishl, 1) := by decide +kernel
theorem d_BlockWriter_putLiterals_25 : decode c_BlockWriter_putLiterals 25 = .ok (.invokevirtual 46, 3) := by decide +kernel
theorem d_BlockWriter_putLiterals_28 : decode c_BlockWriter_putLiterals 28 = .ok (.goto 55, 3) := by decide +kernel
theorem d_BlockWriter_putLiterals_31 : decode c_BlockWriter_putLiterals 31 = .ok (.iload_n 3, 1) := by decide +kernel
theorem d_BlockWriter_putLiterals_32 : decode c_BlockWriter_putLiterals 32 = .ok (.sipush 256, 3) := by decide +kernel
theorem d_BlockWriter_putLiterals_35 : decode c_BlockWriter_putLiterals 35 = .ok (.if_icmp .gt 27, 3) := by decide +kernel
theorem d_BlockWriter_putLiterals_38 : decode c_BlockWriter_putLiterals 38 = .ok (.aload_n 0, 1) := by decide +kernel
theorem d_BlockWriter_putLiterals_39 : decode c_BlockWriter_putLiterals 39 = .ok (.getfield 13, 3) := by decide +kernel
theorem d_BlockWriter_putLiterals_42 : decode c_BlockWriter_putLiterals 42 = .ok (.sipush 240, 3) := by decide +kernel
theorem d_BlockWriter_putLiterals_45 : decode c_BlockWriter_putLiterals 45 = .ok (.invokevirtual 46, 3) := by decide +kernel
theorem d_BlockWriter_putLiterals_48 : decode c_BlockWriter_putLiterals 48 = .ok (.aload_n 0, 1) := by decide +kernel
theorem d_BlockWriter_putLiterals_49 : decode c_BlockWriter_putLiterals 49 = .ok (.getfield 13, 3) := by decide +kernel
theorem d_BlockWriter_putLiterals_52 : decode c_BlockWriter_putLiterals 52 = .ok (.iload_n 3, 1) := by decide +kernel
theorem d_BlockWriter_putLiterals_53 : decode c_BlockWriter_putLiterals 53 = .ok (.iconst 1, 1) := by decide +kernel
theorem d_BlockWriter_putLiterals_54 : decode c_BlockWriter_putLiterals 54 = .ok (.isub, 1) := by decide +kernel
theorem d_BlockWriter_putLiterals_55 : decode c_BlockWriter_putLiterals 55 = .ok (.iconst 1, 1) := by decide +kernel
theorem d_BlockWriter_putLiterals_56 : decode c_BlockWriter_putLiterals 56 = .ok (.invokevirtual 51, 3) := by decide +kernel
theorem d_BlockWriter_putLiterals_59 : decode c_BlockWriter_putLiterals 59 = .ok (.goto 24, 3) := by decide +kernel
theorem d_BlockWriter_putLiterals_62 : decode c_BlockWriter_putLiterals 62 = .ok (.aload_n 0, 1) := by decide +kernel
theorem d_BlockWriter_putLiterals_63 : decode c_BlockWriter_putLiterals 63 = .ok (.getfield 13, 3) := by decide +kernel
theorem d_BlockWriter_putLiterals_66 : decode c_BlockWriter_putLiterals 66 = .ok (.sipush 244, 3) := by decide +kernel
theorem d_BlockWriter_putLiterals_69 : decode c_BlockWriter_putLiterals 69 = .ok (.invokevirtual 46, 3) := by decide +kernel
theorem d_BlockWriter_putLiterals_72 : decode c_BlockWriter_putLiterals 72 = .ok (.aload_n 0, 1) := by decide +kernel
theorem d_BlockWriter_putLiterals_73 : decode c_BlockWriter_putLiterals 73 = .ok (.getfield 13, 3) := by decide +kernel
theorem d_BlockWriter_putLiterals_76 : decode c_BlockWriter_putLiterals 76 = .ok (.iload_n 3, 1) := by decide +kernel
theorem d_BlockWriter_putLiterals_77 : decode c_BlockWriter_putLiterals 77 = .ok (.iconst 1, 1) := by decide +kernel
theorem d_BlockWriter_putLiterals_78 : decode c_BlockWriter_putLiterals 78 = .ok (.isub, 1) := by decide +kernel
theorem d_BlockWriter_putLiterals_79 : decode c_BlockWriter_putLiterals 79 = .ok (.iconst 2, 1) := by decide +kernel
theorem d_BlockWriter_putLiterals_80 : decode c_BlockWriter_putLiterals 80 = .ok (.invokevirtual 51, 3) := by decide +kernel
theorem d_BlockWriter_putLiterals_83 : decode c_BlockWriter_putLiterals 83 = .ok (.aload_n 0, 1) := by decide +kernel
theorem d_BlockWriter_putLiterals_84 : decode c_BlockWriter_putLiterals 84 = .ok (.getfield 13, 3) := by decide +kernel
theorem d_BlockWriter_putLiterals_87 : decode c_BlockWriter_putLiterals 87 = .ok (.aload_n 0, 1) := by decide +kernel
theorem d_BlockWriter_putLiterals_88 : decode c_BlockWriter_putLiterals 88 = .ok (.getfield 7, 3) := by decide +kernel
theorem d_BlockWriter_putLiterals_91 : decode c_BlockWriter_putLiterals 91 = .ok (.iload_n 1, 1) := by decide +kernel
theorem d_BlockWriter_putLiterals_92 : decode c_BlockWriter_putLiterals 92 = .ok (.iload_n 2, 1) := by decide +kernel
theorem d_BlockWriter_putLiterals_93 : decode c_BlockWriter_putLiterals 93 = .ok (.invokevirtual 54, 3) := by decide +kernel
theorem d_BlockWriter_putLiterals_96 : decode c_BlockWriter_putLiterals 96 = .ok (.return_, 1) := by decide +kernel
theorem d_BlockWriter_putMatch_0 : decode c_BlockWriter_putMatch 0 = .ok (.iload_n 2, 1) := by decide +kernel
theorem d_BlockWriter_putMatch_1 : decode c_BlockWriter_putMatch 1 = .ok (.sipush 2048, 3) := by decide +kernel
theorem d_BlockWriter_putMatch_4 : decode c_BlockWriter_putMatch 4 = .ok (.if_icmp .ge 7, 3) := by decide +kernel
theorem d_BlockWriter_putMatch_7 : decode c_BlockWriter_putMatch 7 = .ok (.iconst 1, 1) := by decide +kernel
theorem d_BlockWriter_putMatch_8 : decode c_BlockWriter_putMatch 8 = .ok (.goto 4, 3) := by decide +kernel
theorem d_BlockWriter_putMatch_11 : decode c_BlockWriter_putMatch 11 = .ok (.iconst 0, 1) := by decide +kernel
theorem d_BlockWriter_putMatch_12 : decode c_BlockWriter_putMatch 12 = .ok (.istore_n 3, 1) := by decide +kernel
theorem d_BlockWriter_putMatch_13 : decode c_BlockWriter_putMatch 13 = .ok (.iload_n 1, 1) := by decide +kernel
theorem d_BlockWriter_putMatch_14 : decode c_BlockWriter_putMatch 14 = .ok (.istore 4, 2) := by decide +kernel
theorem d_BlockWriter_putMatch_16 : decode c_BlockWriter_putMatch 16 = .ok (.iload 4, 2) := by decide +kernel
theorem d_BlockWriter_putMatch_18 : decode c_BlockWriter_putMatch 18 = .ok (.ifCond .le 120, 3) := by decide +kernel
theorem d_BlockWriter_putMatch_21 : decode c_BlockWriter_putMatch 21 = .ok (.iload 4, 2) := by decide +kernel
theorem d_BlockWriter_putMatch_23 : decode c_BlockWriter_putMatch 23 = .ok (.bipush 64, 2) := by decide +kernel
theorem d_BlockWriter_putMatch_25 : decode c_BlockWriter_putMatch 25 = .ok (.invokestatic 58, 3) := by decide +kernel
theorem d_BlockWriter_putMatch_28 : decode c_BlockWriter_putMatch 28 = .ok (.istore 5, 2) := by decide +kernel
theorem d_BlockWriter_putMatch_30 : decode c_BlockWriter_putMatch 30 = .ok (.iload_n 3, 1) := by decide +kernel
theorem d_BlockWriter_putMatch_31 : decode c_BlockWriter_putMatch 31 = .ok (.ifCond .eq 23, 3) := by decide +kernel
theorem d_BlockWriter_putMatch_34 : decode c_BlockWriter_putMatch 34 = .ok (.iload 4, 2) := by decide +kernel
theorem d_BlockWriter_putMatch_36 : decode c_BlockWriter_putMatch 36 = .ok (.bipush 64, 2) := by decide +kernel
theorem d_BlockWriter_putMatch_38 : decode c_BlockWriter_putMatch 38 = .ok (.if_icmp .le 16, 3) := by decide +kernel
theorem d_BlockWriter_putMatch_41 : decode c_BlockWriter_putMatch 41 = .ok (.iload 4, 2) := by decide +kernel
theorem d_BlockWriter_putMatch_43 : decode c_BlockWriter_putMatch 43 = .ok (.bipush 68, 2) := by decide +kernel
theorem d_BlockWriter_putMatch_45 : decode c_BlockWriter_putMatch 45 = .ok (.if_icmp .ge 9, 3) := by decide +kernel
theorem d_BlockWriter_putMatch_48 : decode c_BlockWriter_putMatch 48 = .ok (.iload 4, 2) := by decide +kernel
theorem d_BlockWriter_putMatch_50 : decode c_BlockWriter_putMatch 50 = .ok (.iconst 4, 1) := by decide +kernel
theorem d_BlockWriter_putMatch_51 : decode c_BlockWriter_putMatch 51 = .ok (.isub, 1) := by decide +kernel
theorem d_BlockWriter_putMatch_52 : decode c_BlockWriter_putMatch 52 = .ok (.istore 5, 2) := by decide +kernel
theorem d_BlockWriter_putMatch_54 : decode c_BlockWriter_putMatch 54 = .ok (.iload_n 3, 1) := by decide +kernel
theorem d_BlockWriter_putMatch_55 : decode c_BlockWriter_putMatch 55 = .ok (.ifCond .eq 49, 3) := by decide +kernel
theorem d_BlockWriter_putMatch_58 : decode c_BlockWriter_putMatch 58 = .ok (.iload 5, 2) := by decide +kernel
theorem d_BlockWriter_putMatch_60 : decode c_BlockWriter_putMatch 60 = .ok (.iconst 4, 1) := by decide +kernel
theorem d_BlockWriter_putMatch_61 : decode c_BlockWriter_putMatch 61 = .ok (.if_icmp .lt 43, 3) := by decide +kernel
theorem d_BlockWriter_putMatch_64 : decode c_BlockWriter_putMatch 64 = .ok (.iload 5, 2) := by decide +kernel
theorem d_BlockWriter_putMatch_66 : decode c_BlockWriter_putMatch 66 = .ok (.bipush 11, 2) := by decide +kernel
theorem d_BlockWriter_putMatch_68 : decode c_BlockWriter_putMatch 68 = .ok (.if_icmp .gt 36, 3) := by decide +kernel
theorem d_BlockWriter_putMatch_71 : decode c_BlockWriter_putMatch 71 = .ok (.aload_n 0, 1) := by decide +kernel
theorem d_BlockWriter_putMatch_72 : decode c_BlockWriter_putMatch 72 = .ok (.getfield 13, 3) := by decide +kernel
theorem d_BlockWriter_putMatch_75 : decode c_BlockWriter_putMatch 75 = .ok (.iconst 1, 1) := by decide +kernel
theorem d_BlockWriter_putMatch_76 : decode c_BlockWriter_putMatch 76 = .ok (.iload 5, 2) := by decide +kernel
theorem d_BlockWriter_putMatch_78 : decode c_BlockWriter_putMatch 78 = .ok (.iconst 4, 1) := by decide +kernel
theorem d_BlockWriter_putMatch_79 : decode c_BlockWriter_putMatch 79 = .ok (.isub, 1) := by decide +kernel
theorem d_BlockWriter_putMatch_80 : decode c_BlockWriter_putMatch 80 = .ok (.iconst 2, 1) := by decide +kernel
theorem d_BlockWriter_putMatch_81 : decode c_BlockWriter_putMatch 81 = .ok (.ishl, 1) := by decide +kernel
theorem d_BlockWriter_putMatch_82 : decode c_BlockWriter_putMatch 82 = .ok (.ior, 1) := by decide +kernel
theorem d_BlockWriter_putMatch_83 : decode c_BlockWriter_putMatch 83 = .ok (.iload_n 2, 1) := by decide +kernel
theorem d_BlockWriter_putMatch_84 : decode c_BlockWriter_putMatch 84 = .ok (.bipush 8, 2) := by decide +kernel
theorem d_BlockWriter_putMatch_86 : decode c_BlockWriter_putMatch 86 = .ok (.ishr, 1) := by decide +kernel
theorem d_BlockWriter_putMatch_87 : decode c_BlockWriter_putMatch 87 = .ok (.iconst 5, 1) := by decide +kernel
theorem d_BlockWriter_putMatch_88 : decode c_BlockWriter_putMatch 88 = .ok (.ishl, 1) := by decide +kernel
theorem d_BlockWriter_putMatch_89 : decode c_BlockWriter_putMatch 89 = .ok (.ior, 1) := by decide +kernel
theorem d_BlockWriter_putMatch_90 : decode c_BlockWriter_putMatch 90 = .ok (.invokevirtual 46, 3) := by decide +kernel
theorem d_BlockWriter_putMatch_93 : decode c_BlockWriter_putMatch 93 = .ok (.aload_n 0, 1) := by decide +kernel
theorem d_BlockWriter_putMatch_94 : decode c_BlockWriter_putMatch 94 = .ok (.getfield 13, 3) := by decide +kernel
theorem d_BlockWriter_putMatch_97 : decode c_BlockWriter_putMatch 97 = .ok (.iload_n 2, 1) := by decide +kernel
theorem d_BlockWriter_putMatch_98 : decode c_BlockWriter_putMatch 98 = .ok (.invokevirtual 46, 3) := by decide +kernel
theorem d_BlockWriter_putMatch_101 : decode c_BlockWriter_putMatch 101 = .ok (.goto 27, 3) := by decide +kernel
theorem d_BlockWriter_putMatch_104 : decode c_BlockWriter_putMatch 104 = .ok (.aload_n 0, 1) := by decide +kernel
theorem d_BlockWriter_putMatch_105 : decode c_BlockWriter_putMatch 105 = .ok (.getfield 13, 3) := by decide +kernel
theorem d_BlockWriter_putMatch_108 : decode c_BlockWriter_putMatch 108 = .ok (.iconst 2, 1) := by decide +kernel
theorem d_BlockWriter_putMatch_109 : decode c_BlockWriter_putMatch 109 = .ok (.iload 5, 2) := by decide +kernel
theorem d_BlockWriter_putMatch_111 : decode c_BlockWriter_putMatch 111 = .ok (.iconst 1, 1) := by decide +kernel
theorem d_BlockWriter_putMatch_112 : decode c_BlockWriter_putMatch 112 = .ok (.isub, 1) := by decide +kernel
theorem d_BlockWriter_putMatch_113 : decode c_BlockWriter_putMatch 113 = .ok (.iconst 2, 1) := by decide +kernel
theorem d_BlockWriter_putMatch_114 : decode c_BlockWriter_putMatch 114 = .ok (.ishl, 1) := by decide +kernel
theorem d_BlockWriter_putMatch_115 : decode c_BlockWriter_putMatch 115 = .ok (.ior, 1) := by decide +kernel
theorem d_BlockWriter_putMatch_116 : decode c_BlockWriter_putMatch 116 = .ok (.invokevirtual 46, 3) := by decide +kernel
theorem d_BlockWriter_putMatch_119 : decode c_BlockWriter_putMatch 119 = .ok (.aload_n 0, 1) := by decide +kernel
theorem d_BlockWriter_putMatch_120 : decode c_BlockWriter_putMatch 120 = .ok (.getfield 13, 3) := by decide +kernel
theorem d_BlockWriter_putMatch_123 : decode c_BlockWriter_putMatch 123 = .ok (.iload_n 2, 1) := by decide +kernel
theorem d_BlockWriter_putMatch_124 : decode c_BlockWriter_putMatch 124 = .ok (.iconst 2, 1) := by decide +kernel
theorem d_BlockWriter_putMatch_125 : decode c_BlockWriter_putMatch 125 = .ok (.invokevirtual 51, 3) := by decide +kernel
theorem d_BlockWriter_putMatch_128 : decode c_BlockWriter_putMatch 128 = .ok (.iload 4, 2) := by decide +kernel
theorem d_BlockWriter_putMatch_130 : decode c_BlockWriter_putMatch 130 = .ok (.iload 5, 2) := by decide +kernel
theorem d_BlockWriter_putMatch_132 : decode c_BlockWriter_putMatch 132 = .ok (.isub, 1) := by decide +kernel
theorem d_BlockWriter_putMatch_133 : decode c_BlockWriter_putMatch 133 = .ok (.istore 4, 2) := by decide +kernel
theorem d_BlockWriter_putMatch_135 : decode c_BlockWriter_putMatch 135 = .ok (.goto (-119), 3) := by decide +kernel
theorem d_BlockWriter_putMatch_138 : decode c_BlockWriter_putMatch 138 = .ok (.return_, 1) := by decide +kernel
theorem d_Matches_init_0 : decode c_Matches_init 0 = .ok (.aload_n 0, 1) := by decide +kernel
theorem d_Matches_init_1 : decode c_Matches_init 1 = .ok (.invokespecial 5, 3) := by decide +kernel
theorem d_Matches_init_4 : decode c_Matches_init 4 = .ok (.aload_n 0, 1) := by decide +kernel
theorem d_Matches_init_5 : decode c_Matches_init 5 = .ok (.sipush 10000, 3) := by decide +kernel
theorem d_Matches_init_8 : decode c_Matches_init 8 = .ok (.newarray .int, 2) := by decide +kernel
theorem d_Matches_init_10 : decode c_Matches_init 10 = .ok (.putfield 11, 3) := by decide +kernel
theorem d_Matches_init_13 : decode c_Matches_init 13 = .ok (.aload_n 0, 1) := by decide +kernel
theorem d_Matches_init_14 : decode c_Matches_init 14 = .ok (.sipush 2048, 3) := by decide +kernel
theorem d_Matches_init_17 : decode c_Matches_init 17 = .ok (.newarray .int, 2) := by decide +kernel
theorem d_Matches_init_19 : decode c_Matches_init 19 = .ok (.putfield 15, 3) := by decide +kernel
theorem d_Matches_init_22 : decode c_Matches_init 22 = .ok (.aload_n 0, 1) := by decide +kernel
theorem d_Matches_init_23 : decode c_Matches_init 23 = .ok (.iconst 0, 1) := by decide +kernel
theorem d_Matches_init_24 : decode c_Matches_init 24 = .ok (.putfield 18, 3) := by decide +kernel
theorem d_Matches_init_27 : decode c_Matches_init 27 = .ok (.aload_n 0, 1) := by decide +kernel
theorem d_Matches_init_28 : decode c_Matches_init 28 = .ok (.iconst 0, 1) := by decide +kernel
theorem d_Matches_init_29 : decode c_Matches_init 29 = .ok (.putfield 22, 3) := by decide +kernel
theorem d_Matches_init_32 : decode c_Matches_init 32 = .ok (.aload_n 0, 1) := by decide +kernel
theorem d_Matches_init_33 : decode c_Matches_init 33 = .ok (.iconst 0, 1) := by decide +kernel
theorem d_Matches_init_34 : decode c_Matches_init 34 = .ok (.putfield 25, 3) := by decide +kernel
theorem d_Matches_init_37 : decode c_Matches_init 37 = .ok (.aload_n 0, 1) := by decide +kernel
theorem d_Matches_init_38 : decode c_Matches_init 38 = .ok (.iconst 0, 1) := by decide +kernel
theorem d_Matches_init_39 : decode c_Matches_init 39 = .ok (.putfield 28, 3) := by decide +kernel
theorem d_Matches_init_42 : decode c_Matches_init 42 = .ok (.aload_n 0, 1) := by decide +kernel
theorem d_Matches_init_43 : decode c_Matches_init 43 = .ok (.aload_n 1, 1) := by decide +kernel
theorem d_Matches_init_44 : decode c_Matches_init 44 = .ok (.putfield 31, 3) := by decide +kernel
theorem d_Matches_init_47 : decode c_Matches_init 47 = .ok (.return_, 1) := by decide +kernel
theorem d_Matches_index_0 : decode c_Matches_index 0 = .ok (.aload_n 0, 1) := by decide +kernel
theorem d_Matches_index_1 : decode c_Matches_index 1 = .ok (.getfield 15, 3) := by decide +kernel
theorem d_Matches_index_4 : decode c_Matches_index 4 = .ok (.iconst (-1), 1) := by decide +kernel
theorem d_Matches_index_5 : decode c_Matches_index 5 = .ok (.invokestatic 35, 3) := by decide +kernel
theorem d_Matches_index_8 : decode c_Matches_index 8 = .ok (.iconst 0, 1) := by decide +kernel
theorem d_Matches_index_9 : decode c_Matches_index 9 = .ok (.istore_n 1, 1) := by decide +kernel
theorem d_Matches_index_10 : decode c_Matches_index 10 = .ok (.iload_n 1, 1) := by decide +kernel
theorem d_Matches_index_11 : decode c_Matches_index 11 = .ok (.sipush 10000, 3) := by decide +kernel
theorem d_Matches_index_14 : decode c_Matches_index 14 = .ok (.if_icmp .ge 51, 3) := by decide +kernel
theorem d_Matches_index_17 : decode c_Matches_index 17 = .ok (.iload_n 1, 1) := by decide +kernel
theorem d_Matches_index_18 : decode c_Matches_index 18 = .ok (.iconst 4, 1) := by decide +kernel
theorem d_Matches_index_19 : decode c_Matches_index 19 = .ok (.iadd, 1) := by decide +kernel
theorem d_Matches_index_20 : decode c_Matches_index 20 = .ok (.aload_n 0, 1) := by decide +kernel
theorem d_Matches_index_21 : decode c_Matches_index 21 = .ok (.getfield 31, 3) := by decide +kernel
theorem d_Matches_index_24 : decode c_Matches_index 24 = .ok (.getfield 41, 3) := by decide +kernel
theorem d_Matches_index_27 : decode c_Matches_index 27 = .ok (.if_icmp .gt 38, 3) := by decide +kernel
theorem d_Matches_index_30 : decode c_Matches_index 30 = .ok (.aload_n 0, 1) := by decide +kernel
theorem d_Matches_index_31 : decode c_Matches_index 31 = .ok (.iload_n 1, 1) := by decide +kernel
theorem d_Matches_index_32 : decode c_Matches_index 32 = .ok (.invokevirtual 46, 3) := by decide +kernel
theorem d_Matches_index_35 : decode c_Matches_index 35 = .ok (.sipush 2047, 3) := by decide +kernel
theorem d_Matches_index_38 : decode c_Matches_index 38 = .ok (.iand, 1) := by decide +kernel
theorem d_Matches_index_39 : decode c_Matches_index 39 = .ok (.istore_n 2, 1) := by decide +kernel
theorem d_Matches_index_40 : decode c_Matches_index 40 = .ok (.aload_n 0, 1) := by decide +kernel
theorem d_Matches_index_41 : decode c_Matches_index 41 = .ok (.getfield 11, 3) := by decide +kernel
theorem d_Matches_index_44 : decode c_Matches_index 44 = .ok (.iload_n 1, 1) := by decide +kernel
theorem d_Matches_index_45 : decode c_Matches_index 45 = .ok (.aload_n 0, 1) := by decide +kernel
theorem d_Matches_index_46 : decode c_Matches_index 46 = .ok (.getfield 15, 3) := by decide +kernel
theorem d_Matches_index_49 : decode c_Matches_index 49 = .ok (.iload_n 2, 1) := by decide +kernel
theorem d_Matches_index_50 : decode c_Matches_index 50 = .ok (.iaload, 1) := by decide +kernel
theorem d_Matches_index_51 : decode c_Matches_index 51 = .ok (.iastore, 1) := by decide +kernel
theorem d_Matches_index_52 : decode c_Matches_index 52 = .ok (.aload_n 0, 1) := by decide +kernel
theorem d_Matches_index_53 : decode c_Matches_index 53 = .ok (.getfield 15, 3) := by decide +kernel
theorem d_Matches_index_56 : decode c_Matches_index 56 = .ok (.iload_n 2, 1) := by decide +kernel
theorem d_Matches_index_57 : decode c_Matches_index 57 = .ok (.iload_n 1, 1) := by decide +kernel
theorem d_Matches_index_58 : decode c_Matches_index 58 = .ok (.iastore, 1) := by decide +kernel
theorem d_Matches_index_59 : decode c_Matches_index 59 = .ok (.iinc 1 1, 3) := by decide +kernel
theorem d_Matches_index_62 : decode c_Matches_index 62 = .ok (.goto (-52), 3) := by decide +kernel
theorem d_Matches_index_65 : decode c_Matches_index 65 = .ok (.return_, 1) := by decide +kernel
theorem d_Matches_bucketOf_0 : decode c_Matches_bucketOf 0 = .ok (.aload_n 0, 1) := by decide +kernel
theorem d_Matches_bucketOf_1 : decode c_Matches_bucketOf 1 = .ok (.getfield 31, 3) := by decide +kernel
theorem d_Matches_bucketOf_4 : decode c_Matches_bucketOf 4 = .ok (.iload_n 1, 1) := by decide +kernel
theorem d_Matches_bucketOf_5 : decode c_Matches_bucketOf 5 = .ok (.iconst 4, 1) := by decide +kernel
theorem d_Matches_bucketOf_6 : decode c_Matches_bucketOf 6 = .ok (.invokevirtual 50, 3) := by decide +kernel
theorem d_Matches_bucketOf_9 : decode c_Matches_bucketOf 9 = .ok (.l2i, 1) := by decide +kernel
theorem d_Matches_bucketOf_10 : decode c_Matches_bucketOf 10 = .ok (.ldc 54, 2) := by decide +kernel
theorem d_Matches_bucketOf_12 : decode c_Matches_bucketOf 12 = .ok (.imul, 1) := by decide +kernel
theorem d_Matches_bucketOf_13 : decode c_Matches_bucketOf 13 = .ok (.bipush 21, 2) := by decide +kernel
theorem d_Matches_bucketOf_15 : decode c_Matches_bucketOf 15 = .ok (.iushr, 1) := by decide +kernel
theorem d_Matches_bucketOf_16 : decode c_Matches_bucketOf 16 = .ok (.ireturn, 1) := by decide +kernel
theorem d_Matches_keepWithin_0 : decode c_Matches_keepWithin 0 = .ok (.aload_n 0, 1) := by decide +kernel
theorem d_Matches_keepWithin_1 : decode c_Matches_keepWithin 1 = .ok (.iload_n 1, 1) := by decide +kernel
theorem d_Matches_keepWithin_2 : decode c_Matches_keepWithin 2 = .ok (.iconst 0, 1) := by decide +kernel
theorem d_Matches_keepWithin_3 : decode c_Matches_keepWithin 3 = .ok (.invokestatic 55, 3) := by decide +kernel
theorem d_Matches_keepWithin_6 : decode c_Matches_keepWithin 6 = .ok (.putfield 18, 3) := by decide +kernel
theorem d_Matches_keepWithin_9 : decode c_Matches_keepWithin 9 = .ok (.aload_n 0, 1) := by decide +kernel
theorem d_Matches_keepWithin_10 : decode c_Matches_keepWithin 10 = .ok (.iload_n 2, 1) := by decide +kernel
theorem d_Matches_keepWithin_11 : decode c_Matches_keepWithin 11 = .ok (.aload_n 0, 1) := by decide +kernel
theorem d_Matches_keepWithin_12 : decode c_Matches_keepWithin 12 = .ok (.getfield 31, 3) := by decide +kernel
theorem d_Matches_keepWithin_15 : decode c_Matches_keepWithin 15 = .ok (.getfield 41, 3) := by decide +kernel
theorem d_Matches_keepWithin_18 : decode c_Matches_keepWithin 18 = .ok (.invokestatic 61, 3) := by decide +kernel
theorem d_Matches_keepWithin_21 : decode c_Matches_keepWithin 21 = .ok (.putfield 22, 3) := by decide +kernel
theorem d_Matches_keepWithin_24 : decode c_Matches_keepWithin 24 = .ok (.return_, 1) := by decide +kernel
theorem d_Matches_findAt_0 : decode c_Matches_findAt 0 = .ok (.iload_n 2, 1) := by decide +kernel
theorem d_Matches_findAt_1 : decode c_Matches_findAt 1 = .ok (.ifCond .ne 12, 3) := by decide +kernel
theorem d_Matches_findAt_4 : decode c_Matches_findAt 4 = .ok (.aload_n 0, 1) := by decide +kernel
theorem d_Matches_findAt_5 : decode c_Matches_findAt 5 = .ok (.iload_n 1, 1) := by decide +kernel
theorem d_Matches_findAt_6 : decode c_Matches_findAt 6 = .ok (.iconst 4, 1) := by decide +kernel
theorem d_Matches_findAt_7 : decode c_Matches_findAt 7 = .ok (.invokevirtual 64, 3) := by decide +kernel
theorem d_Matches_findAt_10 : decode c_Matches_findAt 10 = .ok (.goto 53, 3) := by decide +kernel
theorem d_Matches_findAt_13 : decode c_Matches_findAt 13 = .ok (.iload_n 2, 1) := by decide +kernel
theorem d_Matches_findAt_14 : decode c_Matches_findAt 14 = .ok (.iconst 1, 1) := by decide +kernel
theorem d_Matches_findAt_15 : decode c_Matches_findAt 15 = .ok (.if_icmp .ne 26, 3) := by decide +kernel
theorem d_Matches_findAt_18 : decode c_Matches_findAt 18 = .ok (.aload_n 0, 1) := by decide +kernel
theorem d_Matches_findAt_19 : decode c_Matches_findAt 19 = .ok (.iload_n 1, 1) := by decide +kernel
theorem d_Matches_findAt_20 : decode c_Matches_findAt 20 = .ok (.bipush 8, 2) := by decide +kernel
theorem d_Matches_findAt_22 : decode c_Matches_findAt 22 = .ok (.invokevirtual 64, 3) := by decide +kernel
theorem d_Matches_findAt_25 : decode c_Matches_findAt 25 = .ok (.aload_n 0, 1) := by decide +kernel
theorem d_Matches_findAt_26 : decode c_Matches_findAt 26 = .ok (.getfield 25, 3) := by decide +kernel
theorem d_Matches_findAt_29 : decode c_Matches_findAt 29 = .ok (.ifCond .ne 34, 3) := by decide +kernel
theorem d_Matches_findAt_32 : decode c_Matches_findAt 32 = .ok (.aload_n 0, 1) := by decide +kernel
theorem d_Matches_findAt_33 : decode c_Matches_findAt 33 = .ok (.iload_n 1, 1) := by decide +kernel
theorem d_Matches_findAt_34 : decode c_Matches_findAt 34 = .ok (.iconst 4, 1) := by decide +kernel
theorem d_Matches_findAt_35 : decode c_Matches_findAt 35 = .ok (.invokevirtual 64, 3) := by decide +kernel
theorem d_Matches_findAt_38 : decode c_Matches_findAt 38 = .ok (.goto 25, 3) := by decide +kernel
theorem d_Matches_findAt_41 : decode c_Matches_findAt 41 = .ok (.aload_n 0, 1) := by decide +kernel
theorem d_Matches_findAt_42 : decode c_Matches_findAt 42 = .ok (.iload_n 1, 1) := by decide +kernel
theorem d_Matches_findAt_43 : decode c_Matches_findAt 43 = .ok (.invokevirtual 68, 3) := by decide +kernel
theorem d_Matches_findAt_46 : decode c_Matches_findAt 46 = .ok (.iload_n 2, 1) := by decide +kernel
theorem d_Matches_findAt_47 : decode c_Matches_findAt 47 = .ok (.iconst 3, 1) := by decide +kernel
theorem d_Matches_findAt_48 : decode c_Matches_findAt 48 = .ok (.if_icmp .ne 15, 3) := by decide +kernel
theorem d_Matches_findAt_51 : decode c_Matches_findAt 51 = .ok (.aload_n 0, 1) := by decide +kernel
theorem d_Matches_findAt_52 : decode c_Matches_findAt 52 = .ok (.getfield 25, 3) := by decide +kernel
theorem d_Matches_findAt_55 : decode c_Matches_findAt 55 = .ok (.ifCond .le 8, 3) := by decide +kernel
theorem d_Matches_findAt_58 : decode c_Matches_findAt 58 = .ok (.aload_n 0, 1) := by decide +kernel
theorem d_Matches_findAt_59 : decode c_Matches_findAt 59 = .ok (.iload_n 1, 1) := by decide +kernel
theorem d_Matches_findAt_60 : decode c_Matches_findAt 60 = .ok (.invokevirtual 72, 3) := by decide +kernel
theorem d_Matches_findAt_63 : decode c_Matches_findAt 63 = .ok (.return_, 1) := by decide +kernel
theorem d_Matches_findNearest_0 : decode c_Matches_findNearest 0 = .ok (.aload_n 0, 1) := by decide +kernel
theorem d_Matches_findNearest_1 : decode c_Matches_findNearest 1 = .ok (.iconst 0, 1) := by decide +kernel
theorem d_Matches_findNearest_2 : decode c_Matches_findNearest 2 = .ok (.putfield 25, 3) := by decide +kernel
theorem d_Matches_findNearest_5 : decode c_Matches_findNearest 5 = .ok (.iload_n 1, 1) := by decide +kernel
theorem d_Matches_findNearest_6 : decode c_Matches_findNearest 6 = .ok (.iload_n 2, 1) := by decide +kernel
theorem d_Matches_findNearest_7 : decode c_Matches_findNearest 7 = .ok (.iadd, 1) := by decide +kernel
theorem d_Matches_findNearest_8 : decode c_Matches_findNearest 8 = .ok (.aload_n 0, 1) := by decide +kernel
theorem d_Matches_findNearest_9 : decode c_Matches_findNearest 9 = .ok (.getfield 22, 3) := by decide +kernel
theorem d_Matches_findNearest_12 : decode c_Matches_findNearest 12 = .ok (.if_icmp .le 4, 3) := by decide +kernel
theorem d_Matches_findNearest_15 : decode c_Matches_findNearest 15 = .ok (.return_, 1) := by decide +kernel
theorem d_Matches_findNearest_16 : decode c_Matches_findNearest 16 = .ok (.aload_n 0, 1) := by decide +kernel
theorem d_Matches_findNearest_17 : decode c_Matches_findNearest 17 = .ok (.iload_n 1, 1) := by decide +kernel
theorem d_Matches_findNearest_18 : decode c_Matches_findNearest 18 = .ok (.invokevirtual 75, 3) := by decide +kernel
theorem d_Matches_findNearest_21 : decode c_Matches_findNearest 21 = .ok (.istore_n 3, 1) := by decide +kernel
theorem d_Matches_findNearest_22 : decode c_Matches_findNearest 22 = .ok (.iconst 0, 1) := by decide +kernel
theorem d_Matches_findNearest_23 : decode c_Matches_findNearest 23 = .ok (.istore 4, 2) := by decide +kernel
theorem d_Matches_findNearest_25 : decode c_Matches_findNearest 25 = .ok (.iload 4, 2) := by decide +kernel
theorem d_Matches_findNearest_27 : decode c_Matches_findNearest 27 = .ok (.sipush 10000, 3) := by decide +kernel
theorem d_Matches_findNearest_30 : decode c_Matches_findNearest 30 = .ok (.if_icmp .ge 58, 3) := by decide +kernel
theorem d_Matches_findNearest_33 : decode c_Matches_findNearest 33 = .ok (.iload_n 3, 1) := by decide +kernel
theorem d_Matches_findNearest_34 : decode c_Matches_findNearest 34 = .ok (.aload_n 0, 1) := by decide +kernel
theorem d_Matches_findNearest_35 : decode c_Matches_findNearest 35 = .ok (.getfield 18, 3) := by decide +kernel
theorem d_Matches_findNearest_38 : decode c_Matches_findNearest 38 = .ok (.if_icmp .lt 50, 3) := by decide +kernel
theorem d_Matches_findNearest_41 : decode c_Matches_findNearest 41 = .ok (.aload_n 0, 1) := by decide +kernel
theorem d_Matches_findNearest_42 : decode c_Matches_findNearest 42 = .ok (.iload_n 3, 1) := by decide +kernel
theorem d_Matches_findNearest_43 : decode c_Matches_findNearest 43 = .ok (.iload_n 1, 1) := by decide +kernel
theorem d_Matches_findNearest_44 : decode c_Matches_findNearest 44 = .ok (.iload_n 1, 1) := by decide +kernel
theorem d_Matches_findNearest_45 : decode c_Matches_findNearest 45 = .ok (.iload_n 2, 1) := by decide +kernel
theorem d_Matches_findNearest_46 : decode c_Matches_findNearest 46 = .ok (.iadd, 1) := by decide +kernel
theorem d_Matches_findNearest_47 : decode c_Matches_findNearest 47 = .ok (.invokevirtual 78, 3) := by decide +kernel
theorem d_Matches_findNearest_50 : decode c_Matches_findNearest 50 = .ok (.iload_n 2, 1) := by decide +kernel
theorem d_Matches_findNearest_51 : decode c_Matches_findNearest 51 = .ok (.if_icmp .ne 25, 3) := by decide +kernel
theorem d_Matches_findNearest_54 : decode c_Matches_findNearest 54 = .ok (.aload_n 0, 1) := by decide +kernel
theorem d_Matches_findNearest_55 : decode c_Matches_findNearest 55 = .ok (.aload_n 0, 1) := by decide +kernel
theorem d_Matches_findNearest_56 : decode c_Matches_findNearest 56 = .ok (.iload_n 3, 1) := by decide +kernel
theorem d_Matches_findNearest_57 : decode c_Matches_findNearest 57 = .ok (.iload_n 1, 1) := by decide +kernel
theorem d_Matches_findNearest_58 : decode c_Matches_findNearest 58 = .ok (.aload_n 0, 1) := by decide +kernel
theorem d_Matches_findNearest_59 : decode c_Matches_findNearest 59 = .ok (.getfield 22, 3) := by decide +kernel
theorem d_Matches_findNearest_62 : decode c_Matches_findNearest 62 = .ok (.invokevirtual 78, 3) := by decide +kernel
theorem d_Matches_findNearest_65 : decode c_Matches_findNearest 65 = .ok (.putfield 25, 3) := by decide +kernel
theorem d_Matches_findNearest_68 : decode c_Matches_findNearest 68 = .ok (.aload_n 0, 1) := by decide +kernel
theorem d_Matches_findNearest_69 : decode c_Matches_findNearest 69 = .ok (.iload_n 1, 1) := by decide +kernel
theorem d_Matches_findNearest_70 : decode c_Matches_findNearest 70 = .ok (.iload_n 3, 1) := by decide +kernel
theorem d_Matches_findNearest_71 : decode c_Matches_findNearest 71 = .ok (.isub, 1) := by decide +kernel
theorem d_Matches_findNearest_72 : decode c_Matches_findNearest 72 = .ok (.putfield 28, 3) := by decide +kernel
theorem d_Matches_findNearest_75 : decode c_Matches_findNearest 75 = .ok (.return_, 1) := by decide +kernel
theorem d_Matches_findNearest_76 : decode c_Matches_findNearest 76 = .ok (.aload_n 0, 1) := by decide +kernel
theorem d_Matches_findNearest_77 : decode c_Matches_findNearest 77 = .ok (.iload_n 3, 1) := by decide +kernel
theorem d_Matches_findNearest_78 : decode c_Matches_findNearest 78 = .ok (.invokevirtual 75, 3) := by decide +kernel
theorem d_Matches_findNearest_81 : decode c_Matches_findNearest 81 = .ok (.istore_n 3, 1) := by decide +kernel
theorem d_Matches_findNearest_82 : decode c_Matches_findNearest 82 = .ok (.iinc 4 1, 3) := by decide +kernel
theorem d_Matches_findNearest_85 : decode c_Matches_findNearest 85 = .ok (.goto (-60), 3) := by decide +kernel
theorem d_Matches_findNearest_88 : decode c_Matches_findNearest 88 = .ok (.return_, 1) := by decide +kernel
theorem d_Matches_findLongest_0 : decode c_Matches_findLongest 0 = .ok (.aload_n 0, 1) := by decide +kernel
theorem d_Matches_findLongest_1 : decode c_Matches_findLongest 1 = .ok (.iconst 0, 1) := by decide +kernel
theorem d_Matches_findLongest_2 : decode c_Matches_findLongest 2 = .ok (.putfield 25, 3) := by decide +kernel
theorem d_Matches_findLongest_5 : decode c_Matches_findLongest 5 = .ok (.aload_n 0, 1) := by decide +kernel
theorem d_Matches_findLongest_6 : decode c_Matches_findLongest 6 = .ok (.iload_n 1, 1) := by decide +kernel
theorem d_Matches_findLongest_7 : decode c_Matches_findLongest 7 = .ok (.invokevirtual 75, 3) := by decide +kernel
theorem d_Matches_findLongest_10 : decode c_Matches_findLongest 10 = .ok (.istore_n 2, 1) := by decide +kernel
theorem d_Matches_findLongest_11 : decode c_Matches_findLongest 11 = .ok (.iconst 0, 1) := by decide +kernel
theorem d_Matches_findLongest_12 : decode c_Matches_findLongest 12 = .ok (.istore_n 3, 1) := by decide +kernel
theorem d_Matches_findLongest_13 : decode c_Matches_findLongest 13 = .ok (.iload_n 3, 1) := by decide +kernel
theorem d_Matches_findLongest_14 : decode c_Matches_findLongest 14 = .ok (.sipush 10000, 3) := by decide +kernel
theorem d_Matches_findLongest_17 : decode c_Matches_findLongest 17 = .ok (.if_icmp .ge 105, 3) := by decide +kernel
theorem d_Matches_findLongest_20 : decode c_Matches_findLongest 20 = .ok (.iload_n 2, 1) := by decide +kernel
theorem d_Matches_findLongest_21 : decode c_Matches_findLongest 21 = .ok (.aload_n 0, 1) := by decide +kernel
theorem d_Matches_findLongest_22 : decode c_Matches_findLongest 22 = .ok (.getfield 18, 3) := by decide +kernel
theorem d_Matches_findLongest_25 : decode c_Matches_findLongest 25 = .ok (.if_icmp .lt 97, 3) := by decide +kernel
theorem d_Matches_findLongest_28 : decode c_Matches_findLongest 28 = .ok (.iload_n 1, 1) := by decide +kernel
theorem d_Matches_findLongest_29 : decode c_Matches_findLongest 29 = .ok (.aload_n 0, 1) := by decide +kernel
theorem d_Matches_findLongest_30 : decode c_Matches_findLongest 30 = .ok (.getfield 25, 3) := by decide +kernel
theorem d_Matches_findLongest_33 : decode c_Matches_findLongest 33 = .ok (.iadd, 1) := by decide +kernel
theorem d_Matches_findLongest_34 : decode c_Matches_findLongest 34 = .ok (.aload_n 0, 1) := by decide +kernel
theorem d_Matches_findLongest_35 : decode c_Matches_findLongest 35 = .ok (.getfield 22, 3) := by decide +kernel
theorem d_Matches_findLongest_38 : decode c_Matches_findLongest 38 = .ok (.if_icmp .ge 84, 3) := by decide +kernel
theorem d_Matches_findLongest_41 : decode c_Matches_findLongest 41 = .ok (.aload_n 0, 1) := by decide +kernel
theorem d_Matches_findLongest_42 : decode c_Matches_findLongest 42 = .ok (.getfield 31, 3) := by decide +kernel
theorem d_Matches_findLongest_45 : decode c_Matches_findLongest 45 = .ok (.iload_n 2, 1) := by decide +kernel
theorem d_Matches_findLongest_46 : decode c_Matches_findLongest 46 = .ok (.aload_n 0, 1) := by decide +kernel
theorem d_Matches_findLongest_47 : decode c_Matches_findLongest 47 = .ok (.getfield 25, 3) := by decide +kernel
theorem d_Matches_findLongest_50 : decode c_Matches_findLongest 50 = .ok (.iadd, 1) := by decide +kernel
theorem d_Matches_findLongest_51 : decode c_Matches_findLongest 51 = .ok (.invokevirtual 82, 3) := by decide +kernel
theorem d_Matches_findLongest_54 : decode c_Matches_findLongest 54 = .ok (.aload_n 0, 1) := by decide +kernel
theorem d_Matches_findLongest_55 : decode c_Matches_findLongest 55 = .ok (.getfield 31, 3) := by decide +kernel
theorem d_Matches_findLongest_58 : decode c_Matches_findLongest 58 = .ok (.iload_n 1, 1) := by decide +kernel
theorem d_Matches_findLongest_59 : decode c_Matches_findLongest 59 = .ok (.aload_n 0, 1) := by decide +kernel
theorem d_Matches_findLongest_60 : decode c_Matches_findLongest 60 = .ok (.getfield 25, 3) := by decide +kernel
theorem d_Matches_findLongest_63 : decode c_Matches_findLongest 63 = .ok (.iadd, 1) := by decide +kernel
theorem d_Matches_findLongest_64 : decode c_Matches_findLongest 64 = .ok (.invokevirtual 82, 3) := by decide +kernel
theorem d_Matches_findLongest_67 : decode c_Matches_findLongest 67 = .ok (.if_icmp .ne 43, 3) := by decide +kernel
theorem d_Matches_findLongest_70 : decode c_Matches_findLongest 70 = .ok (.aload_n 0, 1) := by decide +kernel
theorem d_Matches_findLongest_71 : decode c_Matches_findLongest 71 = .ok (.iload_n 2, 1) := by decide +kernel
theorem d_Matches_findLongest_72 : decode c_Matches_findLongest 72 = .ok (.iload_n 1, 1) := by decide +kernel
theorem d_Matches_findLongest_73 : decode c_Matches_findLongest 73 = .ok (.aload_n 0, 1) := by decide +kernel
theorem d_Matches_findLongest_74 : decode c_Matches_findLongest 74 = .ok (.getfield 22, 3) := by decide +kernel
theorem d_Matches_findLongest_77 : decode c_Matches_findLongest 77 = .ok (.invokevirtual 78, 3) := by decide +kernel
theorem d_Matches_findLongest_80 : decode c_Matches_findLongest 80 = .ok (.istore 4, 2) := by decide +kernel
theorem d_Matches_findLongest_82 : decode c_Matches_findLongest 82 = .ok (.iload 4, 2) := by decide +kernel
theorem d_Matches_findLongest_84 : decode c_Matches_findLongest 84 = .ok (.iconst 4, 1) := by decide +kernel
theorem d_Matches_findLongest_85 : decode c_Matches_findLongest 85 = .ok (.if_icmp .lt 25, 3) := by decide +kernel
theorem d_Matches_findLongest_88 : decode c_Matches_findLongest 88 = .ok (.iload 4, 2) := by decide +kernel
theorem d_Matches_findLongest_90 : decode c_Matches_findLongest 90 = .ok (.aload_n 0, 1) := by decide +kernel
theorem d_Matches_findLongest_91 : decode c_Matches_findLongest 91 = .ok (.getfield 25, 3) := by decide +kernel
theorem d_Matches_findLongest_94 : decode c_Matches_findLongest 94 = .ok (.if_icmp .le 16, 3) := by decide +kernel
theorem d_Matches_findLongest_97 : decode c_Matches_findLongest 97 = .ok (.aload_n 0, 1) := by decide +kernel
theorem d_Matches_findLongest_98 : decode c_Matches_findLongest 98 = .ok (.iload 4, 2) := by decide +kernel
theorem d_Matches_findLongest_100 : decode c_Matches_findLongest 100 = .ok (.putfield 25, 3) := by decide +kernel
theorem d_Matches_findLongest_103 : decode c_Matches_findLongest 103 = .ok (.aload_n 0, 1) := by decide +kernel
theorem d_Matches_findLongest_104 : decode c_Matches_findLongest 104 = .ok (.iload_n 1, 1) := by decide +kernel
theorem d_Matches_findLongest_105 : decode c_Matches_findLongest 105 = .ok (.iload_n 2, 1) := by decide +kernel
theorem d_Matches_findLongest_106 : decode c_Matches_findLongest 106 = .ok (.isub, 1) := by decide +kernel
theorem d_Matches_findLongest_107 : decode c_Matches_findLongest 107 = .ok (.putfield 28, 3) := by decide +kernel
theorem d_Matches_findLongest_110 : decode c_Matches_findLongest 110 = .ok (.aload_n 0, 1) := by decide +kernel
theorem d_Matches_findLongest_111 : decode c_Matches_findLongest 111 = .ok (.iload_n 2, 1) := by decide +kernel
theorem d_Matches_findLongest_112 : decode c_Matches_findLongest 112 = .ok (.invokevirtual 75, 3) := by decide +kernel
theorem d_Matches_findLongest_115 : decode c_Matches_findLongest 115 = .ok (.istore_n 2, 1) := by decide +kernel
theorem d_Matches_findLongest_116 : decode c_Matches_findLongest 116 = .ok (.iinc 3 1, 3) := by decide +kernel
theorem d_Matches_findLongest_119 : decode c_Matches_findLongest 119 = .ok (.goto (-106), 3) := by decide +kernel
theorem d_Matches_findLongest_122 : decode c_Matches_findLongest 122 = .ok (.return_, 1) := by decide +kernel
theorem d_Matches_dropIfNextIsLonger_0 : decode c_Matches_dropIfNextIsLonger 0 = .ok (.aload_n 0, 1) := by decide +kernel
theorem d_Matches_dropIfNextIsLonger_1 : decode c_Matches_dropIfNextIsLonger 1 = .ok (.getfield 25, 3) := by decide +kernel
theorem d_Matches_dropIfNextIsLonger_4 : decode c_Matches_dropIfNextIsLonger 4 = .ok (.istore_n 2, 1) := by decide +kernel
theorem d_Matches_dropIfNextIsLonger_5 : decode c_Matches_dropIfNextIsLonger 5 = .ok (.aload_n 0, 1) := by decide +kernel
theorem d_Matches_dropIfNextIsLonger_6 : decode c_Matches_dropIfNextIsLonger 6 = .ok (.getfield 28, 3) := by decide +kernel
theorem d_Matches_dropIfNextIsLonger_9 : decode c_Matches_dropIfNextIsLonger 9 = .ok (.istore_n 3, 1) := by decide +kernel
theorem d_Matches_dropIfNextIsLonger_10 : decode c_Matches_dropIfNextIsLonger 10 = .ok (.aload_n 0, 1) := by decide +kernel
theorem d_Matches_dropIfNextIsLonger_11 : decode c_Matches_dropIfNextIsLonger 11 = .ok (.iload_n 1, 1) := by decide +kernel
theorem d_Matches_dropIfNextIsLonger_12 : decode c_Matches_dropIfNextIsLonger 12 = .ok (.iconst 1, 1) := by decide +kernel
theorem d_Matches_dropIfNextIsLonger_13 : decode c_Matches_dropIfNextIsLonger 13 = .ok (.iadd, 1) := by decide +kernel
theorem d_Matches_dropIfNextIsLonger_14 : decode c_Matches_dropIfNextIsLonger 14 = .ok (.invokevirtual 68, 3) := by decide +kernel
theorem d_Matches_dropIfNextIsLonger_17 : decode c_Matches_dropIfNextIsLonger 17 = .ok (.aload_n 0, 1) := by decide +kernel
theorem d_Matches_dropIfNextIsLonger_18 : decode c_Matches_dropIfNextIsLonger 18 = .ok (.aload_n 0, 1) := by decide +kernel
theorem d_Matches_dropIfNextIsLonger_19 : decode c_Matches_dropIfNextIsLonger 19 = .ok (.getfield 25, 3) := by decide +kernel
theorem d_Matches_dropIfNextIsLonger_22 : decode c_Matches_dropIfNextIsLonger 22 = .ok (.iload_n 2, 1) := by decide +kernel
theorem d_Matches_dropIfNextIsLonger_23 : decode c_Matches_dropIfNextIsLonger 23 = .ok (.if_icmp .le 7, 3) := by decide +kernel
theorem d_Matches_dropIfNextIsLonger_26 : decode c_Matches_dropIfNextIsLonger 26 = .ok (.iconst 0, 1) := by decide +kernel
theorem d_Matches_dropIfNextIsLonger_27 : decode c_Matches_dropIfNextIsLonger 27 = .ok (.goto 4, 3) := by decide +kernel
theorem d_Matches_dropIfNextIsLonger_30 : decode c_Matches_dropIfNextIsLonger 30 = .ok (.iload_n 2, 1) := by decide +kernel
theorem d_Matches_dropIfNextIsLonger_31 : decode c_Matches_dropIfNextIsLonger 31 = .ok (.putfield 25, 3) := by decide +kernel
theorem d_Matches_dropIfNextIsLonger_34 : decode c_Matches_dropIfNextIsLonger 34 = .ok (.aload_n 0, 1) := by decide +kernel
theorem d_Matches_dropIfNextIsLonger_35 : decode c_Matches_dropIfNextIsLonger 35 = .ok (.iload_n 3, 1) := by decide +kernel
theorem d_Matches_dropIfNextIsLonger_36 : decode c_Matches_dropIfNextIsLonger 36 = .ok (.putfield 28, 3) := by decide +kernel
theorem d_Matches_dropIfNextIsLonger_39 : decode c_Matches_dropIfNextIsLonger 39 = .ok (.return_, 1) := by decide +kernel
theorem d_Matches_earlier_0 : decode c_Matches_earlier 0 = .ok (.iload_n 1, 1) := by decide +kernel
theorem d_Matches_earlier_1 : decode c_Matches_earlier 1 = .ok (.ifCond .lt 29, 3) := by decide +kernel
theorem d_Matches_earlier_4 : decode c_Matches_earlier 4 = .ok (.iload_n 1, 1) := by decide +kernel
theorem d_Matches_earlier_5 : decode c_Matches_earlier 5 = .ok (.sipush 10000, 3) := by decide +kernel
theorem d_Matches_earlier_8 : decode c_Matches_earlier 8 = .ok (.if_icmp .ge 22, 3) := by decide +kernel
theorem d_Matches_earlier_11 : decode c_Matches_earlier 11 = .ok (.iload_n 1, 1) := by decide +kernel
theorem d_Matches_earlier_12 : decode c_Matches_earlier 12 = .ok (.iconst 4, 1) := by decide +kernel
theorem d_Matches_earlier_13 : decode c_Matches_earlier 13 = .ok (.iadd, 1) := by decide +kernel
theorem d_Matches_earlier_14 : decode c_Matches_earlier 14 = .ok (.aload_n 0, 1) := by decide +kernel
theorem d_Matches_earlier_15 : decode c_Matches_earlier 15 = .ok (.getfield 22, 3) := by decide +kernel
theorem d_Matches_earlier_18 : decode c_Matches_earlier 18 = .ok (.if_icmp .gt 12, 3) := by decide +kernel
theorem d_Matches_earlier_21 : decode c_Matches_earlier 21 = .ok (.aload_n 0, 1) := by decide +kernel
theorem d_Matches_earlier_22 : decode c_Matches_earlier 22 = .ok (.getfield 11, 3) := by decide +kernel
theorem d_Matches_earlier_25 : decode c_Matches_earlier 25 = .ok (.iload_n 1, 1) := by decide +kernel
theorem d_Matches_earlier_26 : decode c_Matches_earlier 26 = .ok (.iaload, 1) := by decide +kernel
theorem d_Matches_earlier_27 : decode c_Matches_earlier 27 = .ok (.goto 4, 3) := by decide +kernel
theorem d_Matches_earlier_30 : decode c_Matches_earlier 30 = .ok (.iconst (-1), 1) := by decide +kernel
theorem d_Matches_earlier_31 : decode c_Matches_earlier 31 = .ok (.ireturn, 1) := by decide +kernel
theorem d_Matches_alike_0 : decode c_Matches_alike 0 = .ok (.iload_n 1, 1) := by decide +kernel
theorem d_Matches_alike_1 : decode c_Matches_alike 1 = .ok (.ifCond .lt 8, 3) := by decide +kernel
theorem d_Matches_alike_4 : decode c_Matches_alike 4 = .ok (.iload_n 1, 1) := by decide +kernel
theorem d_Matches_alike_5 : decode c_Matches_alike 5 = .ok (.iload_n 2, 1) := by decide +kernel
theorem d_Matches_alike_6 : decode c_Matches_alike 6 = .ok (.if_icmp .lt 5, 3) := by decide +kernel
theorem d_Matches_alike_9 : decode c_Matches_alike 9 = .ok (.iconst 0, 1) := by decide +kernel
theorem d_Matches_alike_10 : decode c_Matches_alike 10 = .ok (.ireturn, 1) := by decide +kernel
theorem d_Matches_alike_11 : decode c_Matches_alike 11 = .ok (.iconst 0, 1) := by decide +kernel
theorem d_Matches_alike_12 : decode c_Matches_alike 12 = .ok (.istore 4, 2) := by decide +kernel
theorem d_Matches_alike_14 : decode c_Matches_alike 14 = .ok (.iload_n 2, 1) := by decide +kernel
theorem d_Matches_alike_15 : decode c_Matches_alike 15 = .ok (.iload 4, 2) := by decide +kernel
theorem d_Matches_alike_17 : decode c_Matches_alike 17 = .ok (.iadd, 1) := by decide +kernel
theorem d_Matches_alike_18 : decode c_Matches_alike 18 = .ok (.iload_n 3, 1) := by decide +kernel
theorem d_Matches_alike_19 : decode c_Matches_alike 19 = .ok (.if_icmp .ge 46, 3) := by decide +kernel
theorem d_Matches_alike_22 : decode c_Matches_alike 22 = .ok (.iload_n 2, 1) := by decide +kernel
theorem d_Matches_alike_23 : decode c_Matches_alike 23 = .ok (.iload 4, 2) := by decide +kernel
theorem d_Matches_alike_25 : decode c_Matches_alike 25 = .ok (.iadd, 1) := by decide +kernel
theorem d_Matches_alike_26 : decode c_Matches_alike 26 = .ok (.sipush 10000, 3) := by decide +kernel
theorem d_Matches_alike_29 : decode c_Matches_alike 29 = .ok (.if_icmp .ge 36, 3) := by decide +kernel
theorem d_Matches_alike_32 : decode c_Matches_alike 32 = .ok (.aload_n 0, 1) := by decide +kernel
theorem d_Matches_alike_33 : decode c_Matches_alike 33 = .ok (.getfield 31, 3) := by decide +kernel
theorem d_Matches_alike_36 : decode c_Matches_alike 36 = .ok (.getfield 85, 3) := by decide +kernel
theorem d_Matches_alike_39 : decode c_Matches_alike 39 = .ok (.iload_n 1, 1) := by decide +kernel
theorem d_Matches_alike_40 : decode c_Matches_alike 40 = .ok (.iload 4, 2) := by decide +kernel
theorem d_Matches_alike_42 : decode c_Matches_alike 42 = .ok (.iadd, 1) := by decide +kernel
theorem d_Matches_alike_43 : decode c_Matches_alike 43 = .ok (.baload, 1) := by decide +kernel
theorem d_Matches_alike_44 : decode c_Matches_alike 44 = .ok (.aload_n 0, 1) := by decide +kernel
theorem d_Matches_alike_45 : decode c_Matches_alike 45 = .ok (.getfield 31, 3) := by decide +kernel
theorem d_Matches_alike_48 : decode c_Matches_alike 48 = .ok (.getfield 85, 3) := by decide +kernel
theorem d_Matches_alike_51 : decode c_Matches_alike 51 = .ok (.iload_n 2, 1) := by decide +kernel
theorem d_Matches_alike_52 : decode c_Matches_alike 52 = .ok (.iload 4, 2) := by decide +kernel
theorem d_Matches_alike_54 : decode c_Matches_alike 54 = .ok (.iadd, 1) := by decide +kernel
theorem d_Matches_alike_55 : decode c_Matches_alike 55 = .ok (.baload, 1) := by decide +kernel
theorem d_Matches_alike_56 : decode c_Matches_alike 56 = .ok (.if_icmp .ne 9, 3) := by decide +kernel
theorem d_Matches_alike_59 : decode c_Matches_alike 59 = .ok (.iinc 4 1, 3) := by decide +kernel
theorem d_Matches_alike_62 : decode c_Matches_alike 62 = .ok (.goto (-48), 3) := by decide +kernel
theorem d_Matches_alike_65 : decode c_Matches_alike 65 = .ok (.iload 4, 2) := by decide +kernel
theorem d_Matches_alike_67 : decode c_Matches_alike 67 = .ok (.ireturn, 1) := by decide +kernel
theorem d_Row_init_0 : decode c_Row_init 0 = .ok (.aload_n 0, 1) := by decide +kernel
theorem d_Row_init_1 : decode c_Row_init 1 = .ok (.invokespecial 3, 3) := by decide +kernel
theorem d_Row_init_4 : decode c_Row_init 4 = .ok (.aload_n 0, 1) := by decide +kernel
theorem d_Row_init_5 : decode c_Row_init 5 = .ok (.sipush 10000, 3) := by decide +kernel
theorem d_Row_init_8 : decode c_Row_init 8 = .ok (.newarray .byte, 2) := by decide +kernel
theorem d_Row_init_10 : decode c_Row_init 10 = .ok (.putfield 9, 3) := by decide +kernel
theorem d_Row_init_13 : decode c_Row_init 13 = .ok (.aload_n 0, 1) := by decide +kernel
theorem d_Row_init_14 : decode c_Row_init 14 = .ok (.iconst 0, 1) := by decide +kernel
theorem d_Row_init_15 : decode c_Row_init 15 = .ok (.putfield 15, 3) := by decide +kernel
theorem d_Row_init_18 : decode c_Row_init 18 = .ok (.return_, 1) := by decide +kernel
theorem d_Row_fits_0 : decode c_Row_fits 0 = .ok (.aload_n 0, 1) := by decide +kernel
theorem d_Row_fits_1 : decode c_Row_fits 1 = .ok (.getfield 15, 3) := by decide +kernel
theorem d_Row_fits_4 : decode c_Row_fits 4 = .ok (.sipush 10000, 3) := by decide +kernel
theorem d_Row_fits_7 : decode c_Row_fits 7 = .ok (.if_icmp .gt 7, 3) := by decide +kernel
theorem d_Row_fits_10 : decode c_Row_fits 10 = .ok (.iconst 1, 1) := by decide +kernel
theorem d_Row_fits_11 : decode c_Row_fits 11 = .ok (.goto 4, 3) := by decide +kernel
theorem d_Row_fits_14 : decode c_Row_fits 14 = .ok (.iconst 0, 1) := by decide +kernel
theorem d_Row_fits_15 : decode c_Row_fits 15 = .ok (.ireturn, 1) := by decide +kernel
theorem d_Row_at_0 : decode c_Row_at 0 = .ok (.iload_n 1, 1) := by decide +kernel
theorem d_Row_at_1 : decode c_Row_at 1 = .ok (.ifCond .lt 31, 3) := by decide +kernel
theorem d_Row_at_4 : decode c_Row_at 4 = .ok (.iload_n 1, 1) := by decide +kernel
theorem d_Row_at_5 : decode c_Row_at 5 = .ok (.aload_n 0, 1) := by decide +kernel
theorem d_Row_at_6 : decode c_Row_at 6 = .ok (.getfield 15, 3) := by decide +kernel
theorem d_Row_at_9 : decode c_Row_at 9 = .ok (.if_icmp .ge 23, 3) := by decide +kernel
theorem d_Row_at_12 : decode c_Row_at 12 = .ok (.iload_n 1, 1) := by decide +kernel
theorem d_Row_at_13 : decode c_Row_at 13 = .ok (.sipush 10000, 3) := by decide +kernel
theorem d_Row_at_16 : decode c_Row_at 16 = .ok (.if_icmp .ge 16, 3) := by decide +kernel
theorem d_Row_at_19 : decode c_Row_at 19 = .ok (.aload_n 0, 1) := by decide +kernel
theorem d_Row_at_20 : decode c_Row_at 20 = .ok (.getfield 9, 3) := by decide +kernel
theorem d_Row_at_23 : decode c_Row_at 23 = .ok (.iload_n 1, 1) := by decide +kernel
theorem d_Row_at_24 : decode c_Row_at 24 = .ok (.baload, 1) := by decide +kernel
theorem d_Row_at_25 : decode c_Row_at 25 = .ok (.sipush 255, 3) := by decide +kernel
theorem d_Row_at_28 : decode c_Row_at 28 = .ok (.iand, 1) := by decide +kernel
theorem d_Row_at_29 : decode c_Row_at 29 = .ok (.goto 4, 3) := by decide +kernel
theorem d_Row_at_32 : decode c_Row_at 32 = .ok (.iconst (-1), 1) := by decide +kernel
theorem d_Row_at_33 : decode c_Row_at 33 = .ok (.ireturn, 1) := by decide +kernel
theorem d_Row_put_0 : decode c_Row_put 0 = .ok (.aload_n 0, 1) := by decide +kernel
theorem d_Row_put_1 : decode c_Row_put 1 = .ok (.getfield 15, 3) := by decide +kernel
theorem d_Row_put_4 : decode c_Row_put 4 = .ok (.ifCond .lt 24, 3) := by decide +kernel
theorem d_Row_put_7 : decode c_Row_put 7 = .ok (.aload_n 0, 1) := by decide +kernel
theorem d_Row_put_8 : decode c_Row_put 8 = .ok (.getfield 15, 3) := by decide +kernel
theorem d_Row_put_11 : decode c_Row_put 11 = .ok (.sipush 10000, 3) := by decide +kernel
theorem d_Row_put_14 : decode c_Row_put 14 = .ok (.if_icmp .ge 14, 3) := by decide +kernel
theorem d_Row_put_17 : decode c_Row_put 17 = .ok (.aload_n 0, 1) := by decide +kernel
theorem d_Row_put_18 : decode c_Row_put 18 = .ok (.getfield 9, 3) := by decide +kernel
theorem d_Row_put_21 : decode c_Row_put 21 = .ok (.aload_n 0, 1) := by decide +kernel
theorem d_Row_put_22 : decode c_Row_put 22 = .ok (.getfield 15, 3) := by decide +kernel
theorem d_Row_put_25 : decode c_Row_put 25 = .ok (.iload_n 1, 1) := by decide +kernel
theorem d_Row_put_26 : decode c_Row_put 26 = .ok (.i2b, 1) := by decide +kernel
theorem d_Row_put_27 : decode c_Row_put 27 = .ok (.bastore, 1) := by decide +kernel
theorem d_Row_put_28 : decode c_Row_put 28 = .ok (.aload_n 0, 1) := by decide +kernel
theorem d_Row_put_29 : decode c_Row_put 29 = .ok (.dup, 1) := by decide +kernel
theorem d_Row_put_30 : decode c_Row_put 30 = .ok (.getfield 15, 3) := by decide +kernel
theorem d_Row_put_33 : decode c_Row_put 33 = .ok (.iconst 1, 1) := by decide +kernel
theorem d_Row_put_34 : decode c_Row_put 34 = .ok (.iadd, 1) := by decide +kernel
theorem d_Row_put_35 : decode c_Row_put 35 = .ok (.putfield 15, 3) := by decide +kernel
theorem d_Row_put_38 : decode c_Row_put 38 = .ok (.return_, 1) := by decide +kernel
theorem d_Row_set_0 : decode c_Row_set 0 = .ok (.iload_n 1, 1) := by decide +kernel
theorem d_Row_set_1 : decode c_Row_set 1 = .ok (.ifCond .lt 18, 3) := by decide +kernel
theorem d_Row_set_4 : decode c_Row_set 4 = .ok (.iload_n 1, 1) := by decide +kernel
theorem d_Row_set_5 : decode c_Row_set 5 = .ok (.sipush 10000, 3) := by decide +kernel
theorem d_Row_set_8 : decode c_Row_set 8 = .ok (.if_icmp .ge 11, 3) := by decide +kernel
theorem d_Row_set_11 : decode c_Row_set 11 = .ok (.aload_n 0, 1) := by decide +kernel
theorem d_Row_set_12 : decode c_Row_set 12 = .ok (.getfield 9, 3) := by decide +kernel
theorem d_Row_set_15 : decode c_Row_set 15 = .ok (.iload_n 1, 1) := by decide +kernel
theorem d_Row_set_16 : decode c_Row_set 16 = .ok (.iload_n 2, 1) := by decide +kernel
theorem d_Row_set_17 : decode c_Row_set 17 = .ok (.i2b, 1) := by decide +kernel
theorem d_Row_set_18 : decode c_Row_set 18 = .ok (.bastore, 1) := by decide +kernel
theorem d_Row_set_19 : decode c_Row_set 19 = .ok (.return_, 1) := by decide +kernel
theorem d_Row_putNumber_0 : decode c_Row_putNumber 0 = .ok (.iconst 0, 1) := by decide +kernel
theorem d_Row_putNumber_1 : decode c_Row_putNumber 1 = .ok (.istore_n 3, 1) := by decide +kernel
theorem d_Row_putNumber_2 : decode c_Row_putNumber 2 = .ok (.iload_n 3, 1) := by decide +kernel
theorem d_Row_putNumber_3 : decode c_Row_putNumber 3 = .ok (.iload_n 2, 1) := by decide +kernel
theorem d_Row_putNumber_4 : decode c_Row_putNumber 4 = .ok (.if_icmp .ge 19, 3) := by decide +kernel
theorem d_Row_putNumber_7 : decode c_Row_putNumber 7 = .ok (.aload_n 0, 1) := by decide +kernel
theorem d_Row_putNumber_8 : decode c_Row_putNumber 8 = .ok (.iload_n 1, 1) := by decide +kernel
theorem d_Row_putNumber_9 : decode c_Row_putNumber 9 = .ok (.bipush 8, 2) := by decide +kernel
theorem d_Row_putNumber_11 : decode c_Row_putNumber 11 = .ok (.iload_n 3, 1) := by decide +kernel
theorem d_Row_putNumber_12 : decode c_Row_putNumber 12 = .ok (.imul, 1) := by decide +kernel
theorem d_Row_putNumber_13 : decode c_Row_putNumber 13 = .ok (.iushr, 1) := by decide +kernel
theorem d_Row_putNumber_14 : decode c_Row_putNumber 14 = .ok (.invokevirtual 19, 3) := by decide +kernel
theorem d_Row_putNumber_17 : decode c_Row_putNumber 17 = .ok (.iinc 3 1, 3) := by decide +kernel
theorem d_Row_putNumber_20 : decode c_Row_putNumber 20 = .ok (.goto (-18), 3) := by decide +kernel
theorem d_Row_putNumber_23 : decode c_Row_putNumber 23 = .ok (.return_, 1) := by decide +kernel
theorem d_Row_setNumber_0 : decode c_Row_setNumber 0 = .ok (.iconst 0, 1) := by decide +kernel
theorem d_Row_setNumber_1 : decode c_Row_setNumber 1 = .ok (.istore 4, 2) := by decide +kernel
theorem d_Row_setNumber_3 : decode c_Row_setNumber 3 = .ok (.iload 4, 2) := by decide +kernel
theorem d_Row_setNumber_5 : decode c_Row_setNumber 5 = .ok (.iload_n 3, 1) := by decide +kernel
theorem d_Row_setNumber_6 : decode c_Row_setNumber 6 = .ok (.if_icmp .ge 24, 3) := by decide +kernel
theorem d_Row_setNumber_9 : decode c_Row_setNumber 9 = .ok (.aload_n 0, 1) := by decide +kernel
theorem d_Row_setNumber_10 : decode c_Row_setNumber 10 = .ok (.iload_n 1, 1) := by decide +kernel
theorem d_Row_setNumber_11 : decode c_Row_setNumber 11 = .ok (.iload 4, 2) := by decide +kernel
theorem d_Row_setNumber_13 : decode c_Row_setNumber 13 = .ok (.iadd, 1) := by decide +kernel
theorem d_Row_setNumber_14 : decode c_Row_setNumber 14 = .ok (.iload_n 2, 1) := by decide +kernel
theorem d_Row_setNumber_15 : decode c_Row_setNumber 15 = .ok (.bipush 8, 2) := by decide +kernel
theorem d_Row_setNumber_17 : decode c_Row_setNumber 17 = .ok (.iload 4, 2) := by decide +kernel
theorem d_Row_setNumber_19 : decode c_Row_setNumber 19 = .ok (.imul, 1) := by decide +kernel
theorem d_Row_setNumber_20 : decode c_Row_setNumber 20 = .ok (.iushr, 1) := by decide +kernel
theorem d_Row_setNumber_21 : decode c_Row_setNumber 21 = .ok (.invokevirtual 23, 3) := by decide +kernel
theorem d_Row_setNumber_24 : decode c_Row_setNumber 24 = .ok (.iinc 4 1, 3) := by decide +kernel
theorem d_Row_setNumber_27 : decode c_Row_setNumber 27 = .ok (.goto (-24), 3) := by decide +kernel
theorem d_Row_setNumber_30 : decode c_Row_setNumber 30 = .ok (.return_, 1) := by decide +kernel
