theorem dX0_init_0 : decode cX0_init 0 = .ok (.aload_n 0, 1) := by decide +kernel
theorem dX0_init_1 : decode cX0_init 1 = .ok (.invokespecial 3, 3) := by decide +kernel
theorem dX0_init_4 : decode cX0_init 4 = .ok (.aload_n 0, 1) := by decide +kernel
theorem dX0_init_5 : decode cX0_init 5 = .ok (.new 9, 3) := by decide +kernel
theorem dX0_init_8 : decode cX0_init 8 = .ok (.dup, 1) := by decide +kernel
theorem dX0_init_9 : decode cX0_init 9 = .ok (.invokespecial 11, 3) := by decide +kernel
theorem dX0_init_12 : decode cX0_init 12 = .ok (.putfield 12, 3) := by decide +kernel
theorem dX0_init_15 : decode cX0_init 15 = .ok (.aload_n 0, 1) := by decide +kernel
theorem dX0_init_16 : decode cX0_init 16 = .ok (.bipush 60, 2) := by decide +kernel
theorem dX0_init_18 : decode cX0_init 18 = .ok (.newarray .int, 2) := by decide +kernel
theorem dX0_init_20 : decode cX0_init 20 = .ok (.putfield 18, 3) := by decide +kernel
theorem dX0_init_23 : decode cX0_init 23 = .ok (.return_, 1) := by decide +kernel
theorem dX0_faultOf_0 : decode cX0_faultOf 0 = .ok (.aload_n 1, 1) := by decide +kernel
theorem dX0_faultOf_1 : decode cX0_faultOf 1 = .ok (.getfield 22, 3) := by decide +kernel
theorem dX0_faultOf_4 : decode cX0_faultOf 4 = .ok (.iconst 0, 1) := by decide +kernel
theorem dX0_faultOf_5 : decode cX0_faultOf 5 = .ok (.aload_n 0, 1) := by decide +kernel
theorem dX0_faultOf_6 : decode cX0_faultOf 6 = .ok (.getfield 18, 3) := by decide +kernel
theorem dX0_faultOf_9 : decode cX0_faultOf 9 = .ok (.iconst 0, 1) := by decide +kernel
theorem dX0_faultOf_10 : decode cX0_faultOf 10 = .ok (.bipush 60, 2) := by decide +kernel
theorem dX0_faultOf_12 : decode cX0_faultOf 12 = .ok (.invokestatic 25, 3) := by decide +kernel
theorem dX0_faultOf_15 : decode cX0_faultOf 15 = .ok (.aload_n 0, 1) := by decide +kernel
theorem dX0_faultOf_16 : decode cX0_faultOf 16 = .ok (.aload_n 1, 1) := by decide +kernel
theorem dX0_faultOf_17 : decode cX0_faultOf 17 = .ok (.getfield 31, 3) := by decide +kernel
theorem dX0_faultOf_20 : decode cX0_faultOf 20 = .ok (.putfield 35, 3) := by decide +kernel
theorem dX0_faultOf_23 : decode cX0_faultOf 23 = .ok (.aload_n 0, 1) := by decide +kernel
theorem dX0_faultOf_24 : decode cX0_faultOf 24 = .ok (.iload_n 2, 1) := by decide +kernel
theorem dX0_faultOf_25 : decode cX0_faultOf 25 = .ok (.putfield 36, 3) := by decide +kernel
theorem dX0_faultOf_28 : decode cX0_faultOf 28 = .ok (.aload_n 0, 1) := by decide +kernel
theorem dX0_faultOf_29 : decode cX0_faultOf 29 = .ok (.iconst 0, 1) := by decide +kernel
theorem dX0_faultOf_30 : decode cX0_faultOf 30 = .ok (.putfield 39, 3) := by decide +kernel
theorem dX0_faultOf_33 : decode cX0_faultOf 33 = .ok (.aload_n 0, 1) := by decide +kernel
theorem dX0_faultOf_34 : decode cX0_faultOf 34 = .ok (.iconst 0, 1) := by decide +kernel
theorem dX0_faultOf_35 : decode cX0_faultOf 35 = .ok (.putfield 42, 3) := by decide +kernel
theorem dX0_faultOf_38 : decode cX0_faultOf 38 = .ok (.aload_n 0, 1) := by decide +kernel
theorem dX0_faultOf_39 : decode cX0_faultOf 39 = .ok (.getfield 12, 3) := by decide +kernel
theorem dX0_faultOf_42 : decode cX0_faultOf 42 = .ok (.invokevirtual 46, 3) := by decide +kernel
theorem dX0_faultOf_45 : decode cX0_faultOf 45 = .ok (.aload_n 0, 1) := by decide +kernel
theorem dX0_faultOf_46 : decode cX0_faultOf 46 = .ok (.iconst 0, 1) := by decide +kernel
theorem dX0_faultOf_47 : decode cX0_faultOf 47 = .ok (.iconst 0, 1) := by decide +kernel
theorem dX0_faultOf_48 : decode cX0_faultOf 48 = .ok (.invokevirtual 49, 3) := by decide +kernel
theorem dX0_faultOf_51 : decode cX0_faultOf 51 = .ok (.aload_n 0, 1) := by decide +kernel
theorem dX0_faultOf_52 : decode cX0_faultOf 52 = .ok (.getfield 42, 3) := by decide +kernel
theorem dX0_faultOf_55 : decode cX0_faultOf 55 = .ok (.ifCond .ne 14, 3) := by decide +kernel
theorem dX0_faultOf_58 : decode cX0_faultOf 58 = .ok (.aload_n 0, 1) := by decide +kernel
theorem dX0_faultOf_59 : decode cX0_faultOf 59 = .ok (.getfield 39, 3) := by decide +kernel
theorem dX0_faultOf_62 : decode cX0_faultOf 62 = .ok (.aload_n 0, 1) := by decide +kernel
theorem dX0_faultOf_63 : decode cX0_faultOf 63 = .ok (.getfield 35, 3) := by decide +kernel
theorem dX0_faultOf_66 : decode cX0_faultOf 66 = .ok (.if_icmp .ge 10, 3) := by decide +kernel
theorem dX0_faultOf_69 : decode cX0_faultOf 69 = .ok (.aload_n 0, 1) := by decide +kernel
theorem dX0_faultOf_70 : decode cX0_faultOf 70 = .ok (.getfield 39, 3) := by decide +kernel
theorem dX0_faultOf_73 : decode cX0_faultOf 73 = .ok (.goto 4, 3) := by decide +kernel
theorem dX0_faultOf_76 : decode cX0_faultOf 76 = .ok (.iconst (-1), 1) := by decide +kernel
theorem dX0_faultOf_77 : decode cX0_faultOf 77 = .ok (.ireturn, 1) := by decide +kernel
theorem dX0_readChain_0 : decode cX0_readChain 0 = .ok (.iload_n 1, 1) := by decide +kernel
theorem dX0_readChain_1 : decode cX0_readChain 1 = .ok (.iconst 4, 1) := by decide +kernel
theorem dX0_readChain_2 : decode cX0_readChain 2 = .ok (.if_icmp .le 9, 3) := by decide +kernel
theorem dX0_readChain_5 : decode cX0_readChain 5 = .ok (.aload_n 0, 1) := by decide +kernel
theorem dX0_readChain_6 : decode cX0_readChain 6 = .ok (.iload_n 2, 1) := by decide +kernel
theorem dX0_readChain_7 : decode cX0_readChain 7 = .ok (.invokevirtual 53, 3) := by decide +kernel
theorem dX0_readChain_10 : decode cX0_readChain 10 = .ok (.return_, 1) := by decide +kernel
theorem dX0_readChain_11 : decode cX0_readChain 11 = .ok (.aload_n 0, 1) := by decide +kernel
theorem dX0_readChain_12 : decode cX0_readChain 12 = .ok (.iload_n 1, 1) := by decide +kernel
theorem dX0_readChain_13 : decode cX0_readChain 13 = .ok (.iconst 1, 1) := by decide +kernel
theorem dX0_readChain_14 : decode cX0_readChain 14 = .ok (.iadd, 1) := by decide +kernel
theorem dX0_readChain_15 : decode cX0_readChain 15 = .ok (.iload_n 2, 1) := by decide +kernel
theorem dX0_readChain_16 : decode cX0_readChain 16 = .ok (.invokevirtual 49, 3) := by decide +kernel
theorem dX0_readChain_19 : decode cX0_readChain 19 = .ok (.aload_n 0, 1) := by decide +kernel
theorem dX0_readChain_20 : decode cX0_readChain 20 = .ok (.getfield 42, 3) := by decide +kernel
theorem dX0_readChain_23 : decode cX0_readChain 23 = .ok (.ifCond .ne 76, 3) := by decide +kernel
theorem dX0_readChain_26 : decode cX0_readChain 26 = .ok (.aload_n 0, 1) := by decide +kernel
theorem dX0_readChain_27 : decode cX0_readChain 27 = .ok (.getfield 39, 3) := by decide +kernel
theorem dX0_readChain_30 : decode cX0_readChain 30 = .ok (.aload_n 0, 1) := by decide +kernel
theorem dX0_readChain_31 : decode cX0_readChain 31 = .ok (.getfield 35, 3) := by decide +kernel
theorem dX0_readChain_34 : decode cX0_readChain 34 = .ok (.if_icmp .ge 65, 3) := by decide +kernel
theorem dX0_readChain_37 : decode cX0_readChain 37 = .ok (.aload_n 0, 1) := by decide +kernel
theorem dX0_readChain_38 : decode cX0_readChain 38 = .ok (.getfield 18, 3) := by decide +kernel
theorem dX0_readChain_41 : decode cX0_readChain 41 = .ok (.aload_n 0, 1) := by decide +kernel
theorem dX0_readChain_42 : decode cX0_readChain 42 = .ok (.getfield 39, 3) := by decide +kernel
theorem dX0_readChain_45 : decode cX0_readChain 45 = .ok (.iaload, 1) := by decide +kernel
theorem dX0_readChain_46 : decode cX0_readChain 46 = .ok (.invokestatic 57, 3) := by decide +kernel
theorem dX0_readChain_49 : decode cX0_readChain 49 = .ok (.iload_n 1, 1) := by decide +kernel
theorem dX0_readChain_50 : decode cX0_readChain 50 = .ok (.if_icmp .ne 49, 3) := by decide +kernel
theorem dX0_readChain_53 : decode cX0_readChain 53 = .ok (.aload_n 0, 1) := by decide +kernel
theorem dX0_readChain_54 : decode cX0_readChain 54 = .ok (.getfield 18, 3) := by decide +kernel
theorem dX0_readChain_57 : decode cX0_readChain 57 = .ok (.aload_n 0, 1) := by decide +kernel
theorem dX0_readChain_58 : decode cX0_readChain 58 = .ok (.getfield 39, 3) := by decide +kernel
theorem dX0_readChain_61 : decode cX0_readChain 61 = .ok (.iaload, 1) := by decide +kernel
theorem dX0_readChain_62 : decode cX0_readChain 62 = .ok (.istore_n 3, 1) := by decide +kernel
theorem dX0_readChain_63 : decode cX0_readChain 63 = .ok (.aload_n 0, 1) := by decide +kernel
theorem dX0_readChain_64 : decode cX0_readChain 64 = .ok (.dup, 1) := by decide +kernel
theorem dX0_readChain_65 : decode cX0_readChain 65 = .ok (.getfield 39, 3) := by decide +kernel
theorem dX0_readChain_68 : decode cX0_readChain 68 = .ok (.iconst 1, 1) := by decide +kernel
theorem dX0_readChain_69 : decode cX0_readChain 69 = .ok (.iadd, 1) := by decide +kernel
theorem dX0_readChain_70 : decode cX0_readChain 70 = .ok (.putfield 39, 3) := by decide +kernel
theorem dX0_readChain_73 : decode cX0_readChain 73 = .ok (.aload_n 0, 1) := by decide +kernel
theorem dX0_readChain_74 : decode cX0_readChain 74 = .ok (.iload_n 1, 1) := by decide +kernel
theorem dX0_readChain_75 : decode cX0_readChain 75 = .ok (.iconst 1, 1) := by decide +kernel
theorem dX0_readChain_76 : decode cX0_readChain 76 = .ok (.iadd, 1) := by decide +kernel
theorem dX0_readChain_77 : decode cX0_readChain 77 = .ok (.iload_n 2, 1) := by decide +kernel
theorem dX0_readChain_78 : decode cX0_readChain 78 = .ok (.invokevirtual 49, 3) := by decide +kernel
theorem dX0_readChain_81 : decode cX0_readChain 81 = .ok (.aload_n 0, 1) := by decide +kernel
theorem dX0_readChain_82 : decode cX0_readChain 82 = .ok (.getfield 12, 3) := by decide +kernel
theorem dX0_readChain_85 : decode cX0_readChain 85 = .ok (.iload_n 3, 1) := by decide +kernel
theorem dX0_readChain_86 : decode cX0_readChain 86 = .ok (.ineg, 1) := by decide +kernel
theorem dX0_readChain_87 : decode cX0_readChain 87 = .ok (.invokevirtual 61, 3) := by decide +kernel
theorem dX0_readChain_90 : decode cX0_readChain 90 = .ok (.iload_n 1, 1) := by decide +kernel
theorem dX0_readChain_91 : decode cX0_readChain 91 = .ok (.iconst 2, 1) := by decide +kernel
theorem dX0_readChain_92 : decode cX0_readChain 92 = .ok (.if_icmp .ne 4, 3) := by decide +kernel
theorem dX0_readChain_95 : decode cX0_readChain 95 = .ok (.return_, 1) := by decide +kernel
theorem dX0_readChain_96 : decode cX0_readChain 96 = .ok (.goto (-77), 3) := by decide +kernel
theorem dX0_readChain_99 : decode cX0_readChain 99 = .ok (.return_, 1) := by decide +kernel
theorem dX0_readUnit_0 : decode cX0_readUnit 0 = .ok (.aload_n 0, 1) := by decide +kernel
theorem dX0_readUnit_1 : decode cX0_readUnit 1 = .ok (.getfield 39, 3) := by decide +kernel
theorem dX0_readUnit_4 : decode cX0_readUnit 4 = .ok (.aload_n 0, 1) := by decide +kernel
theorem dX0_readUnit_5 : decode cX0_readUnit 5 = .ok (.getfield 35, 3) := by decide +kernel
theorem dX0_readUnit_8 : decode cX0_readUnit 8 = .ok (.if_icmp .ge 15, 3) := by decide +kernel
theorem dX0_readUnit_11 : decode cX0_readUnit 11 = .ok (.aload_n 0, 1) := by decide +kernel
theorem dX0_readUnit_12 : decode cX0_readUnit 12 = .ok (.getfield 18, 3) := by decide +kernel
theorem dX0_readUnit_15 : decode cX0_readUnit 15 = .ok (.aload_n 0, 1) := by decide +kernel
theorem dX0_readUnit_16 : decode cX0_readUnit 16 = .ok (.getfield 39, 3) := by decide +kernel
theorem dX0_readUnit_19 : decode cX0_readUnit 19 = .ok (.iaload, 1) := by decide +kernel
theorem dX0_readUnit_20 : decode cX0_readUnit 20 = .ok (.goto 4, 3) := by decide +kernel
theorem dX0_readUnit_23 : decode cX0_readUnit 23 = .ok (.iconst (-1), 1) := by decide +kernel
theorem dX0_readUnit_24 : decode cX0_readUnit 24 = .ok (.istore_n 2, 1) := by decide +kernel
theorem dX0_readUnit_25 : decode cX0_readUnit 25 = .ok (.aload_n 0, 1) := by decide +kernel
theorem dX0_readUnit_26 : decode cX0_readUnit 26 = .ok (.iload_n 2, 1) := by decide +kernel
theorem dX0_readUnit_27 : decode cX0_readUnit 27 = .ok (.invokevirtual 64, 3) := by decide +kernel
theorem dX0_readUnit_30 : decode cX0_readUnit 30 = .ok (.istore_n 3, 1) := by decide +kernel
theorem dX0_readUnit_31 : decode cX0_readUnit 31 = .ok (.iload_n 2, 1) := by decide +kernel
theorem dX0_readUnit_32 : decode cX0_readUnit 32 = .ok (.invokestatic 67, 3) := by decide +kernel
theorem dX0_readUnit_35 : decode cX0_readUnit 35 = .ok (.ifCond .eq 10, 3) := by decide +kernel
theorem dX0_readUnit_38 : decode cX0_readUnit 38 = .ok (.aload_n 0, 1) := by decide +kernel
theorem dX0_readUnit_39 : decode cX0_readUnit 39 = .ok (.invokevirtual 71, 3) := by decide +kernel
theorem dX0_readUnit_42 : decode cX0_readUnit 42 = .ok (.goto 110, 3) := by decide +kernel
theorem dX0_readUnit_45 : decode cX0_readUnit 45 = .ok (.iload_n 3, 1) := by decide +kernel
theorem dX0_readUnit_46 : decode cX0_readUnit 46 = .ok (.ifCond .le 25, 3) := by decide +kernel
theorem dX0_readUnit_49 : decode cX0_readUnit 49 = .ok (.aload_n 0, 1) := by decide +kernel
theorem dX0_readUnit_50 : decode cX0_readUnit 50 = .ok (.dup, 1) := by decide +kernel
theorem dX0_readUnit_51 : decode cX0_readUnit 51 = .ok (.getfield 39, 3) := by decide +kernel
theorem dX0_readUnit_54 : decode cX0_readUnit 54 = .ok (.iconst 1, 1) := by decide +kernel
theorem dX0_readUnit_55 : decode cX0_readUnit 55 = .ok (.iadd, 1) := by decide +kernel
theorem dX0_readUnit_56 : decode cX0_readUnit 56 = .ok (.putfield 39, 3) := by decide +kernel
theorem dX0_readUnit_59 : decode cX0_readUnit 59 = .ok (.aload_n 0, 1) := by decide +kernel
theorem dX0_readUnit_60 : decode cX0_readUnit 60 = .ok (.getfield 12, 3) := by decide +kernel
theorem dX0_readUnit_63 : decode cX0_readUnit 63 = .ok (.iload_n 3, 1) := by decide +kernel
theorem dX0_readUnit_64 : decode cX0_readUnit 64 = .ok (.ineg, 1) := by decide +kernel
theorem dX0_readUnit_65 : decode cX0_readUnit 65 = .ok (.invokevirtual 61, 3) := by decide +kernel
theorem dX0_readUnit_68 : decode cX0_readUnit 68 = .ok (.goto 84, 3) := by decide +kernel
theorem dX0_readUnit_71 : decode cX0_readUnit 71 = .ok (.iload_n 2, 1) := by decide +kernel
theorem dX0_readUnit_72 : decode cX0_readUnit 72 = .ok (.bipush 33, 2) := by decide +kernel
theorem dX0_readUnit_74 : decode cX0_readUnit 74 = .ok (.if_icmp .ne 37, 3) := by decide +kernel
theorem dX0_readUnit_77 : decode cX0_readUnit 77 = .ok (.iload_n 1, 1) := by decide +kernel
theorem dX0_readUnit_78 : decode cX0_readUnit 78 = .ok (.iconst 5, 1) := by decide +kernel
theorem dX0_readUnit_79 : decode cX0_readUnit 79 = .ok (.if_icmp .ge 32, 3) := by decide +kernel
theorem dX0_readUnit_82 : decode cX0_readUnit 82 = .ok (.aload_n 0, 1) := by decide +kernel
theorem dX0_readUnit_83 : decode cX0_readUnit 83 = .ok (.dup, 1) := by decide +kernel
theorem dX0_readUnit_84 : decode cX0_readUnit 84 = .ok (.getfield 39, 3) := by decide +kernel
theorem dX0_readUnit_87 : decode cX0_readUnit 87 = .ok (.iconst 1, 1) := by decide +kernel
theorem dX0_readUnit_88 : decode cX0_readUnit 88 = .ok (.iadd, 1) := by decide +kernel
theorem dX0_readUnit_89 : decode cX0_readUnit 89 = .ok (.putfield 39, 3) := by decide +kernel
theorem dX0_readUnit_92 : decode cX0_readUnit 92 = .ok (.aload_n 0, 1) := by decide +kernel
theorem dX0_readUnit_93 : decode cX0_readUnit 93 = .ok (.iload_n 1, 1) := by decide +kernel
theorem dX0_readUnit_94 : decode cX0_readUnit 94 = .ok (.iconst 1, 1) := by decide +kernel
theorem dX0_readUnit_95 : decode cX0_readUnit 95 = .ok (.iadd, 1) := by decide +kernel
theorem dX0_readUnit_96 : decode cX0_readUnit 96 = .ok (.invokevirtual 53, 3) := by decide +kernel
theorem dX0_readUnit_99 : decode cX0_readUnit 99 = .ok (.aload_n 0, 1) := by decide +kernel
theorem dX0_readUnit_100 : decode cX0_readUnit 100 = .ok (.getfield 12, 3) := by decide +kernel
theorem dX0_readUnit_103 : decode cX0_readUnit 103 = .ok (.iload_n 2, 1) := by decide +kernel
theorem dX0_readUnit_104 : decode cX0_readUnit 104 = .ok (.ineg, 1) := by decide +kernel
theorem dX0_readUnit_105 : decode cX0_readUnit 105 = .ok (.invokevirtual 61, 3) := by decide +kernel
theorem dX0_readUnit_108 : decode cX0_readUnit 108 = .ok (.goto 44, 3) := by decide +kernel
theorem dX0_readUnit_111 : decode cX0_readUnit 111 = .ok (.iload_n 2, 1) := by decide +kernel
theorem dX0_readUnit_112 : decode cX0_readUnit 112 = .ok (.bipush 40, 2) := by decide +kernel
theorem dX0_readUnit_114 : decode cX0_readUnit 114 = .ok (.if_icmp .ne 33, 3) := by decide +kernel
theorem dX0_readUnit_117 : decode cX0_readUnit 117 = .ok (.iload_n 1, 1) := by decide +kernel
theorem dX0_readUnit_118 : decode cX0_readUnit 118 = .ok (.iconst 5, 1) := by decide +kernel
theorem dX0_readUnit_119 : decode cX0_readUnit 119 = .ok (.if_icmp .ge 28, 3) := by decide +kernel
theorem dX0_readUnit_122 : decode cX0_readUnit 122 = .ok (.aload_n 0, 1) := by decide +kernel
theorem dX0_readUnit_123 : decode cX0_readUnit 123 = .ok (.dup, 1) := by decide +kernel
theorem dX0_readUnit_124 : decode cX0_readUnit 124 = .ok (.getfield 39, 3) := by decide +kernel
theorem dX0_readUnit_127 : decode cX0_readUnit 127 = .ok (.iconst 1, 1) := by decide +kernel
theorem dX0_readUnit_128 : decode cX0_readUnit 128 = .ok (.iadd, 1) := by decide +kernel
theorem dX0_readUnit_129 : decode cX0_readUnit 129 = .ok (.putfield 39, 3) := by decide +kernel
theorem dX0_readUnit_132 : decode cX0_readUnit 132 = .ok (.aload_n 0, 1) := by decide +kernel
theorem dX0_readUnit_133 : decode cX0_readUnit 133 = .ok (.iconst 0, 1) := by decide +kernel
theorem dX0_readUnit_134 : decode cX0_readUnit 134 = .ok (.iload_n 1, 1) := by decide +kernel
theorem dX0_readUnit_135 : decode cX0_readUnit 135 = .ok (.iconst 1, 1) := by decide +kernel
theorem dX0_readUnit_136 : decode cX0_readUnit 136 = .ok (.iadd, 1) := by decide +kernel
theorem dX0_readUnit_137 : decode cX0_readUnit 137 = .ok (.invokevirtual 49, 3) := by decide +kernel
theorem dX0_readUnit_140 : decode cX0_readUnit 140 = .ok (.aload_n 0, 1) := by decide +kernel
theorem dX0_readUnit_141 : decode cX0_readUnit 141 = .ok (.invokevirtual 74, 3) := by decide +kernel
theorem dX0_readUnit_144 : decode cX0_readUnit 144 = .ok (.goto 8, 3) := by decide +kernel
theorem dX0_readUnit_147 : decode cX0_readUnit 147 = .ok (.aload_n 0, 1) := by decide +kernel
theorem dX0_readUnit_148 : decode cX0_readUnit 148 = .ok (.iconst 1, 1) := by decide +kernel
theorem dX0_readUnit_149 : decode cX0_readUnit 149 = .ok (.putfield 42, 3) := by decide +kernel
theorem dX0_readUnit_152 : decode cX0_readUnit 152 = .ok (.return_, 1) := by decide +kernel
theorem dX0_readNumber_0 : decode cX0_readNumber 0 = .ok (.iconst 0, 1) := by decide +kernel
theorem dX0_readNumber_1 : decode cX0_readNumber 1 = .ok (.istore_n 1, 1) := by decide +kernel
theorem dX0_readNumber_2 : decode cX0_readNumber 2 = .ok (.iconst 0, 1) := by decide +kernel
theorem dX0_readNumber_3 : decode cX0_readNumber 3 = .ok (.istore_n 2, 1) := by decide +kernel
theorem dX0_readNumber_4 : decode cX0_readNumber 4 = .ok (.iload_n 2, 1) := by decide +kernel
theorem dX0_readNumber_5 : decode cX0_readNumber 5 = .ok (.iconst 4, 1) := by decide +kernel
theorem dX0_readNumber_6 : decode cX0_readNumber 6 = .ok (.if_icmp .ge 63, 3) := by decide +kernel
theorem dX0_readNumber_9 : decode cX0_readNumber 9 = .ok (.aload_n 0, 1) := by decide +kernel
theorem dX0_readNumber_10 : decode cX0_readNumber 10 = .ok (.getfield 39, 3) := by decide +kernel
theorem dX0_readNumber_13 : decode cX0_readNumber 13 = .ok (.aload_n 0, 1) := by decide +kernel
theorem dX0_readNumber_14 : decode cX0_readNumber 14 = .ok (.getfield 35, 3) := by decide +kernel
theorem dX0_readNumber_17 : decode cX0_readNumber 17 = .ok (.if_icmp .ge 52, 3) := by decide +kernel
theorem dX0_readNumber_20 : decode cX0_readNumber 20 = .ok (.aload_n 0, 1) := by decide +kernel
theorem dX0_readNumber_21 : decode cX0_readNumber 21 = .ok (.getfield 18, 3) := by decide +kernel
theorem dX0_readNumber_24 : decode cX0_readNumber 24 = .ok (.aload_n 0, 1) := by decide +kernel
theorem dX0_readNumber_25 : decode cX0_readNumber 25 = .ok (.getfield 39, 3) := by decide +kernel
theorem dX0_readNumber_28 : decode cX0_readNumber 28 = .ok (.iaload, 1) := by decide +kernel
theorem dX0_readNumber_29 : decode cX0_readNumber 29 = .ok (.invokestatic 67, 3) := by decide +kernel
theorem dX0_readNumber_32 : decode cX0_readNumber 32 = .ok (.ifCond .eq 37, 3) := by decide +kernel
theorem dX0_readNumber_35 : decode cX0_readNumber 35 = .ok (.iload_n 1, 1) := by decide +kernel
theorem dX0_readNumber_36 : decode cX0_readNumber 36 = .ok (.bipush 10, 2) := by decide +kernel
theorem dX0_readNumber_38 : decode cX0_readNumber 38 = .ok (.imul, 1) := by decide +kernel
theorem dX0_readNumber_39 : decode cX0_readNumber 39 = .ok (.aload_n 0, 1) := by decide +kernel
theorem dX0_readNumber_40 : decode cX0_readNumber 40 = .ok (.getfield 18, 3) := by decide +kernel
theorem dX0_readNumber_43 : decode cX0_readNumber 43 = .ok (.aload_n 0, 1) := by decide +kernel
theorem dX0_readNumber_44 : decode cX0_readNumber 44 = .ok (.getfield 39, 3) := by decide +kernel
theorem dX0_readNumber_47 : decode cX0_readNumber 47 = .ok (.iaload, 1) := by decide +kernel
theorem dX0_readNumber_48 : decode cX0_readNumber 48 = .ok (.iadd, 1) := by decide +kernel
theorem dX0_readNumber_49 : decode cX0_readNumber 49 = .ok (.bipush 48, 2) := by decide +kernel
theorem dX0_readNumber_51 : decode cX0_readNumber 51 = .ok (.isub, 1) := by decide +kernel
theorem dX0_readNumber_52 : decode cX0_readNumber 52 = .ok (.istore_n 1, 1) := by decide +kernel
theorem dX0_readNumber_53 : decode cX0_readNumber 53 = .ok (.aload_n 0, 1) := by decide +kernel
theorem dX0_readNumber_54 : decode cX0_readNumber 54 = .ok (.dup, 1) := by decide +kernel
theorem dX0_readNumber_55 : decode cX0_readNumber 55 = .ok (.getfield 39, 3) := by decide +kernel
theorem dX0_readNumber_58 : decode cX0_readNumber 58 = .ok (.iconst 1, 1) := by decide +kernel
theorem dX0_readNumber_59 : decode cX0_readNumber 59 = .ok (.iadd, 1) := by decide +kernel
theorem dX0_readNumber_60 : decode cX0_readNumber 60 = .ok (.putfield 39, 3) := by decide +kernel
theorem dX0_readNumber_63 : decode cX0_readNumber 63 = .ok (.iinc 2 1, 3) := by decide +kernel
theorem dX0_readNumber_66 : decode cX0_readNumber 66 = .ok (.goto (-62), 3) := by decide +kernel
theorem dX0_readNumber_69 : decode cX0_readNumber 69 = .ok (.aload_n 0, 1) := by decide +kernel
theorem dX0_readNumber_70 : decode cX0_readNumber 70 = .ok (.getfield 12, 3) := by decide +kernel
theorem dX0_readNumber_73 : decode cX0_readNumber 73 = .ok (.iload_n 1, 1) := by decide +kernel
theorem dX0_readNumber_74 : decode cX0_readNumber 74 = .ok (.invokevirtual 61, 3) := by decide +kernel
theorem dX0_readNumber_77 : decode cX0_readNumber 77 = .ok (.return_, 1) := by decide +kernel
theorem dX0_readClosing_0 : decode cX0_readClosing 0 = .ok (.aload_n 0, 1) := by decide +kernel
theorem dX0_readClosing_1 : decode cX0_readClosing 1 = .ok (.getfield 42, 3) := by decide +kernel
theorem dX0_readClosing_4 : decode cX0_readClosing 4 = .ok (.ifCond .ne 28, 3) := by decide +kernel
theorem dX0_readClosing_7 : decode cX0_readClosing 7 = .ok (.aload_n 0, 1) := by decide +kernel
theorem dX0_readClosing_8 : decode cX0_readClosing 8 = .ok (.getfield 39, 3) := by decide +kernel
theorem dX0_readClosing_11 : decode cX0_readClosing 11 = .ok (.aload_n 0, 1) := by decide +kernel
theorem dX0_readClosing_12 : decode cX0_readClosing 12 = .ok (.getfield 35, 3) := by decide +kernel
theorem dX0_readClosing_15 : decode cX0_readClosing 15 = .ok (.if_icmp .ge 17, 3) := by decide +kernel
theorem dX0_readClosing_18 : decode cX0_readClosing 18 = .ok (.aload_n 0, 1) := by decide +kernel
theorem dX0_readClosing_19 : decode cX0_readClosing 19 = .ok (.getfield 18, 3) := by decide +kernel
theorem dX0_readClosing_22 : decode cX0_readClosing 22 = .ok (.aload_n 0, 1) := by decide +kernel
theorem dX0_readClosing_23 : decode cX0_readClosing 23 = .ok (.getfield 39, 3) := by decide +kernel
theorem dX0_readClosing_26 : decode cX0_readClosing 26 = .ok (.iaload, 1) := by decide +kernel
theorem dX0_readClosing_27 : decode cX0_readClosing 27 = .ok (.bipush 41, 2) := by decide +kernel
theorem dX0_readClosing_29 : decode cX0_readClosing 29 = .ok (.if_icmp .eq 9, 3) := by decide +kernel
theorem dX0_readClosing_32 : decode cX0_readClosing 32 = .ok (.aload_n 0, 1) := by decide +kernel
theorem dX0_readClosing_33 : decode cX0_readClosing 33 = .ok (.iconst 1, 1) := by decide +kernel
theorem dX0_readClosing_34 : decode cX0_readClosing 34 = .ok (.putfield 42, 3) := by decide +kernel
theorem dX0_readClosing_37 : decode cX0_readClosing 37 = .ok (.return_, 1) := by decide +kernel
theorem dX0_readClosing_38 : decode cX0_readClosing 38 = .ok (.aload_n 0, 1) := by decide +kernel
theorem dX0_readClosing_39 : decode cX0_readClosing 39 = .ok (.dup, 1) := by decide +kernel
theorem dX0_readClosing_40 : decode cX0_readClosing 40 = .ok (.getfield 39, 3) := by decide +kernel
theorem dX0_readClosing_43 : decode cX0_readClosing 43 = .ok (.iconst 1, 1) := by decide +kernel
theorem dX0_readClosing_44 : decode cX0_readClosing 44 = .ok (.iadd, 1) := by decide +kernel
theorem dX0_readClosing_45 : decode cX0_readClosing 45 = .ok (.putfield 39, 3) := by decide +kernel
theorem dX0_readClosing_48 : decode cX0_readClosing 48 = .ok (.return_, 1) := by decide +kernel
theorem dX0_nameOf_0 : decode cX0_nameOf 0 = .ok (.iconst 0, 1) := by decide +kernel
theorem dX0_nameOf_1 : decode cX0_nameOf 1 = .ok (.istore_n 2, 1) := by decide +kernel
theorem dX0_nameOf_2 : decode cX0_nameOf 2 = .ok (.iload_n 2, 1) := by decide +kernel
theorem dX0_nameOf_3 : decode cX0_nameOf 3 = .ok (.iconst 3, 1) := by decide +kernel
theorem dX0_nameOf_4 : decode cX0_nameOf 4 = .ok (.if_icmp .ge 29, 3) := by decide +kernel
theorem dX0_nameOf_7 : decode cX0_nameOf 7 = .ok (.getstatic 77, 3) := by decide +kernel
theorem dX0_nameOf_10 : decode cX0_nameOf 10 = .ok (.aload_n 0, 1) := by decide +kernel
theorem dX0_nameOf_11 : decode cX0_nameOf 11 = .ok (.getfield 36, 3) := by decide +kernel
theorem dX0_nameOf_14 : decode cX0_nameOf 14 = .ok (.iconst 3, 1) := by decide +kernel
theorem dX0_nameOf_15 : decode cX0_nameOf 15 = .ok (.imul, 1) := by decide +kernel
theorem dX0_nameOf_16 : decode cX0_nameOf 16 = .ok (.iload_n 2, 1) := by decide +kernel
theorem dX0_nameOf_17 : decode cX0_nameOf 17 = .ok (.iadd, 1) := by decide +kernel
theorem dX0_nameOf_18 : decode cX0_nameOf 18 = .ok (.caload, 1) := by decide +kernel
theorem dX0_nameOf_19 : decode cX0_nameOf 19 = .ok (.iload_n 1, 1) := by decide +kernel
theorem dX0_nameOf_20 : decode cX0_nameOf 20 = .ok (.if_icmp .ne 7, 3) := by decide +kernel
theorem dX0_nameOf_23 : decode cX0_nameOf 23 = .ok (.iload_n 2, 1) := by decide +kernel
theorem dX0_nameOf_24 : decode cX0_nameOf 24 = .ok (.iconst 1, 1) := by decide +kernel
theorem dX0_nameOf_25 : decode cX0_nameOf 25 = .ok (.iadd, 1) := by decide +kernel
theorem dX0_nameOf_26 : decode cX0_nameOf 26 = .ok (.ireturn, 1) := by decide +kernel
theorem dX0_nameOf_27 : decode cX0_nameOf 27 = .ok (.iinc 2 1, 3) := by decide +kernel
theorem dX0_nameOf_30 : decode cX0_nameOf 30 = .ok (.goto (-28), 3) := by decide +kernel
theorem dX0_nameOf_33 : decode cX0_nameOf 33 = .ok (.iconst 0, 1) := by decide +kernel
theorem dX0_nameOf_34 : decode cX0_nameOf 34 = .ok (.ireturn, 1) := by decide +kernel
theorem dX0_isDigit_0 : decode cX0_isDigit 0 = .ok (.iload_n 0, 1) := by decide +kernel
theorem dX0_isDigit_1 : decode cX0_isDigit 1 = .ok (.bipush 48, 2) := by decide +kernel
theorem dX0_isDigit_3 : decode cX0_isDigit 3 = .ok (.if_icmp .lt 13, 3) := by decide +kernel
theorem dX0_isDigit_6 : decode cX0_isDigit 6 = .ok (.iload_n 0, 1) := by decide +kernel
theorem dX0_isDigit_7 : decode cX0_isDigit 7 = .ok (.bipush 57, 2) := by decide +kernel
theorem dX0_isDigit_9 : decode cX0_isDigit 9 = .ok (.if_icmp .gt 7, 3) := by decide +kernel
theorem dX0_isDigit_12 : decode cX0_isDigit 12 = .ok (.iconst 1, 1) := by decide +kernel
theorem dX0_isDigit_13 : decode cX0_isDigit 13 = .ok (.goto 4, 3) := by decide +kernel
theorem dX0_isDigit_16 : decode cX0_isDigit 16 = .ok (.iconst 0, 1) := by decide +kernel
theorem dX0_isDigit_17 : decode cX0_isDigit 17 = .ok (.ireturn, 1) := by decide +kernel
theorem dX0_levelOf_0 : decode cX0_levelOf 0 = .ok (.iload_n 0, 1) := by decide +kernel
theorem dX0_levelOf_1 : decode cX0_levelOf 1 = .ok (.lookupswitch 101 #[(37, 99), (38, 93), (42, 99), (43, 97), (45, 97), (47, 99), (60, 95), (61, 95), (62, 95), (124, 91)], 91) := by decide +kernel
theorem dX0_levelOf_92 : decode cX0_levelOf 92 = .ok (.iconst 0, 1) := by decide +kernel
theorem dX0_levelOf_93 : decode cX0_levelOf 93 = .ok (.ireturn, 1) := by decide +kernel
theorem dX0_levelOf_94 : decode cX0_levelOf 94 = .ok (.iconst 1, 1) := by decide +kernel
theorem dX0_levelOf_95 : decode cX0_levelOf 95 = .ok (.ireturn, 1) := by decide +kernel
theorem dX0_levelOf_96 : decode cX0_levelOf 96 = .ok (.iconst 2, 1) := by decide +kernel
theorem dX0_levelOf_97 : decode cX0_levelOf 97 = .ok (.ireturn, 1) := by decide +kernel
theorem dX0_levelOf_98 : decode cX0_levelOf 98 = .ok (.iconst 3, 1) := by decide +kernel
theorem dX0_levelOf_99 : decode cX0_levelOf 99 = .ok (.ireturn, 1) := by decide +kernel
theorem dX0_levelOf_100 : decode cX0_levelOf 100 = .ok (.iconst 4, 1) := by decide +kernel
theorem dX0_levelOf_101 : decode cX0_levelOf 101 = .ok (.ireturn, 1) := by decide +kernel
theorem dX0_levelOf_102 : decode cX0_levelOf 102 = .ok (.iconst (-1), 1) := by decide +kernel
theorem dX0_levelOf_103 : decode cX0_levelOf 103 = .ok (.ireturn, 1) := by decide +kernel
theorem dX1_init_0 : decode cX1_init 0 = .ok (.aload_n 0, 1) := by decide +kernel
theorem dX1_init_1 : decode cX1_init 1 = .ok (.invokespecial 3, 3) := by decide +kernel
theorem dX1_init_4 : decode cX1_init 4 = .ok (.aload_n 0, 1) := by decide +kernel
theorem dX1_init_5 : decode cX1_init 5 = .ok (.bipush 24, 2) := by decide +kernel
theorem dX1_init_7 : decode cX1_init 7 = .ok (.newarray .int, 2) := by decide +kernel
theorem dX1_init_9 : decode cX1_init 9 = .ok (.putfield 9, 3) := by decide +kernel
theorem dX1_init_12 : decode cX1_init 12 = .ok (.return_, 1) := by decide +kernel
theorem dX1_missing_0 : decode cX1_missing 0 = .ok (.aload_n 0, 1) := by decide +kernel
theorem dX1_missing_1 : decode cX1_missing 1 = .ok (.getfield 15, 3) := by decide +kernel
theorem dX1_missing_4 : decode cX1_missing 4 = .ok (.ifCond .ne 7, 3) := by decide +kernel
theorem dX1_missing_7 : decode cX1_missing 7 = .ok (.iconst 1, 1) := by decide +kernel
theorem dX1_missing_8 : decode cX1_missing 8 = .ok (.goto 4, 3) := by decide +kernel
theorem dX1_missing_11 : decode cX1_missing 11 = .ok (.iconst 0, 1) := by decide +kernel
theorem dX1_missing_12 : decode cX1_missing 12 = .ok (.ireturn, 1) := by decide +kernel
theorem dX1_lose_0 : decode cX1_lose 0 = .ok (.aload_n 0, 1) := by decide +kernel
theorem dX1_lose_1 : decode cX1_lose 1 = .ok (.iconst 0, 1) := by decide +kernel
theorem dX1_lose_2 : decode cX1_lose 2 = .ok (.iconst 0, 1) := by decide +kernel
theorem dX1_lose_3 : decode cX1_lose 3 = .ok (.invokevirtual 19, 3) := by decide +kernel
theorem dX1_lose_6 : decode cX1_lose 6 = .ok (.return_, 1) := by decide +kernel
theorem dX1_begin_0 : decode cX1_begin 0 = .ok (.aload_n 0, 1) := by decide +kernel
theorem dX1_begin_1 : decode cX1_begin 1 = .ok (.iload_n 1, 1) := by decide +kernel
theorem dX1_begin_2 : decode cX1_begin 2 = .ok (.putfield 15, 3) := by decide +kernel
theorem dX1_begin_5 : decode cX1_begin 5 = .ok (.aload_n 0, 1) := by decide +kernel
theorem dX1_begin_6 : decode cX1_begin 6 = .ok (.iload_n 2, 1) := by decide +kernel
theorem dX1_begin_7 : decode cX1_begin 7 = .ok (.putfield 23, 3) := by decide +kernel
theorem dX1_begin_10 : decode cX1_begin 10 = .ok (.iconst 0, 1) := by decide +kernel
theorem dX1_begin_11 : decode cX1_begin 11 = .ok (.istore_n 3, 1) := by decide +kernel
theorem dX1_begin_12 : decode cX1_begin 12 = .ok (.iload_n 3, 1) := by decide +kernel
theorem dX1_begin_13 : decode cX1_begin 13 = .ok (.bipush 24, 2) := by decide +kernel
theorem dX1_begin_15 : decode cX1_begin 15 = .ok (.if_icmp .ge 16, 3) := by decide +kernel
theorem dX1_begin_18 : decode cX1_begin 18 = .ok (.aload_n 0, 1) := by decide +kernel
theorem dX1_begin_19 : decode cX1_begin 19 = .ok (.getfield 9, 3) := by decide +kernel
theorem dX1_begin_22 : decode cX1_begin 22 = .ok (.iload_n 3, 1) := by decide +kernel
theorem dX1_begin_23 : decode cX1_begin 23 = .ok (.iconst 0, 1) := by decide +kernel
theorem dX1_begin_24 : decode cX1_begin 24 = .ok (.iastore, 1) := by decide +kernel
theorem dX1_begin_25 : decode cX1_begin 25 = .ok (.iinc 3 1, 3) := by decide +kernel
theorem dX1_begin_28 : decode cX1_begin 28 = .ok (.goto (-16), 3) := by decide +kernel
theorem dX1_begin_31 : decode cX1_begin 31 = .ok (.return_, 1) := by decide +kernel
theorem dX1_write_0 : decode cX1_write 0 = .ok (.aload_n 0, 1) := by decide +kernel
theorem dX1_write_1 : decode cX1_write 1 = .ok (.getfield 15, 3) := by decide +kernel
theorem dX1_write_4 : decode cX1_write 4 = .ok (.bipush 8, 2) := by decide +kernel
theorem dX1_write_6 : decode cX1_write 6 = .ok (.if_icmp .ne 14, 3) := by decide +kernel
theorem dX1_write_9 : decode cX1_write 9 = .ok (.aload_n 0, 1) := by decide +kernel
theorem dX1_write_10 : decode cX1_write 10 = .ok (.getfield 9, 3) := by decide +kernel
theorem dX1_write_13 : decode cX1_write 13 = .ok (.iload_n 1, 1) := by decide +kernel
theorem dX1_write_14 : decode cX1_write 14 = .ok (.iload_n 2, 1) := by decide +kernel
theorem dX1_write_15 : decode cX1_write 15 = .ok (.i2b, 1) := by decide +kernel
theorem dX1_write_16 : decode cX1_write 16 = .ok (.iastore, 1) := by decide +kernel
theorem dX1_write_17 : decode cX1_write 17 = .ok (.goto 30, 3) := by decide +kernel
theorem dX1_write_20 : decode cX1_write 20 = .ok (.aload_n 0, 1) := by decide +kernel
theorem dX1_write_21 : decode cX1_write 21 = .ok (.getfield 15, 3) := by decide +kernel
theorem dX1_write_24 : decode cX1_write 24 = .ok (.bipush 16, 2) := by decide +kernel
theorem dX1_write_26 : decode cX1_write 26 = .ok (.if_icmp .ne 14, 3) := by decide +kernel
theorem dX1_write_29 : decode cX1_write 29 = .ok (.aload_n 0, 1) := by decide +kernel
theorem dX1_write_30 : decode cX1_write 30 = .ok (.getfield 9, 3) := by decide +kernel
theorem dX1_write_33 : decode cX1_write 33 = .ok (.iload_n 1, 1) := by decide +kernel
theorem dX1_write_34 : decode cX1_write 34 = .ok (.iload_n 2, 1) := by decide +kernel
theorem dX1_write_35 : decode cX1_write 35 = .ok (.i2s, 1) := by decide +kernel
theorem dX1_write_36 : decode cX1_write 36 = .ok (.iastore, 1) := by decide +kernel
theorem dX1_write_37 : decode cX1_write 37 = .ok (.goto 10, 3) := by decide +kernel
theorem dX1_write_40 : decode cX1_write 40 = .ok (.aload_n 0, 1) := by decide +kernel
theorem dX1_write_41 : decode cX1_write 41 = .ok (.getfield 9, 3) := by decide +kernel
theorem dX1_write_44 : decode cX1_write 44 = .ok (.iload_n 1, 1) := by decide +kernel
theorem dX1_write_45 : decode cX1_write 45 = .ok (.iload_n 2, 1) := by decide +kernel
theorem dX1_write_46 : decode cX1_write 46 = .ok (.iastore, 1) := by decide +kernel
theorem dX1_write_47 : decode cX1_write 47 = .ok (.return_, 1) := by decide +kernel
theorem dX1_lacks_0 : decode cX1_lacks 0 = .ok (.iload_n 1, 1) := by decide +kernel
theorem dX1_lacks_1 : decode cX1_lacks 1 = .ok (.ifCond .lt 21, 3) := by decide +kernel
theorem dX1_lacks_4 : decode cX1_lacks 4 = .ok (.iload_n 2, 1) := by decide +kernel
theorem dX1_lacks_5 : decode cX1_lacks 5 = .ok (.aload_n 0, 1) := by decide +kernel
theorem dX1_lacks_6 : decode cX1_lacks 6 = .ok (.getfield 23, 3) := by decide +kernel
theorem dX1_lacks_9 : decode cX1_lacks 9 = .ok (.if_icmp .gt 13, 3) := by decide +kernel
theorem dX1_lacks_12 : decode cX1_lacks 12 = .ok (.iload_n 1, 1) := by decide +kernel
theorem dX1_lacks_13 : decode cX1_lacks 13 = .ok (.aload_n 0, 1) := by decide +kernel
theorem dX1_lacks_14 : decode cX1_lacks 14 = .ok (.getfield 23, 3) := by decide +kernel
theorem dX1_lacks_17 : decode cX1_lacks 17 = .ok (.iload_n 2, 1) := by decide +kernel
theorem dX1_lacks_18 : decode cX1_lacks 18 = .ok (.isub, 1) := by decide +kernel
theorem dX1_lacks_19 : decode cX1_lacks 19 = .ok (.if_icmp .le 7, 3) := by decide +kernel
theorem dX1_lacks_22 : decode cX1_lacks 22 = .ok (.iconst 1, 1) := by decide +kernel
theorem dX1_lacks_23 : decode cX1_lacks 23 = .ok (.goto 4, 3) := by decide +kernel
theorem dX1_lacks_26 : decode cX1_lacks 26 = .ok (.iconst 0, 1) := by decide +kernel
theorem dX1_lacks_27 : decode cX1_lacks 27 = .ok (.ireturn, 1) := by decide +kernel
theorem dX2_init_0 : decode cX2_init 0 = .ok (.aload_n 0, 1) := by decide +kernel
theorem dX2_init_1 : decode cX2_init 1 = .ok (.invokespecial 3, 3) := by decide +kernel
theorem dX2_init_4 : decode cX2_init 4 = .ok (.aload_n 0, 1) := by decide +kernel
theorem dX2_init_5 : decode cX2_init 5 = .ok (.bipush 30, 2) := by decide +kernel
theorem dX2_init_7 : decode cX2_init 7 = .ok (.newarray .int, 2) := by decide +kernel
theorem dX2_init_9 : decode cX2_init 9 = .ok (.putfield 9, 3) := by decide +kernel
theorem dX2_init_12 : decode cX2_init 12 = .ok (.return_, 1) := by decide +kernel
theorem dX2_speak_0 : decode cX2_speak 0 = .ok (.aload_n 0, 1) := by decide +kernel
theorem dX2_speak_1 : decode cX2_speak 1 = .ok (.iload_n 2, 1) := by decide +kernel
theorem dX2_speak_2 : decode cX2_speak 2 = .ok (.putfield 15, 3) := by decide +kernel
theorem dX2_speak_5 : decode cX2_speak 5 = .ok (.aload_n 0, 1) := by decide +kernel
theorem dX2_speak_6 : decode cX2_speak 6 = .ok (.aload_n 1, 1) := by decide +kernel
theorem dX2_speak_7 : decode cX2_speak 7 = .ok (.iload_n 2, 1) := by decide +kernel
theorem dX2_speak_8 : decode cX2_speak 8 = .ok (.invokevirtual 19, 3) := by decide +kernel
theorem dX2_speak_11 : decode cX2_speak 11 = .ok (.putfield 25, 3) := by decide +kernel
theorem dX2_speak_14 : decode cX2_speak 14 = .ok (.aload_n 0, 1) := by decide +kernel
theorem dX2_speak_15 : decode cX2_speak 15 = .ok (.aload_n 1, 1) := by decide +kernel
theorem dX2_speak_16 : decode cX2_speak 16 = .ok (.iload_n 2, 1) := by decide +kernel
theorem dX2_speak_17 : decode cX2_speak 17 = .ok (.invokevirtual 28, 3) := by decide +kernel
theorem dX2_speak_20 : decode cX2_speak 20 = .ok (.putfield 31, 3) := by decide +kernel
theorem dX2_speak_23 : decode cX2_speak 23 = .ok (.aload_n 0, 1) := by decide +kernel
theorem dX2_speak_24 : decode cX2_speak 24 = .ok (.iconst 0, 1) := by decide +kernel
theorem dX2_speak_25 : decode cX2_speak 25 = .ok (.putfield 34, 3) := by decide +kernel
theorem dX2_speak_28 : decode cX2_speak 28 = .ok (.aload_n 0, 1) := by decide +kernel
theorem dX2_speak_29 : decode cX2_speak 29 = .ok (.iconst 0, 1) := by decide +kernel
theorem dX2_speak_30 : decode cX2_speak 30 = .ok (.putfield 37, 3) := by decide +kernel
theorem dX2_speak_33 : decode cX2_speak 33 = .ok (.aload_n 0, 1) := by decide +kernel
theorem dX2_speak_34 : decode cX2_speak 34 = .ok (.iload_n 3, 1) := by decide +kernel
theorem dX2_speak_35 : decode cX2_speak 35 = .ok (.aload_n 0, 1) := by decide +kernel
theorem dX2_speak_36 : decode cX2_speak 36 = .ok (.getfield 31, 3) := by decide +kernel
theorem dX2_speak_39 : decode cX2_speak 39 = .ok (.iload 4, 2) := by decide +kernel
theorem dX2_speak_41 : decode cX2_speak 41 = .ok (.iconst 0, 1) := by decide +kernel
theorem dX2_speak_42 : decode cX2_speak 42 = .ok (.invokevirtual 41, 3) := by decide +kernel
theorem dX2_speak_45 : decode cX2_speak 45 = .ok (.ireturn, 1) := by decide +kernel
theorem dX2_say_0 : decode cX2_say 0 = .ok (.aload_n 0, 1) := by decide +kernel
theorem dX2_say_1 : decode cX2_say 1 = .ok (.getfield 37, 3) := by decide +kernel
theorem dX2_say_4 : decode cX2_say 4 = .ok (.ifCond .eq 5, 3) := by decide +kernel
theorem dX2_say_7 : decode cX2_say 7 = .ok (.iconst 0, 1) := by decide +kernel
theorem dX2_say_8 : decode cX2_say 8 = .ok (.ireturn, 1) := by decide +kernel
theorem dX2_say_9 : decode cX2_say 9 = .ok (.iload_n 2, 1) := by decide +kernel
theorem dX2_say_10 : decode cX2_say 10 = .ok (.istore 5, 2) := by decide +kernel
theorem dX2_say_12 : decode cX2_say 12 = .ok (.iconst 0, 1) := by decide +kernel
theorem dX2_say_13 : decode cX2_say 13 = .ok (.istore 6, 2) := by decide +kernel
theorem dX2_say_15 : decode cX2_say 15 = .ok (.iload 6, 2) := by decide +kernel
theorem dX2_say_17 : decode cX2_say 17 = .ok (.bipush 7, 2) := by decide +kernel
theorem dX2_say_19 : decode cX2_say 19 = .ok (.if_icmp .ge 35, 3) := by decide +kernel
theorem dX2_say_22 : decode cX2_say 22 = .ok (.iload 5, 2) := by decide +kernel
theorem dX2_say_24 : decode cX2_say 24 = .ok (.ifCond .lt 30, 3) := by decide +kernel
theorem dX2_say_27 : decode cX2_say 27 = .ok (.getstatic 45, 3) := by decide +kernel
theorem dX2_say_30 : decode cX2_say 30 = .ok (.iload 5, 2) := by decide +kernel
theorem dX2_say_32 : decode cX2_say 32 = .ok (.iconst 4, 1) := by decide +kernel
theorem dX2_say_33 : decode cX2_say 33 = .ok (.imul, 1) := by decide +kernel
theorem dX2_say_34 : decode cX2_say 34 = .ok (.iload_n 1, 1) := by decide +kernel
theorem dX2_say_35 : decode cX2_say 35 = .ok (.iadd, 1) := by decide +kernel
theorem dX2_say_36 : decode cX2_say 36 = .ok (.iaload, 1) := by decide +kernel
theorem dX2_say_37 : decode cX2_say 37 = .ok (.ifCond .ne 17, 3) := by decide +kernel
theorem dX2_say_40 : decode cX2_say 40 = .ok (.getstatic 48, 3) := by decide +kernel
theorem dX2_say_43 : decode cX2_say 43 = .ok (.iload 5, 2) := by decide +kernel
theorem dX2_say_45 : decode cX2_say 45 = .ok (.iaload, 1) := by decide +kernel
theorem dX2_say_46 : decode cX2_say 46 = .ok (.istore 5, 2) := by decide +kernel
theorem dX2_say_48 : decode cX2_say 48 = .ok (.iinc 6 1, 3) := by decide +kernel
theorem dX2_say_51 : decode cX2_say 51 = .ok (.goto (-36), 3) := by decide +kernel
theorem dX2_say_54 : decode cX2_say 54 = .ok (.iload 5, 2) := by decide +kernel
theorem dX2_say_56 : decode cX2_say 56 = .ok (.ifCond .lt 10, 3) := by decide +kernel
theorem dX2_say_59 : decode cX2_say 59 = .ok (.iload 4, 2) := by decide +kernel
theorem dX2_say_61 : decode cX2_say 61 = .ok (.bipush 20, 2) := by decide +kernel
theorem dX2_say_63 : decode cX2_say 63 = .ok (.if_icmp .lt 5, 3) := by decide +kernel
theorem dX2_say_66 : decode cX2_say 66 = .ok (.iconst 0, 1) := by decide +kernel
theorem dX2_say_67 : decode cX2_say 67 = .ok (.ireturn, 1) := by decide +kernel
theorem dX2_say_68 : decode cX2_say 68 = .ok (.getstatic 45, 3) := by decide +kernel
theorem dX2_say_71 : decode cX2_say 71 = .ok (.iload 5, 2) := by decide +kernel
theorem dX2_say_73 : decode cX2_say 73 = .ok (.iconst 4, 1) := by decide +kernel
theorem dX2_say_74 : decode cX2_say 74 = .ok (.imul, 1) := by decide +kernel
theorem dX2_say_75 : decode cX2_say 75 = .ok (.iload_n 1, 1) := by decide +kernel
theorem dX2_say_76 : decode cX2_say 76 = .ok (.iadd, 1) := by decide +kernel
theorem dX2_say_77 : decode cX2_say 77 = .ok (.iaload, 1) := by decide +kernel
theorem dX2_say_78 : decode cX2_say 78 = .ok (.istore 6, 2) := by decide +kernel
theorem dX2_say_80 : decode cX2_say 80 = .ok (.aload_n 0, 1) := by decide +kernel
theorem dX2_say_81 : decode cX2_say 81 = .ok (.iload 6, 2) := by decide +kernel
theorem dX2_say_83 : decode cX2_say 83 = .ok (.invokevirtual 51, 3) := by decide +kernel
theorem dX2_say_86 : decode cX2_say 86 = .ok (.aload_n 0, 1) := by decide +kernel
theorem dX2_say_87 : decode cX2_say 87 = .ok (.iload 6, 2) := by decide +kernel
theorem dX2_say_89 : decode cX2_say 89 = .ok (.getstatic 48, 3) := by decide +kernel
theorem dX2_say_92 : decode cX2_say 92 = .ok (.iload 5, 2) := by decide +kernel
theorem dX2_say_94 : decode cX2_say 94 = .ok (.iaload, 1) := by decide +kernel
theorem dX2_say_95 : decode cX2_say 95 = .ok (.iload_n 3, 1) := by decide +kernel
theorem dX2_say_96 : decode cX2_say 96 = .ok (.iload 4, 2) := by decide +kernel
theorem dX2_say_98 : decode cX2_say 98 = .ok (.iconst 1, 1) := by decide +kernel
theorem dX2_say_99 : decode cX2_say 99 = .ok (.iadd, 1) := by decide +kernel
theorem dX2_say_100 : decode cX2_say 100 = .ok (.invokevirtual 55, 3) := by decide +kernel
theorem dX2_say_103 : decode cX2_say 103 = .ok (.ireturn, 1) := by decide +kernel
theorem dX2_begin_0 : decode cX2_begin 0 = .ok (.aload_n 0, 1) := by decide +kernel
theorem dX2_begin_1 : decode cX2_begin 1 = .ok (.getfield 34, 3) := by decide +kernel
theorem dX2_begin_4 : decode cX2_begin 4 = .ok (.bipush 30, 2) := by decide +kernel
theorem dX2_begin_6 : decode cX2_begin 6 = .ok (.if_icmp .ge 23, 3) := by decide +kernel
theorem dX2_begin_9 : decode cX2_begin 9 = .ok (.aload_n 0, 1) := by decide +kernel
theorem dX2_begin_10 : decode cX2_begin 10 = .ok (.getfield 9, 3) := by decide +kernel
theorem dX2_begin_13 : decode cX2_begin 13 = .ok (.aload_n 0, 1) := by decide +kernel
theorem dX2_begin_14 : decode cX2_begin 14 = .ok (.getfield 34, 3) := by decide +kernel
theorem dX2_begin_17 : decode cX2_begin 17 = .ok (.iload_n 1, 1) := by decide +kernel
theorem dX2_begin_18 : decode cX2_begin 18 = .ok (.iastore, 1) := by decide +kernel
theorem dX2_begin_19 : decode cX2_begin 19 = .ok (.aload_n 0, 1) := by decide +kernel
theorem dX2_begin_20 : decode cX2_begin 20 = .ok (.dup, 1) := by decide +kernel
theorem dX2_begin_21 : decode cX2_begin 21 = .ok (.getfield 34, 3) := by decide +kernel
theorem dX2_begin_24 : decode cX2_begin 24 = .ok (.iconst 1, 1) := by decide +kernel
theorem dX2_begin_25 : decode cX2_begin 25 = .ok (.iadd, 1) := by decide +kernel
theorem dX2_begin_26 : decode cX2_begin 26 = .ok (.putfield 34, 3) := by decide +kernel
theorem dX2_begin_29 : decode cX2_begin 29 = .ok (.return_, 1) := by decide +kernel
theorem dX2_worked_0 : decode cX2_worked 0 = .ok (.iload_n 1, 1) := by decide +kernel
theorem dX2_worked_1 : decode cX2_worked 1 = .ok (.lookupswitch 286 #[(10, 115), (11, 122), (12, 137), (13, 155), (20, 170), (21, 182), (30, 205), (40, 217), (50, 229), (51, 241), (60, 256), (70, 268), (71, 271)], 115) := by decide +kernel
theorem dX2_worked_116 : decode cX2_worked 116 = .ok (.iload_n 3, 1) := by decide +kernel
theorem dX2_worked_117 : decode cX2_worked 117 = .ok (.aload_n 0, 1) := by decide +kernel
theorem dX2_worked_118 : decode cX2_worked 118 = .ok (.getfield 15, 3) := by decide +kernel
theorem dX2_worked_121 : decode cX2_worked 121 = .ok (.iadd, 1) := by decide +kernel
theorem dX2_worked_122 : decode cX2_worked 122 = .ok (.ireturn, 1) := by decide +kernel
theorem dX2_worked_123 : decode cX2_worked 123 = .ok (.aload_n 0, 1) := by decide +kernel
theorem dX2_worked_124 : decode cX2_worked 124 = .ok (.iconst 0, 1) := by decide +kernel
theorem dX2_worked_125 : decode cX2_worked 125 = .ok (.aload_n 0, 1) := by decide +kernel
theorem dX2_worked_126 : decode cX2_worked 126 = .ok (.getfield 31, 3) := by decide +kernel
theorem dX2_worked_129 : decode cX2_worked 129 = .ok (.iload_n 3, 1) := by decide +kernel
theorem dX2_worked_130 : decode cX2_worked 130 = .ok (.iload 4, 2) := by decide +kernel
theorem dX2_worked_132 : decode cX2_worked 132 = .ok (.invokevirtual 41, 3) := by decide +kernel
theorem dX2_worked_135 : decode cX2_worked 135 = .ok (.iconst 2, 1) := by decide +kernel
theorem dX2_worked_136 : decode cX2_worked 136 = .ok (.imul, 1) := by decide +kernel
theorem dX2_worked_137 : decode cX2_worked 137 = .ok (.ireturn, 1) := by decide +kernel
theorem dX2_worked_138 : decode cX2_worked 138 = .ok (.aload_n 0, 1) := by decide +kernel
theorem dX2_worked_139 : decode cX2_worked 139 = .ok (.iconst 1, 1) := by decide +kernel
theorem dX2_worked_140 : decode cX2_worked 140 = .ok (.aload_n 0, 1) := by decide +kernel
theorem dX2_worked_141 : decode cX2_worked 141 = .ok (.getfield 31, 3) := by decide +kernel
theorem dX2_worked_144 : decode cX2_worked 144 = .ok (.iload_n 3, 1) := by decide +kernel
theorem dX2_worked_145 : decode cX2_worked 145 = .ok (.iload 4, 2) := by decide +kernel
theorem dX2_worked_147 : decode cX2_worked 147 = .ok (.invokevirtual 41, 3) := by decide +kernel
theorem dX2_worked_150 : decode cX2_worked 150 = .ok (.aload_n 0, 1) := by decide +kernel
theorem dX2_worked_151 : decode cX2_worked 151 = .ok (.getfield 25, 3) := by decide +kernel
theorem dX2_worked_154 : decode cX2_worked 154 = .ok (.isub, 1) := by decide +kernel
theorem dX2_worked_155 : decode cX2_worked 155 = .ok (.ireturn, 1) := by decide +kernel
theorem dX2_worked_156 : decode cX2_worked 156 = .ok (.aload_n 0, 1) := by decide +kernel
theorem dX2_worked_157 : decode cX2_worked 157 = .ok (.iload_n 3, 1) := by decide +kernel
theorem dX2_worked_158 : decode cX2_worked 158 = .ok (.aload_n 0, 1) := by decide +kernel
theorem dX2_worked_159 : decode cX2_worked 159 = .ok (.getfield 25, 3) := by decide +kernel
theorem dX2_worked_162 : decode cX2_worked 162 = .ok (.aload_n 0, 1) := by decide +kernel
theorem dX2_worked_163 : decode cX2_worked 163 = .ok (.getfield 15, 3) := by decide +kernel
theorem dX2_worked_166 : decode cX2_worked 166 = .ok (.isub, 1) := by decide +kernel
theorem dX2_worked_167 : decode cX2_worked 167 = .ok (.invokevirtual 58, 3) := by decide +kernel
theorem dX2_worked_170 : decode cX2_worked 170 = .ok (.ireturn, 1) := by decide +kernel
theorem dX2_worked_171 : decode cX2_worked 171 = .ok (.aload_n 0, 1) := by decide +kernel
theorem dX2_worked_172 : decode cX2_worked 172 = .ok (.iconst 0, 1) := by decide +kernel
theorem dX2_worked_173 : decode cX2_worked 173 = .ok (.iload_n 2, 1) := by decide +kernel
theorem dX2_worked_174 : decode cX2_worked 174 = .ok (.iload_n 3, 1) := by decide +kernel
theorem dX2_worked_175 : decode cX2_worked 175 = .ok (.iload 4, 2) := by decide +kernel
theorem dX2_worked_177 : decode cX2_worked 177 = .ok (.invokevirtual 41, 3) := by decide +kernel
theorem dX2_worked_180 : decode cX2_worked 180 = .ok (.iconst 4, 1) := by decide +kernel
theorem dX2_worked_181 : decode cX2_worked 181 = .ok (.isub, 1) := by decide +kernel
theorem dX2_worked_182 : decode cX2_worked 182 = .ok (.ireturn, 1) := by decide +kernel
theorem dX2_worked_183 : decode cX2_worked 183 = .ok (.aload_n 0, 1) := by decide +kernel
theorem dX2_worked_184 : decode cX2_worked 184 = .ok (.iconst 3, 1) := by decide +kernel
theorem dX2_worked_185 : decode cX2_worked 185 = .ok (.iload_n 2, 1) := by decide +kernel
theorem dX2_worked_186 : decode cX2_worked 186 = .ok (.iload_n 3, 1) := by decide +kernel
theorem dX2_worked_187 : decode cX2_worked 187 = .ok (.iload 4, 2) := by decide +kernel
theorem dX2_worked_189 : decode cX2_worked 189 = .ok (.invokevirtual 41, 3) := by decide +kernel
theorem dX2_worked_192 : decode cX2_worked 192 = .ok (.aload_n 0, 1) := by decide +kernel
theorem dX2_worked_193 : decode cX2_worked 193 = .ok (.iconst 1, 1) := by decide +kernel
theorem dX2_worked_194 : decode cX2_worked 194 = .ok (.aload_n 0, 1) := by decide +kernel
theorem dX2_worked_195 : decode cX2_worked 195 = .ok (.getfield 31, 3) := by decide +kernel
theorem dX2_worked_198 : decode cX2_worked 198 = .ok (.iconst 1, 1) := by decide +kernel
theorem dX2_worked_199 : decode cX2_worked 199 = .ok (.iload 4, 2) := by decide +kernel
theorem dX2_worked_201 : decode cX2_worked 201 = .ok (.invokevirtual 41, 3) := by decide +kernel
theorem dX2_worked_204 : decode cX2_worked 204 = .ok (.iadd, 1) := by decide +kernel
theorem dX2_worked_205 : decode cX2_worked 205 = .ok (.ireturn, 1) := by decide +kernel
theorem dX2_worked_206 : decode cX2_worked 206 = .ok (.iconst 0, 1) := by decide +kernel
theorem dX2_worked_207 : decode cX2_worked 207 = .ok (.aload_n 0, 1) := by decide +kernel
theorem dX2_worked_208 : decode cX2_worked 208 = .ok (.iconst 1, 1) := by decide +kernel
theorem dX2_worked_209 : decode cX2_worked 209 = .ok (.iload_n 2, 1) := by decide +kernel
theorem dX2_worked_210 : decode cX2_worked 210 = .ok (.iload_n 3, 1) := by decide +kernel
theorem dX2_worked_211 : decode cX2_worked 211 = .ok (.iload 4, 2) := by decide +kernel
theorem dX2_worked_213 : decode cX2_worked 213 = .ok (.invokevirtual 41, 3) := by decide +kernel
theorem dX2_worked_216 : decode cX2_worked 216 = .ok (.isub, 1) := by decide +kernel
theorem dX2_worked_217 : decode cX2_worked 217 = .ok (.ireturn, 1) := by decide +kernel
theorem dX2_worked_218 : decode cX2_worked 218 = .ok (.aload_n 0, 1) := by decide +kernel
theorem dX2_worked_219 : decode cX2_worked 219 = .ok (.iconst 2, 1) := by decide +kernel
theorem dX2_worked_220 : decode cX2_worked 220 = .ok (.iload_n 2, 1) := by decide +kernel
theorem dX2_worked_221 : decode cX2_worked 221 = .ok (.iload_n 3, 1) := by decide +kernel
theorem dX2_worked_222 : decode cX2_worked 222 = .ok (.iconst 2, 1) := by decide +kernel
theorem dX2_worked_223 : decode cX2_worked 223 = .ok (.idiv, 1) := by decide +kernel
theorem dX2_worked_224 : decode cX2_worked 224 = .ok (.iload 4, 2) := by decide +kernel
theorem dX2_worked_226 : decode cX2_worked 226 = .ok (.invokevirtual 41, 3) := by decide +kernel
theorem dX2_worked_229 : decode cX2_worked 229 = .ok (.ireturn, 1) := by decide +kernel
theorem dX2_worked_230 : decode cX2_worked 230 = .ok (.aload_n 0, 1) := by decide +kernel
theorem dX2_worked_231 : decode cX2_worked 231 = .ok (.iconst 0, 1) := by decide +kernel
theorem dX2_worked_232 : decode cX2_worked 232 = .ok (.iload_n 2, 1) := by decide +kernel
theorem dX2_worked_233 : decode cX2_worked 233 = .ok (.iload_n 3, 1) := by decide +kernel
theorem dX2_worked_234 : decode cX2_worked 234 = .ok (.iload 4, 2) := by decide +kernel
theorem dX2_worked_236 : decode cX2_worked 236 = .ok (.invokevirtual 41, 3) := by decide +kernel
theorem dX2_worked_239 : decode cX2_worked 239 = .ok (.iconst 3, 1) := by decide +kernel
theorem dX2_worked_240 : decode cX2_worked 240 = .ok (.imul, 1) := by decide +kernel
theorem dX2_worked_241 : decode cX2_worked 241 = .ok (.ireturn, 1) := by decide +kernel
theorem dX2_worked_242 : decode cX2_worked 242 = .ok (.aload_n 0, 1) := by decide +kernel
theorem dX2_worked_243 : decode cX2_worked 243 = .ok (.iconst 2, 1) := by decide +kernel
theorem dX2_worked_244 : decode cX2_worked 244 = .ok (.iload_n 2, 1) := by decide +kernel
theorem dX2_worked_245 : decode cX2_worked 245 = .ok (.iload_n 3, 1) := by decide +kernel
theorem dX2_worked_246 : decode cX2_worked 246 = .ok (.iload 4, 2) := by decide +kernel
theorem dX2_worked_248 : decode cX2_worked 248 = .ok (.invokevirtual 41, 3) := by decide +kernel
theorem dX2_worked_251 : decode cX2_worked 251 = .ok (.aload_n 0, 1) := by decide +kernel
theorem dX2_worked_252 : decode cX2_worked 252 = .ok (.getfield 15, 3) := by decide +kernel
theorem dX2_worked_255 : decode cX2_worked 255 = .ok (.ixor, 1) := by decide +kernel
theorem dX2_worked_256 : decode cX2_worked 256 = .ok (.ireturn, 1) := by decide +kernel
theorem dX2_worked_257 : decode cX2_worked 257 = .ok (.aload_n 0, 1) := by decide +kernel
theorem dX2_worked_258 : decode cX2_worked 258 = .ok (.iconst 1, 1) := by decide +kernel
theorem dX2_worked_259 : decode cX2_worked 259 = .ok (.iload_n 2, 1) := by decide +kernel
theorem dX2_worked_260 : decode cX2_worked 260 = .ok (.iload_n 3, 1) := by decide +kernel
theorem dX2_worked_261 : decode cX2_worked 261 = .ok (.iconst 1, 1) := by decide +kernel
theorem dX2_worked_262 : decode cX2_worked 262 = .ok (.iadd, 1) := by decide +kernel
theorem dX2_worked_263 : decode cX2_worked 263 = .ok (.iload 4, 2) := by decide +kernel
theorem dX2_worked_265 : decode cX2_worked 265 = .ok (.invokevirtual 41, 3) := by decide +kernel
theorem dX2_worked_268 : decode cX2_worked 268 = .ok (.ireturn, 1) := by decide +kernel
theorem dX2_worked_269 : decode cX2_worked 269 = .ok (.bipush 9, 2) := by decide +kernel
theorem dX2_worked_271 : decode cX2_worked 271 = .ok (.ireturn, 1) := by decide +kernel
theorem dX2_worked_272 : decode cX2_worked 272 = .ok (.aload_n 0, 1) := by decide +kernel
theorem dX2_worked_273 : decode cX2_worked 273 = .ok (.iconst 1, 1) := by decide +kernel
theorem dX2_worked_274 : decode cX2_worked 274 = .ok (.iload_n 2, 1) := by decide +kernel
theorem dX2_worked_275 : decode cX2_worked 275 = .ok (.iload_n 3, 1) := by decide +kernel
theorem dX2_worked_276 : decode cX2_worked 276 = .ok (.iload 4, 2) := by decide +kernel
theorem dX2_worked_278 : decode cX2_worked 278 = .ok (.invokevirtual 41, 3) := by decide +kernel
theorem dX2_worked_281 : decode cX2_worked 281 = .ok (.aload_n 0, 1) := by decide +kernel
theorem dX2_worked_282 : decode cX2_worked 282 = .ok (.getfield 25, 3) := by decide +kernel
theorem dX2_worked_285 : decode cX2_worked 285 = .ok (.iadd, 1) := by decide +kernel
theorem dX2_worked_286 : decode cX2_worked 286 = .ok (.ireturn, 1) := by decide +kernel
theorem dX2_worked_287 : decode cX2_worked 287 = .ok (.iconst 0, 1) := by decide +kernel
theorem dX2_worked_288 : decode cX2_worked 288 = .ok (.ireturn, 1) := by decide +kernel
theorem dX2_divided_0 : decode cX2_divided 0 = .ok (.iload_n 2, 1) := by decide +kernel
theorem dX2_divided_1 : decode cX2_divided 1 = .ok (.ifCond .ne 10, 3) := by decide +kernel
theorem dX2_divided_4 : decode cX2_divided 4 = .ok (.aload_n 0, 1) := by decide +kernel
theorem dX2_divided_5 : decode cX2_divided 5 = .ok (.iconst 1, 1) := by decide +kernel
theorem dX2_divided_6 : decode cX2_divided 6 = .ok (.putfield 37, 3) := by decide +kernel
theorem dX2_divided_9 : decode cX2_divided 9 = .ok (.iconst 0, 1) := by decide +kernel
theorem dX2_divided_10 : decode cX2_divided 10 = .ok (.ireturn, 1) := by decide +kernel
theorem dX2_divided_11 : decode cX2_divided 11 = .ok (.iload_n 1, 1) := by decide +kernel
theorem dX2_divided_12 : decode cX2_divided 12 = .ok (.iload_n 2, 1) := by decide +kernel
theorem dX2_divided_13 : decode cX2_divided 13 = .ok (.idiv, 1) := by decide +kernel
theorem dX2_divided_14 : decode cX2_divided 14 = .ok (.ireturn, 1) := by decide +kernel
theorem dX3_init_0 : decode cX3_init 0 = .ok (.aload_n 0, 1) := by decide +kernel
theorem dX3_init_1 : decode cX3_init 1 = .ok (.invokespecial 3, 3) := by decide +kernel
theorem dX3_init_4 : decode cX3_init 4 = .ok (.aload_n 0, 1) := by decide +kernel
theorem dX3_init_5 : decode cX3_init 5 = .ok (.bipush 60, 2) := by decide +kernel
theorem dX3_init_7 : decode cX3_init 7 = .ok (.newarray .int, 2) := by decide +kernel
theorem dX3_init_9 : decode cX3_init 9 = .ok (.putfield 9, 3) := by decide +kernel
theorem dX3_init_12 : decode cX3_init 12 = .ok (.aload_n 0, 1) := by decide +kernel
theorem dX3_init_13 : decode cX3_init 13 = .ok (.bipush 60, 2) := by decide +kernel
theorem dX3_init_15 : decode cX3_init 15 = .ok (.newarray .int, 2) := by decide +kernel
theorem dX3_init_17 : decode cX3_init 17 = .ok (.putfield 15, 3) := by decide +kernel
theorem dX3_init_20 : decode cX3_init 20 = .ok (.return_, 1) := by decide +kernel
theorem dX3_stands_0 : decode cX3_stands 0 = .ok (.aload_n 0, 1) := by decide +kernel
theorem dX3_stands_1 : decode cX3_stands 1 = .ok (.getfield 18, 3) := by decide +kernel
theorem dX3_stands_4 : decode cX3_stands 4 = .ok (.ifCond .le 7, 3) := by decide +kernel
theorem dX3_stands_7 : decode cX3_stands 7 = .ok (.iconst 1, 1) := by decide +kernel
theorem dX3_stands_8 : decode cX3_stands 8 = .ok (.goto 4, 3) := by decide +kernel
theorem dX3_stands_11 : decode cX3_stands 11 = .ok (.iconst 0, 1) := by decide +kernel
theorem dX3_stands_12 : decode cX3_stands 12 = .ok (.ireturn, 1) := by decide +kernel
theorem dX3_clear_0 : decode cX3_clear 0 = .ok (.aload_n 0, 1) := by decide +kernel
theorem dX3_clear_1 : decode cX3_clear 1 = .ok (.iconst 0, 1) := by decide +kernel
theorem dX3_clear_2 : decode cX3_clear 2 = .ok (.putfield 18, 3) := by decide +kernel
theorem dX3_clear_5 : decode cX3_clear 5 = .ok (.return_, 1) := by decide +kernel
theorem dX3_add_0 : decode cX3_add 0 = .ok (.aload_n 0, 1) := by decide +kernel
theorem dX3_add_1 : decode cX3_add 1 = .ok (.getfield 18, 3) := by decide +kernel
theorem dX3_add_4 : decode cX3_add 4 = .ok (.aload_n 0, 1) := by decide +kernel
theorem dX3_add_5 : decode cX3_add 5 = .ok (.getfield 9, 3) := by decide +kernel
theorem dX3_add_8 : decode cX3_add 8 = .ok (.arraylength, 1) := by decide +kernel
theorem dX3_add_9 : decode cX3_add 9 = .ok (.if_icmp .ge 23, 3) := by decide +kernel
theorem dX3_add_12 : decode cX3_add 12 = .ok (.aload_n 0, 1) := by decide +kernel
theorem dX3_add_13 : decode cX3_add 13 = .ok (.getfield 9, 3) := by decide +kernel
theorem dX3_add_16 : decode cX3_add 16 = .ok (.aload_n 0, 1) := by decide +kernel
theorem dX3_add_17 : decode cX3_add 17 = .ok (.getfield 18, 3) := by decide +kernel
theorem dX3_add_20 : decode cX3_add 20 = .ok (.iload_n 1, 1) := by decide +kernel
theorem dX3_add_21 : decode cX3_add 21 = .ok (.iastore, 1) := by decide +kernel
theorem dX3_add_22 : decode cX3_add 22 = .ok (.aload_n 0, 1) := by decide +kernel
theorem dX3_add_23 : decode cX3_add 23 = .ok (.dup, 1) := by decide +kernel
theorem dX3_add_24 : decode cX3_add 24 = .ok (.getfield 18, 3) := by decide +kernel
theorem dX3_add_27 : decode cX3_add 27 = .ok (.iconst 1, 1) := by decide +kernel
theorem dX3_add_28 : decode cX3_add 28 = .ok (.iadd, 1) := by decide +kernel
theorem dX3_add_29 : decode cX3_add 29 = .ok (.putfield 18, 3) := by decide +kernel
theorem dX3_add_32 : decode cX3_add 32 = .ok (.return_, 1) := by decide +kernel
theorem dX3_copyFrom_0 : decode cX3_copyFrom 0 = .ok (.aload_n 1, 1) := by decide +kernel
theorem dX3_copyFrom_1 : decode cX3_copyFrom 1 = .ok (.getfield 9, 3) := by decide +kernel
theorem dX3_copyFrom_4 : decode cX3_copyFrom 4 = .ok (.iconst 0, 1) := by decide +kernel
theorem dX3_copyFrom_5 : decode cX3_copyFrom 5 = .ok (.aload_n 0, 1) := by decide +kernel
theorem dX3_copyFrom_6 : decode cX3_copyFrom 6 = .ok (.getfield 9, 3) := by decide +kernel
theorem dX3_copyFrom_9 : decode cX3_copyFrom 9 = .ok (.iconst 0, 1) := by decide +kernel
theorem dX3_copyFrom_10 : decode cX3_copyFrom 10 = .ok (.bipush 60, 2) := by decide +kernel
theorem dX3_copyFrom_12 : decode cX3_copyFrom 12 = .ok (.invokestatic 22, 3) := by decide +kernel
theorem dX3_copyFrom_15 : decode cX3_copyFrom 15 = .ok (.aload_n 0, 1) := by decide +kernel
theorem dX3_copyFrom_16 : decode cX3_copyFrom 16 = .ok (.aload_n 1, 1) := by decide +kernel
theorem dX3_copyFrom_17 : decode cX3_copyFrom 17 = .ok (.getfield 18, 3) := by decide +kernel
theorem dX3_copyFrom_20 : decode cX3_copyFrom 20 = .ok (.putfield 18, 3) := by decide +kernel
theorem dX3_copyFrom_23 : decode cX3_copyFrom 23 = .ok (.return_, 1) := by decide +kernel
theorem dX3_value_0 : decode cX3_value 0 = .ok (.iconst 0, 1) := by decide +kernel
theorem dX3_value_1 : decode cX3_value 1 = .ok (.istore 4, 2) := by decide +kernel
theorem dX3_value_3 : decode cX3_value 3 = .ok (.iconst 0, 1) := by decide +kernel
theorem dX3_value_4 : decode cX3_value 4 = .ok (.istore 5, 2) := by decide +kernel
theorem dX3_value_6 : decode cX3_value 6 = .ok (.iload 5, 2) := by decide +kernel
theorem dX3_value_8 : decode cX3_value 8 = .ok (.aload_n 0, 1) := by decide +kernel
theorem dX3_value_9 : decode cX3_value 9 = .ok (.getfield 18, 3) := by decide +kernel
theorem dX3_value_12 : decode cX3_value 12 = .ok (.if_icmp .ge 157, 3) := by decide +kernel
theorem dX3_value_15 : decode cX3_value 15 = .ok (.aload_n 0, 1) := by decide +kernel
theorem dX3_value_16 : decode cX3_value 16 = .ok (.getfield 9, 3) := by decide +kernel
theorem dX3_value_19 : decode cX3_value 19 = .ok (.iload 5, 2) := by decide +kernel
theorem dX3_value_21 : decode cX3_value 21 = .ok (.iaload, 1) := by decide +kernel
theorem dX3_value_22 : decode cX3_value 22 = .ok (.istore 6, 2) := by decide +kernel
theorem dX3_value_24 : decode cX3_value 24 = .ok (.iload 6, 2) := by decide +kernel
theorem dX3_value_26 : decode cX3_value 26 = .ok (.bipush (-3), 2) := by decide +kernel
theorem dX3_value_28 : decode cX3_value 28 = .ok (.if_icmp .lt 46, 3) := by decide +kernel
theorem dX3_value_31 : decode cX3_value 31 = .ok (.iload 4, 2) := by decide +kernel
theorem dX3_value_33 : decode cX3_value 33 = .ok (.aload_n 0, 1) := by decide +kernel
theorem dX3_value_34 : decode cX3_value 34 = .ok (.getfield 15, 3) := by decide +kernel
theorem dX3_value_37 : decode cX3_value 37 = .ok (.arraylength, 1) := by decide +kernel
theorem dX3_value_38 : decode cX3_value 38 = .ok (.if_icmp .lt 5, 3) := by decide +kernel
theorem dX3_value_41 : decode cX3_value 41 = .ok (.iconst 0, 1) := by decide +kernel
theorem dX3_value_42 : decode cX3_value 42 = .ok (.ireturn, 1) := by decide +kernel
theorem dX3_value_43 : decode cX3_value 43 = .ok (.aload_n 0, 1) := by decide +kernel
theorem dX3_value_44 : decode cX3_value 44 = .ok (.getfield 15, 3) := by decide +kernel
theorem dX3_value_47 : decode cX3_value 47 = .ok (.iload 4, 2) := by decide +kernel
theorem dX3_value_49 : decode cX3_value 49 = .ok (.iload 6, 2) := by decide +kernel
theorem dX3_value_51 : decode cX3_value 51 = .ok (.ifCond .lt 8, 3) := by decide +kernel
theorem dX3_value_54 : decode cX3_value 54 = .ok (.iload 6, 2) := by decide +kernel
theorem dX3_value_56 : decode cX3_value 56 = .ok (.goto 11, 3) := by decide +kernel
theorem dX3_value_59 : decode cX3_value 59 = .ok (.iload 6, 2) := by decide +kernel
theorem dX3_value_61 : decode cX3_value 61 = .ok (.iload_n 1, 1) := by decide +kernel
theorem dX3_value_62 : decode cX3_value 62 = .ok (.iload_n 2, 1) := by decide +kernel
theorem dX3_value_63 : decode cX3_value 63 = .ok (.iload_n 3, 1) := by decide +kernel
theorem dX3_value_64 : decode cX3_value 64 = .ok (.invokestatic 28, 3) := by decide +kernel
theorem dX3_value_67 : decode cX3_value 67 = .ok (.iastore, 1) := by decide +kernel
theorem dX3_value_68 : decode cX3_value 68 = .ok (.iinc 4 1, 3) := by decide +kernel
theorem dX3_value_71 : decode cX3_value 71 = .ok (.goto 92, 3) := by decide +kernel
theorem dX3_value_74 : decode cX3_value 74 = .ok (.iload 6, 2) := by decide +kernel
theorem dX3_value_76 : decode cX3_value 76 = .ok (.bipush (-33), 2) := by decide +kernel
theorem dX3_value_78 : decode cX3_value 78 = .ok (.if_icmp .ne 43, 3) := by decide +kernel
theorem dX3_value_81 : decode cX3_value 81 = .ok (.iload 4, 2) := by decide +kernel
theorem dX3_value_83 : decode cX3_value 83 = .ok (.iconst 1, 1) := by decide +kernel
theorem dX3_value_84 : decode cX3_value 84 = .ok (.if_icmp .ge 5, 3) := by decide +kernel
theorem dX3_value_87 : decode cX3_value 87 = .ok (.iconst 0, 1) := by decide +kernel
theorem dX3_value_88 : decode cX3_value 88 = .ok (.ireturn, 1) := by decide +kernel
theorem dX3_value_89 : decode cX3_value 89 = .ok (.aload_n 0, 1) := by decide +kernel
theorem dX3_value_90 : decode cX3_value 90 = .ok (.getfield 15, 3) := by decide +kernel
theorem dX3_value_93 : decode cX3_value 93 = .ok (.iload 4, 2) := by decide +kernel
theorem dX3_value_95 : decode cX3_value 95 = .ok (.iconst 1, 1) := by decide +kernel
theorem dX3_value_96 : decode cX3_value 96 = .ok (.isub, 1) := by decide +kernel
theorem dX3_value_97 : decode cX3_value 97 = .ok (.aload_n 0, 1) := by decide +kernel
theorem dX3_value_98 : decode cX3_value 98 = .ok (.getfield 15, 3) := by decide +kernel
theorem dX3_value_101 : decode cX3_value 101 = .ok (.iload 4, 2) := by decide +kernel
theorem dX3_value_103 : decode cX3_value 103 = .ok (.iconst 1, 1) := by decide +kernel
theorem dX3_value_104 : decode cX3_value 104 = .ok (.isub, 1) := by decide +kernel
theorem dX3_value_105 : decode cX3_value 105 = .ok (.iaload, 1) := by decide +kernel
theorem dX3_value_106 : decode cX3_value 106 = .ok (.ifCond .ne 7, 3) := by decide +kernel
theorem dX3_value_109 : decode cX3_value 109 = .ok (.iconst 1, 1) := by decide +kernel
theorem dX3_value_110 : decode cX3_value 110 = .ok (.goto 4, 3) := by decide +kernel
theorem dX3_value_113 : decode cX3_value 113 = .ok (.iconst 0, 1) := by decide +kernel
theorem dX3_value_114 : decode cX3_value 114 = .ok (.invokestatic 32, 3) := by decide +kernel
theorem dX3_value_117 : decode cX3_value 117 = .ok (.iastore, 1) := by decide +kernel
theorem dX3_value_118 : decode cX3_value 118 = .ok (.goto 45, 3) := by decide +kernel
theorem dX3_value_121 : decode cX3_value 121 = .ok (.iload 4, 2) := by decide +kernel
theorem dX3_value_123 : decode cX3_value 123 = .ok (.iconst 2, 1) := by decide +kernel
theorem dX3_value_124 : decode cX3_value 124 = .ok (.if_icmp .ge 5, 3) := by decide +kernel
theorem dX3_value_127 : decode cX3_value 127 = .ok (.iconst 0, 1) := by decide +kernel
theorem dX3_value_128 : decode cX3_value 128 = .ok (.ireturn, 1) := by decide +kernel
theorem dX3_value_129 : decode cX3_value 129 = .ok (.iinc 4 (-1), 3) := by decide +kernel
theorem dX3_value_132 : decode cX3_value 132 = .ok (.aload_n 0, 1) := by decide +kernel
theorem dX3_value_133 : decode cX3_value 133 = .ok (.getfield 15, 3) := by decide +kernel
theorem dX3_value_136 : decode cX3_value 136 = .ok (.iload 4, 2) := by decide +kernel
theorem dX3_value_138 : decode cX3_value 138 = .ok (.iconst 1, 1) := by decide +kernel
theorem dX3_value_139 : decode cX3_value 139 = .ok (.isub, 1) := by decide +kernel
theorem dX3_value_140 : decode cX3_value 140 = .ok (.iload 6, 2) := by decide +kernel
theorem dX3_value_142 : decode cX3_value 142 = .ok (.ineg, 1) := by decide +kernel
theorem dX3_value_143 : decode cX3_value 143 = .ok (.aload_n 0, 1) := by decide +kernel
theorem dX3_value_144 : decode cX3_value 144 = .ok (.getfield 15, 3) := by decide +kernel
theorem dX3_value_147 : decode cX3_value 147 = .ok (.iload 4, 2) := by decide +kernel
theorem dX3_value_149 : decode cX3_value 149 = .ok (.iconst 1, 1) := by decide +kernel
theorem dX3_value_150 : decode cX3_value 150 = .ok (.isub, 1) := by decide +kernel
theorem dX3_value_151 : decode cX3_value 151 = .ok (.iaload, 1) := by decide +kernel
theorem dX3_value_152 : decode cX3_value 152 = .ok (.aload_n 0, 1) := by decide +kernel
theorem dX3_value_153 : decode cX3_value 153 = .ok (.getfield 15, 3) := by decide +kernel
theorem dX3_value_156 : decode cX3_value 156 = .ok (.iload 4, 2) := by decide +kernel
theorem dX3_value_158 : decode cX3_value 158 = .ok (.iaload, 1) := by decide +kernel
theorem dX3_value_159 : decode cX3_value 159 = .ok (.invokestatic 36, 3) := by decide +kernel
theorem dX3_value_162 : decode cX3_value 162 = .ok (.iastore, 1) := by decide +kernel
theorem dX3_value_163 : decode cX3_value 163 = .ok (.iinc 5 1, 3) := by decide +kernel
theorem dX3_value_166 : decode cX3_value 166 = .ok (.goto (-160), 3) := by decide +kernel
theorem dX3_value_169 : decode cX3_value 169 = .ok (.iload 4, 2) := by decide +kernel
theorem dX3_value_171 : decode cX3_value 171 = .ok (.ifCond .le 12, 3) := by decide +kernel
theorem dX3_value_174 : decode cX3_value 174 = .ok (.aload_n 0, 1) := by decide +kernel
theorem dX3_value_175 : decode cX3_value 175 = .ok (.getfield 15, 3) := by decide +kernel
theorem dX3_value_178 : decode cX3_value 178 = .ok (.iconst 0, 1) := by decide +kernel
theorem dX3_value_179 : decode cX3_value 179 = .ok (.iaload, 1) := by decide +kernel
theorem dX3_value_180 : decode cX3_value 180 = .ok (.goto 4, 3) := by decide +kernel
theorem dX3_value_183 : decode cX3_value 183 = .ok (.iconst 0, 1) := by decide +kernel
theorem dX3_value_184 : decode cX3_value 184 = .ok (.ireturn, 1) := by decide +kernel
theorem dX3_named_0 : decode cX3_named 0 = .ok (.iload_n 0, 1) := by decide +kernel
theorem dX3_named_1 : decode cX3_named 1 = .ok (.iconst (-1), 1) := by decide +kernel
theorem dX3_named_2 : decode cX3_named 2 = .ok (.if_icmp .ne 5, 3) := by decide +kernel
theorem dX3_named_5 : decode cX3_named 5 = .ok (.iload_n 1, 1) := by decide +kernel
theorem dX3_named_6 : decode cX3_named 6 = .ok (.ireturn, 1) := by decide +kernel
theorem dX3_named_7 : decode cX3_named 7 = .ok (.iload_n 0, 1) := by decide +kernel
theorem dX3_named_8 : decode cX3_named 8 = .ok (.bipush (-2), 2) := by decide +kernel
theorem dX3_named_10 : decode cX3_named 10 = .ok (.if_icmp .ne 7, 3) := by decide +kernel
theorem dX3_named_13 : decode cX3_named 13 = .ok (.iload_n 2, 1) := by decide +kernel
theorem dX3_named_14 : decode cX3_named 14 = .ok (.goto 4, 3) := by decide +kernel
theorem dX3_named_17 : decode cX3_named 17 = .ok (.iload_n 3, 1) := by decide +kernel
theorem dX3_named_18 : decode cX3_named 18 = .ok (.ireturn, 1) := by decide +kernel
theorem dX3_joined_0 : decode cX3_joined 0 = .ok (.iload_n 0, 1) := by decide +kernel
theorem dX3_joined_1 : decode cX3_joined 1 = .ok (.lookupswitch 188 #[(37, 176), (38, 105), (42, 160), (43, 152), (45, 156), (47, 164), (60, 119), (61, 130), (62, 141), (124, 91)], 91) := by decide +kernel
theorem dX3_joined_92 : decode cX3_joined 92 = .ok (.iload_n 1, 1) := by decide +kernel
theorem dX3_joined_93 : decode cX3_joined 93 = .ok (.ifCond .ne 7, 3) := by decide +kernel
theorem dX3_joined_96 : decode cX3_joined 96 = .ok (.iload_n 2, 1) := by decide +kernel
theorem dX3_joined_97 : decode cX3_joined 97 = .ok (.ifCond .eq 7, 3) := by decide +kernel
theorem dX3_joined_100 : decode cX3_joined 100 = .ok (.iconst 1, 1) := by decide +kernel
theorem dX3_joined_101 : decode cX3_joined 101 = .ok (.goto 4, 3) := by decide +kernel
theorem dX3_joined_104 : decode cX3_joined 104 = .ok (.iconst 0, 1) := by decide +kernel
theorem dX3_joined_105 : decode cX3_joined 105 = .ok (.ireturn, 1) := by decide +kernel
theorem dX3_joined_106 : decode cX3_joined 106 = .ok (.iload_n 1, 1) := by decide +kernel
theorem dX3_joined_107 : decode cX3_joined 107 = .ok (.ifCond .eq 11, 3) := by decide +kernel
theorem dX3_joined_110 : decode cX3_joined 110 = .ok (.iload_n 2, 1) := by decide +kernel
theorem dX3_joined_111 : decode cX3_joined 111 = .ok (.ifCond .eq 7, 3) := by decide +kernel
theorem dX3_joined_114 : decode cX3_joined 114 = .ok (.iconst 1, 1) := by decide +kernel
theorem dX3_joined_115 : decode cX3_joined 115 = .ok (.goto 4, 3) := by decide +kernel
theorem dX3_joined_118 : decode cX3_joined 118 = .ok (.iconst 0, 1) := by decide +kernel
theorem dX3_joined_119 : decode cX3_joined 119 = .ok (.ireturn, 1) := by decide +kernel
theorem dX3_joined_120 : decode cX3_joined 120 = .ok (.iload_n 1, 1) := by decide +kernel
theorem dX3_joined_121 : decode cX3_joined 121 = .ok (.iload_n 2, 1) := by decide +kernel
theorem dX3_joined_122 : decode cX3_joined 122 = .ok (.if_icmp .ge 7, 3) := by decide +kernel
theorem dX3_joined_125 : decode cX3_joined 125 = .ok (.iconst 1, 1) := by decide +kernel
theorem dX3_joined_126 : decode cX3_joined 126 = .ok (.goto 4, 3) := by decide +kernel
theorem dX3_joined_129 : decode cX3_joined 129 = .ok (.iconst 0, 1) := by decide +kernel
theorem dX3_joined_130 : decode cX3_joined 130 = .ok (.ireturn, 1) := by decide +kernel
theorem dX3_joined_131 : decode cX3_joined 131 = .ok (.iload_n 1, 1) := by decide +kernel
theorem dX3_joined_132 : decode cX3_joined 132 = .ok (.iload_n 2, 1) := by decide +kernel
theorem dX3_joined_133 : decode cX3_joined 133 = .ok (.if_icmp .ne 7, 3) := by decide +kernel
theorem dX3_joined_136 : decode cX3_joined 136 = .ok (.iconst 1, 1) := by decide +kernel
theorem dX3_joined_137 : decode cX3_joined 137 = .ok (.goto 4, 3) := by decide +kernel
theorem dX3_joined_140 : decode cX3_joined 140 = .ok (.iconst 0, 1) := by decide +kernel
theorem dX3_joined_141 : decode cX3_joined 141 = .ok (.ireturn, 1) := by decide +kernel
theorem dX3_joined_142 : decode cX3_joined 142 = .ok (.iload_n 1, 1) := by decide +kernel
theorem dX3_joined_143 : decode cX3_joined 143 = .ok (.iload_n 2, 1) := by decide +kernel
theorem dX3_joined_144 : decode cX3_joined 144 = .ok (.if_icmp .le 7, 3) := by decide +kernel
theorem dX3_joined_147 : decode cX3_joined 147 = .ok (.iconst 1, 1) := by decide +kernel
theorem dX3_joined_148 : decode cX3_joined 148 = .ok (.goto 4, 3) := by decide +kernel
theorem dX3_joined_151 : decode cX3_joined 151 = .ok (.iconst 0, 1) := by decide +kernel
theorem dX3_joined_152 : decode cX3_joined 152 = .ok (.ireturn, 1) := by decide +kernel
theorem dX3_joined_153 : decode cX3_joined 153 = .ok (.iload_n 1, 1) := by decide +kernel
theorem dX3_joined_154 : decode cX3_joined 154 = .ok (.iload_n 2, 1) := by decide +kernel
theorem dX3_joined_155 : decode cX3_joined 155 = .ok (.iadd, 1) := by decide +kernel
theorem dX3_joined_156 : decode cX3_joined 156 = .ok (.ireturn, 1) := by decide +kernel
theorem dX3_joined_157 : decode cX3_joined 157 = .ok (.iload_n 1, 1) := by decide +kernel
theorem dX3_joined_158 : decode cX3_joined 158 = .ok (.iload_n 2, 1) := by decide +kernel
theorem dX3_joined_159 : decode cX3_joined 159 = .ok (.isub, 1) := by decide +kernel
theorem dX3_joined_160 : decode cX3_joined 160 = .ok (.ireturn, 1) := by decide +kernel
theorem dX3_joined_161 : decode cX3_joined 161 = .ok (.iload_n 1, 1) := by decide +kernel
theorem dX3_joined_162 : decode cX3_joined 162 = .ok (.iload_n 2, 1) := by decide +kernel
theorem dX3_joined_163 : decode cX3_joined 163 = .ok (.imul, 1) := by decide +kernel
theorem dX3_joined_164 : decode cX3_joined 164 = .ok (.ireturn, 1) := by decide +kernel
theorem dX3_joined_165 : decode cX3_joined 165 = .ok (.iload_n 2, 1) := by decide +kernel
theorem dX3_joined_166 : decode cX3_joined 166 = .ok (.ifCond .ne 7, 3) := by decide +kernel
theorem dX3_joined_169 : decode cX3_joined 169 = .ok (.iconst 0, 1) := by decide +kernel
theorem dX3_joined_170 : decode cX3_joined 170 = .ok (.goto 6, 3) := by decide +kernel
theorem dX3_joined_173 : decode cX3_joined 173 = .ok (.iload_n 1, 1) := by decide +kernel
theorem dX3_joined_174 : decode cX3_joined 174 = .ok (.iload_n 2, 1) := by decide +kernel
theorem dX3_joined_175 : decode cX3_joined 175 = .ok (.idiv, 1) := by decide +kernel
theorem dX3_joined_176 : decode cX3_joined 176 = .ok (.ireturn, 1) := by decide +kernel
theorem dX3_joined_177 : decode cX3_joined 177 = .ok (.iload_n 2, 1) := by decide +kernel
theorem dX3_joined_178 : decode cX3_joined 178 = .ok (.ifCond .ne 7, 3) := by decide +kernel
theorem dX3_joined_181 : decode cX3_joined 181 = .ok (.iconst 0, 1) := by decide +kernel
theorem dX3_joined_182 : decode cX3_joined 182 = .ok (.goto 6, 3) := by decide +kernel
theorem dX3_joined_185 : decode cX3_joined 185 = .ok (.iload_n 1, 1) := by decide +kernel
theorem dX3_joined_186 : decode cX3_joined 186 = .ok (.iload_n 2, 1) := by decide +kernel
theorem dX3_joined_187 : decode cX3_joined 187 = .ok (.irem, 1) := by decide +kernel
theorem dX3_joined_188 : decode cX3_joined 188 = .ok (.ireturn, 1) := by decide +kernel
theorem dX3_joined_189 : decode cX3_joined 189 = .ok (.iconst 0, 1) := by decide +kernel
theorem dX3_joined_190 : decode cX3_joined 190 = .ok (.ireturn, 1) := by decide +kernel
theorem dX4_init_0 : decode cX4_init 0 = .ok (.aload_n 0, 1) := by decide +kernel
theorem dX4_init_1 : decode cX4_init 1 = .ok (.invokespecial 3, 3) := by decide +kernel
theorem dX4_init_4 : decode cX4_init 4 = .ok (.aload_n 0, 1) := by decide +kernel
theorem dX4_init_5 : decode cX4_init 5 = .ok (.bipush 40, 2) := by decide +kernel
theorem dX4_init_7 : decode cX4_init 7 = .ok (.newarray .int, 2) := by decide +kernel
theorem dX4_init_9 : decode cX4_init 9 = .ok (.putfield 9, 3) := by decide +kernel
theorem dX4_init_12 : decode cX4_init 12 = .ok (.aload_n 0, 1) := by decide +kernel
theorem dX4_init_13 : decode cX4_init 13 = .ok (.sipush 256, 3) := by decide +kernel
theorem dX4_init_16 : decode cX4_init 16 = .ok (.newarray .int, 2) := by decide +kernel
theorem dX4_init_18 : decode cX4_init 18 = .ok (.putfield 15, 3) := by decide +kernel
theorem dX4_init_21 : decode cX4_init 21 = .ok (.aload_n 0, 1) := by decide +kernel
theorem dX4_init_22 : decode cX4_init 22 = .ok (.sipush 256, 3) := by decide +kernel
theorem dX4_init_25 : decode cX4_init 25 = .ok (.newarray .int, 2) := by decide +kernel
theorem dX4_init_27 : decode cX4_init 27 = .ok (.putfield 18, 3) := by decide +kernel
theorem dX4_init_30 : decode cX4_init 30 = .ok (.return_, 1) := by decide +kernel
theorem dX4_later_0 : decode cX4_later 0 = .ok (.aload_n 1, 1) := by decide +kernel
theorem dX4_later_1 : decode cX4_later 1 = .ok (.getfield 21, 3) := by decide +kernel
theorem dX4_later_4 : decode cX4_later 4 = .ok (.iload_n 2, 1) := by decide +kernel
theorem dX4_later_5 : decode cX4_later 5 = .ok (.iload_n 3, 1) := by decide +kernel
theorem dX4_later_6 : decode cX4_later 6 = .ok (.invokestatic 26, 3) := by decide +kernel
theorem dX4_later_9 : decode cX4_later 9 = .ok (.iaload, 1) := by decide +kernel
theorem dX4_later_10 : decode cX4_later 10 = .ok (.istore 5, 2) := by decide +kernel
theorem dX4_later_12 : decode cX4_later 12 = .ok (.iconst 0, 1) := by decide +kernel
theorem dX4_later_13 : decode cX4_later 13 = .ok (.istore 6, 2) := by decide +kernel
theorem dX4_later_15 : decode cX4_later 15 = .ok (.iload 6, 2) := by decide +kernel
theorem dX4_later_17 : decode cX4_later 17 = .ok (.iload 4, 2) := by decide +kernel
theorem dX4_later_19 : decode cX4_later 19 = .ok (.if_icmp .ge 39, 3) := by decide +kernel
theorem dX4_later_22 : decode cX4_later 22 = .ok (.aload_n 1, 1) := by decide +kernel
theorem dX4_later_23 : decode cX4_later 23 = .ok (.iload_n 2, 1) := by decide +kernel
theorem dX4_later_24 : decode cX4_later 24 = .ok (.iload_n 3, 1) := by decide +kernel
theorem dX4_later_25 : decode cX4_later 25 = .ok (.iload 5, 2) := by decide +kernel
theorem dX4_later_27 : decode cX4_later 27 = .ok (.aload_n 1, 1) := by decide +kernel
theorem dX4_later_28 : decode cX4_later 28 = .ok (.getfield 30, 3) := by decide +kernel
theorem dX4_later_31 : decode cX4_later 31 = .ok (.iload 6, 2) := by decide +kernel
theorem dX4_later_33 : decode cX4_later 33 = .ok (.iadd, 1) := by decide +kernel
theorem dX4_later_34 : decode cX4_later 34 = .ok (.invokevirtual 34, 3) := by decide +kernel
theorem dX4_later_37 : decode cX4_later 37 = .ok (.istore 7, 2) := by decide +kernel
theorem dX4_later_39 : decode cX4_later 39 = .ok (.iload 5, 2) := by decide +kernel
theorem dX4_later_41 : decode cX4_later 41 = .ok (.iload 7, 2) := by decide +kernel
theorem dX4_later_43 : decode cX4_later 43 = .ok (.iadd, 1) := by decide +kernel
theorem dX4_later_44 : decode cX4_later 44 = .ok (.iconst 0, 1) := by decide +kernel
theorem dX4_later_45 : decode cX4_later 45 = .ok (.bipush 99, 2) := by decide +kernel
theorem dX4_later_47 : decode cX4_later 47 = .ok (.invokestatic 38, 3) := by decide +kernel
theorem dX4_later_50 : decode cX4_later 50 = .ok (.istore 5, 2) := by decide +kernel
theorem dX4_later_52 : decode cX4_later 52 = .ok (.iinc 6 1, 3) := by decide +kernel
theorem dX4_later_55 : decode cX4_later 55 = .ok (.goto (-40), 3) := by decide +kernel
theorem dX4_later_58 : decode cX4_later 58 = .ok (.iload 5, 2) := by decide +kernel
theorem dX4_later_60 : decode cX4_later 60 = .ok (.ireturn, 1) := by decide +kernel
theorem dX4_firstBelow_0 : decode cX4_firstBelow 0 = .ok (.aload_n 1, 1) := by decide +kernel
theorem dX4_firstBelow_1 : decode cX4_firstBelow 1 = .ok (.getfield 21, 3) := by decide +kernel
theorem dX4_firstBelow_4 : decode cX4_firstBelow 4 = .ok (.iconst 0, 1) := by decide +kernel
theorem dX4_firstBelow_5 : decode cX4_firstBelow 5 = .ok (.aload_n 0, 1) := by decide +kernel
theorem dX4_firstBelow_6 : decode cX4_firstBelow 6 = .ok (.getfield 9, 3) := by decide +kernel
theorem dX4_firstBelow_9 : decode cX4_firstBelow 9 = .ok (.iconst 0, 1) := by decide +kernel
theorem dX4_firstBelow_10 : decode cX4_firstBelow 10 = .ok (.bipush 40, 2) := by decide +kernel
theorem dX4_firstBelow_12 : decode cX4_firstBelow 12 = .ok (.invokestatic 42, 3) := by decide +kernel
theorem dX4_firstBelow_15 : decode cX4_firstBelow 15 = .ok (.iconst 0, 1) := by decide +kernel
theorem dX4_firstBelow_16 : decode cX4_firstBelow 16 = .ok (.istore_n 3, 1) := by decide +kernel
theorem dX4_firstBelow_17 : decode cX4_firstBelow 17 = .ok (.iload_n 3, 1) := by decide +kernel
theorem dX4_firstBelow_18 : decode cX4_firstBelow 18 = .ok (.bipush 60, 2) := by decide +kernel
theorem dX4_firstBelow_20 : decode cX4_firstBelow 20 = .ok (.if_icmp .gt 68, 3) := by decide +kernel
theorem dX4_firstBelow_23 : decode cX4_firstBelow 23 = .ok (.iload_n 3, 1) := by decide +kernel
theorem dX4_firstBelow_24 : decode cX4_firstBelow 24 = .ok (.ifCond .le 19, 3) := by decide +kernel
theorem dX4_firstBelow_27 : decode cX4_firstBelow 27 = .ok (.aload_n 1, 1) := by decide +kernel
theorem dX4_firstBelow_28 : decode cX4_firstBelow 28 = .ok (.aload_n 0, 1) := by decide +kernel
theorem dX4_firstBelow_29 : decode cX4_firstBelow 29 = .ok (.getfield 9, 3) := by decide +kernel
theorem dX4_firstBelow_32 : decode cX4_firstBelow 32 = .ok (.aload_n 1, 1) := by decide +kernel
theorem dX4_firstBelow_33 : decode cX4_firstBelow 33 = .ok (.getfield 30, 3) := by decide +kernel
theorem dX4_firstBelow_36 : decode cX4_firstBelow 36 = .ok (.iload_n 3, 1) := by decide +kernel
theorem dX4_firstBelow_37 : decode cX4_firstBelow 37 = .ok (.iadd, 1) := by decide +kernel
theorem dX4_firstBelow_38 : decode cX4_firstBelow 38 = .ok (.iconst 1, 1) := by decide +kernel
theorem dX4_firstBelow_39 : decode cX4_firstBelow 39 = .ok (.isub, 1) := by decide +kernel
theorem dX4_firstBelow_40 : decode cX4_firstBelow 40 = .ok (.invokevirtual 48, 3) := by decide +kernel
theorem dX4_firstBelow_43 : decode cX4_firstBelow 43 = .ok (.iconst 0, 1) := by decide +kernel
theorem dX4_firstBelow_44 : decode cX4_firstBelow 44 = .ok (.istore 4, 2) := by decide +kernel
theorem dX4_firstBelow_46 : decode cX4_firstBelow 46 = .ok (.iload 4, 2) := by decide +kernel
theorem dX4_firstBelow_48 : decode cX4_firstBelow 48 = .ok (.aload_n 1, 1) := by decide +kernel
theorem dX4_firstBelow_49 : decode cX4_firstBelow 49 = .ok (.getfield 52, 3) := by decide +kernel
theorem dX4_firstBelow_52 : decode cX4_firstBelow 52 = .ok (.if_icmp .ge 30, 3) := by decide +kernel
theorem dX4_firstBelow_55 : decode cX4_firstBelow 55 = .ok (.aload_n 0, 1) := by decide +kernel
theorem dX4_firstBelow_56 : decode cX4_firstBelow 56 = .ok (.getfield 9, 3) := by decide +kernel
theorem dX4_firstBelow_59 : decode cX4_firstBelow 59 = .ok (.iload 4, 2) := by decide +kernel
theorem dX4_firstBelow_61 : decode cX4_firstBelow 61 = .ok (.invokestatic 55, 3) := by decide +kernel
theorem dX4_firstBelow_64 : decode cX4_firstBelow 64 = .ok (.iload_n 2, 1) := by decide +kernel
theorem dX4_firstBelow_65 : decode cX4_firstBelow 65 = .ok (.if_icmp .ge 11, 3) := by decide +kernel
theorem dX4_firstBelow_68 : decode cX4_firstBelow 68 = .ok (.iload_n 3, 1) := by decide +kernel
theorem dX4_firstBelow_69 : decode cX4_firstBelow 69 = .ok (.bipush 8, 2) := by decide +kernel
theorem dX4_firstBelow_71 : decode cX4_firstBelow 71 = .ok (.imul, 1) := by decide +kernel
theorem dX4_firstBelow_72 : decode cX4_firstBelow 72 = .ok (.iload 4, 2) := by decide +kernel
theorem dX4_firstBelow_74 : decode cX4_firstBelow 74 = .ok (.iadd, 1) := by decide +kernel
theorem dX4_firstBelow_75 : decode cX4_firstBelow 75 = .ok (.ireturn, 1) := by decide +kernel
theorem dX4_firstBelow_76 : decode cX4_firstBelow 76 = .ok (.iinc 4 1, 3) := by decide +kernel
theorem dX4_firstBelow_79 : decode cX4_firstBelow 79 = .ok (.goto (-33), 3) := by decide +kernel
theorem dX4_firstBelow_82 : decode cX4_firstBelow 82 = .ok (.iinc 3 1, 3) := by decide +kernel
theorem dX4_firstBelow_85 : decode cX4_firstBelow 85 = .ok (.goto (-68), 3) := by decide +kernel
theorem dX4_firstBelow_88 : decode cX4_firstBelow 88 = .ok (.iconst (-1), 1) := by decide +kernel
theorem dX4_firstBelow_89 : decode cX4_firstBelow 89 = .ok (.ireturn, 1) := by decide +kernel
theorem dX4_couldBear_0 : decode cX4_couldBear 0 = .ok (.iload_n 2, 1) := by decide +kernel
theorem dX4_couldBear_1 : decode cX4_couldBear 1 = .ok (.iload 4, 2) := by decide +kernel
theorem dX4_couldBear_3 : decode cX4_couldBear 3 = .ok (.if_icmp .eq 9, 3) := by decide +kernel
theorem dX4_couldBear_6 : decode cX4_couldBear 6 = .ok (.iload_n 3, 1) := by decide +kernel
theorem dX4_couldBear_7 : decode cX4_couldBear 7 = .ok (.iload 4, 2) := by decide +kernel
theorem dX4_couldBear_9 : decode cX4_couldBear 9 = .ok (.if_icmp .ne 5, 3) := by decide +kernel
theorem dX4_couldBear_12 : decode cX4_couldBear 12 = .ok (.iconst 0, 1) := by decide +kernel
theorem dX4_couldBear_13 : decode cX4_couldBear 13 = .ok (.ireturn, 1) := by decide +kernel
theorem dX4_couldBear_14 : decode cX4_couldBear 14 = .ok (.iconst 0, 1) := by decide +kernel
theorem dX4_couldBear_15 : decode cX4_couldBear 15 = .ok (.istore 5, 2) := by decide +kernel
theorem dX4_couldBear_17 : decode cX4_couldBear 17 = .ok (.iload 5, 2) := by decide +kernel
theorem dX4_couldBear_19 : decode cX4_couldBear 19 = .ok (.iconst 5, 1) := by decide +kernel
theorem dX4_couldBear_20 : decode cX4_couldBear 20 = .ok (.if_icmp .ge 34, 3) := by decide +kernel
theorem dX4_couldBear_23 : decode cX4_couldBear 23 = .ok (.aload_n 1, 1) := by decide +kernel
theorem dX4_couldBear_24 : decode cX4_couldBear 24 = .ok (.iload_n 2, 1) := by decide +kernel
theorem dX4_couldBear_25 : decode cX4_couldBear 25 = .ok (.iload_n 3, 1) := by decide +kernel
theorem dX4_couldBear_26 : decode cX4_couldBear 26 = .ok (.iload 5, 2) := by decide +kernel
theorem dX4_couldBear_28 : decode cX4_couldBear 28 = .ok (.invokevirtual 59, 3) := by decide +kernel
theorem dX4_couldBear_31 : decode cX4_couldBear 31 = .ok (.aload_n 1, 1) := by decide +kernel
theorem dX4_couldBear_32 : decode cX4_couldBear 32 = .ok (.getfield 21, 3) := by decide +kernel
theorem dX4_couldBear_35 : decode cX4_couldBear 35 = .ok (.iload 4, 2) := by decide +kernel
theorem dX4_couldBear_37 : decode cX4_couldBear 37 = .ok (.iload 5, 2) := by decide +kernel
theorem dX4_couldBear_39 : decode cX4_couldBear 39 = .ok (.invokestatic 26, 3) := by decide +kernel
theorem dX4_couldBear_42 : decode cX4_couldBear 42 = .ok (.iaload, 1) := by decide +kernel
theorem dX4_couldBear_43 : decode cX4_couldBear 43 = .ok (.if_icmp .eq 5, 3) := by decide +kernel
theorem dX4_couldBear_46 : decode cX4_couldBear 46 = .ok (.iconst 0, 1) := by decide +kernel
theorem dX4_couldBear_47 : decode cX4_couldBear 47 = .ok (.ireturn, 1) := by decide +kernel
theorem dX4_couldBear_48 : decode cX4_couldBear 48 = .ok (.iinc 5 1, 3) := by decide +kernel
theorem dX4_couldBear_51 : decode cX4_couldBear 51 = .ok (.goto (-34), 3) := by decide +kernel
theorem dX4_couldBear_54 : decode cX4_couldBear 54 = .ok (.iconst 1, 1) := by decide +kernel
theorem dX4_couldBear_55 : decode cX4_couldBear 55 = .ok (.ireturn, 1) := by decide +kernel
theorem dX4_pairsFor_0 : decode cX4_pairsFor 0 = .ok (.iconst 0, 1) := by decide +kernel
theorem dX4_pairsFor_1 : decode cX4_pairsFor 1 = .ok (.istore_n 3, 1) := by decide +kernel
theorem dX4_pairsFor_2 : decode cX4_pairsFor 2 = .ok (.iconst 0, 1) := by decide +kernel
theorem dX4_pairsFor_3 : decode cX4_pairsFor 3 = .ok (.istore 4, 2) := by decide +kernel
theorem dX4_pairsFor_5 : decode cX4_pairsFor 5 = .ok (.iload 4, 2) := by decide +kernel
theorem dX4_pairsFor_7 : decode cX4_pairsFor 7 = .ok (.aload_n 1, 1) := by decide +kernel
theorem dX4_pairsFor_8 : decode cX4_pairsFor 8 = .ok (.getfield 52, 3) := by decide +kernel
theorem dX4_pairsFor_11 : decode cX4_pairsFor 11 = .ok (.if_icmp .ge 46, 3) := by decide +kernel
theorem dX4_pairsFor_14 : decode cX4_pairsFor 14 = .ok (.iload 4, 2) := by decide +kernel
theorem dX4_pairsFor_16 : decode cX4_pairsFor 16 = .ok (.iconst 1, 1) := by decide +kernel
theorem dX4_pairsFor_17 : decode cX4_pairsFor 17 = .ok (.iadd, 1) := by decide +kernel
theorem dX4_pairsFor_18 : decode cX4_pairsFor 18 = .ok (.istore 5, 2) := by decide +kernel
theorem dX4_pairsFor_20 : decode cX4_pairsFor 20 = .ok (.iload 5, 2) := by decide +kernel
theorem dX4_pairsFor_22 : decode cX4_pairsFor 22 = .ok (.aload_n 1, 1) := by decide +kernel
theorem dX4_pairsFor_23 : decode cX4_pairsFor 23 = .ok (.getfield 52, 3) := by decide +kernel
theorem dX4_pairsFor_26 : decode cX4_pairsFor 26 = .ok (.if_icmp .ge 25, 3) := by decide +kernel
theorem dX4_pairsFor_29 : decode cX4_pairsFor 29 = .ok (.iload_n 3, 1) := by decide +kernel
theorem dX4_pairsFor_30 : decode cX4_pairsFor 30 = .ok (.aload_n 0, 1) := by decide +kernel
theorem dX4_pairsFor_31 : decode cX4_pairsFor 31 = .ok (.aload_n 1, 1) := by decide +kernel
theorem dX4_pairsFor_32 : decode cX4_pairsFor 32 = .ok (.iload 4, 2) := by decide +kernel
theorem dX4_pairsFor_34 : decode cX4_pairsFor 34 = .ok (.iload 5, 2) := by decide +kernel
theorem dX4_pairsFor_36 : decode cX4_pairsFor 36 = .ok (.iload_n 2, 1) := by decide +kernel
theorem dX4_pairsFor_37 : decode cX4_pairsFor 37 = .ok (.invokevirtual 62, 3) := by decide +kernel
theorem dX4_pairsFor_40 : decode cX4_pairsFor 40 = .ok (.invokestatic 66, 3) := by decide +kernel
theorem dX4_pairsFor_43 : decode cX4_pairsFor 43 = .ok (.iadd, 1) := by decide +kernel
theorem dX4_pairsFor_44 : decode cX4_pairsFor 44 = .ok (.istore_n 3, 1) := by decide +kernel
theorem dX4_pairsFor_45 : decode cX4_pairsFor 45 = .ok (.iinc 5 1, 3) := by decide +kernel
theorem dX4_pairsFor_48 : decode cX4_pairsFor 48 = .ok (.goto (-28), 3) := by decide +kernel
theorem dX4_pairsFor_51 : decode cX4_pairsFor 51 = .ok (.iinc 4 1, 3) := by decide +kernel
theorem dX4_pairsFor_54 : decode cX4_pairsFor 54 = .ok (.goto (-49), 3) := by decide +kernel
theorem dX4_pairsFor_57 : decode cX4_pairsFor 57 = .ok (.iload_n 3, 1) := by decide +kernel
theorem dX4_pairsFor_58 : decode cX4_pairsFor 58 = .ok (.ireturn, 1) := by decide +kernel
theorem dX4_firstPairFor_0 : decode cX4_firstPairFor 0 = .ok (.iconst 0, 1) := by decide +kernel
theorem dX4_firstPairFor_1 : decode cX4_firstPairFor 1 = .ok (.istore_n 3, 1) := by decide +kernel
theorem dX4_firstPairFor_2 : decode cX4_firstPairFor 2 = .ok (.iload_n 3, 1) := by decide +kernel
theorem dX4_firstPairFor_3 : decode cX4_firstPairFor 3 = .ok (.aload_n 1, 1) := by decide +kernel
theorem dX4_firstPairFor_4 : decode cX4_firstPairFor 4 = .ok (.getfield 52, 3) := by decide +kernel
theorem dX4_firstPairFor_7 : decode cX4_firstPairFor 7 = .ok (.if_icmp .ge 48, 3) := by decide +kernel
theorem dX4_firstPairFor_10 : decode cX4_firstPairFor 10 = .ok (.iload_n 3, 1) := by decide +kernel
theorem dX4_firstPairFor_11 : decode cX4_firstPairFor 11 = .ok (.iconst 1, 1) := by decide +kernel
theorem dX4_firstPairFor_12 : decode cX4_firstPairFor 12 = .ok (.iadd, 1) := by decide +kernel
theorem dX4_firstPairFor_13 : decode cX4_firstPairFor 13 = .ok (.istore 4, 2) := by decide +kernel
theorem dX4_firstPairFor_15 : decode cX4_firstPairFor 15 = .ok (.iload 4, 2) := by decide +kernel
theorem dX4_firstPairFor_17 : decode cX4_firstPairFor 17 = .ok (.aload_n 1, 1) := by decide +kernel
theorem dX4_firstPairFor_18 : decode cX4_firstPairFor 18 = .ok (.getfield 52, 3) := by decide +kernel
theorem dX4_firstPairFor_21 : decode cX4_firstPairFor 21 = .ok (.if_icmp .ge 28, 3) := by decide +kernel
theorem dX4_firstPairFor_24 : decode cX4_firstPairFor 24 = .ok (.aload_n 0, 1) := by decide +kernel
theorem dX4_firstPairFor_25 : decode cX4_firstPairFor 25 = .ok (.aload_n 1, 1) := by decide +kernel
theorem dX4_firstPairFor_26 : decode cX4_firstPairFor 26 = .ok (.iload_n 3, 1) := by decide +kernel
theorem dX4_firstPairFor_27 : decode cX4_firstPairFor 27 = .ok (.iload 4, 2) := by decide +kernel
theorem dX4_firstPairFor_29 : decode cX4_firstPairFor 29 = .ok (.iload_n 2, 1) := by decide +kernel
theorem dX4_firstPairFor_30 : decode cX4_firstPairFor 30 = .ok (.invokevirtual 62, 3) := by decide +kernel
theorem dX4_firstPairFor_33 : decode cX4_firstPairFor 33 = .ok (.ifCond .eq 10, 3) := by decide +kernel
theorem dX4_firstPairFor_36 : decode cX4_firstPairFor 36 = .ok (.iload_n 3, 1) := by decide +kernel
theorem dX4_firstPairFor_37 : decode cX4_firstPairFor 37 = .ok (.iload 4, 2) := by decide +kernel
theorem dX4_firstPairFor_39 : decode cX4_firstPairFor 39 = .ok (.invokestatic 70, 3) := by decide +kernel
theorem dX4_firstPairFor_42 : decode cX4_firstPairFor 42 = .ok (.ireturn, 1) := by decide +kernel
theorem dX4_firstPairFor_43 : decode cX4_firstPairFor 43 = .ok (.iinc 4 1, 3) := by decide +kernel
theorem dX4_firstPairFor_46 : decode cX4_firstPairFor 46 = .ok (.goto (-31), 3) := by decide +kernel
theorem dX4_firstPairFor_49 : decode cX4_firstPairFor 49 = .ok (.iinc 3 1, 3) := by decide +kernel
theorem dX4_firstPairFor_52 : decode cX4_firstPairFor 52 = .ok (.goto (-50), 3) := by decide +kernel
theorem dX4_firstPairFor_55 : decode cX4_firstPairFor 55 = .ok (.iconst (-1), 1) := by decide +kernel
theorem dX4_firstPairFor_56 : decode cX4_firstPairFor 56 = .ok (.ireturn, 1) := by decide +kernel
theorem dX4_pairsBelow_0 : decode cX4_pairsBelow 0 = .ok (.iconst 0, 1) := by decide +kernel
theorem dX4_pairsBelow_1 : decode cX4_pairsBelow 1 = .ok (.istore_n 3, 1) := by decide +kernel
theorem dX4_pairsBelow_2 : decode cX4_pairsBelow 2 = .ok (.iconst 0, 1) := by decide +kernel
theorem dX4_pairsBelow_3 : decode cX4_pairsBelow 3 = .ok (.istore 4, 2) := by decide +kernel
theorem dX4_pairsBelow_5 : decode cX4_pairsBelow 5 = .ok (.iload 4, 2) := by decide +kernel
theorem dX4_pairsBelow_7 : decode cX4_pairsBelow 7 = .ok (.aload_n 1, 1) := by decide +kernel
theorem dX4_pairsBelow_8 : decode cX4_pairsBelow 8 = .ok (.getfield 52, 3) := by decide +kernel
theorem dX4_pairsBelow_11 : decode cX4_pairsBelow 11 = .ok (.if_icmp .ge 53, 3) := by decide +kernel
theorem dX4_pairsBelow_14 : decode cX4_pairsBelow 14 = .ok (.iload 4, 2) := by decide +kernel
theorem dX4_pairsBelow_16 : decode cX4_pairsBelow 16 = .ok (.iconst 1, 1) := by decide +kernel
theorem dX4_pairsBelow_17 : decode cX4_pairsBelow 17 = .ok (.iadd, 1) := by decide +kernel
theorem dX4_pairsBelow_18 : decode cX4_pairsBelow 18 = .ok (.istore 5, 2) := by decide +kernel
theorem dX4_pairsBelow_20 : decode cX4_pairsBelow 20 = .ok (.iload 5, 2) := by decide +kernel
theorem dX4_pairsBelow_22 : decode cX4_pairsBelow 22 = .ok (.aload_n 1, 1) := by decide +kernel
theorem dX4_pairsBelow_23 : decode cX4_pairsBelow 23 = .ok (.getfield 52, 3) := by decide +kernel
theorem dX4_pairsBelow_26 : decode cX4_pairsBelow 26 = .ok (.if_icmp .ge 32, 3) := by decide +kernel
theorem dX4_pairsBelow_29 : decode cX4_pairsBelow 29 = .ok (.iload_n 3, 1) := by decide +kernel
theorem dX4_pairsBelow_30 : decode cX4_pairsBelow 30 = .ok (.aload_n 1, 1) := by decide +kernel
theorem dX4_pairsBelow_31 : decode cX4_pairsBelow 31 = .ok (.iload 4, 2) := by decide +kernel
theorem dX4_pairsBelow_33 : decode cX4_pairsBelow 33 = .ok (.iload 5, 2) := by decide +kernel
theorem dX4_pairsBelow_35 : decode cX4_pairsBelow 35 = .ok (.invokevirtual 73, 3) := by decide +kernel
theorem dX4_pairsBelow_38 : decode cX4_pairsBelow 38 = .ok (.iload_n 2, 1) := by decide +kernel
theorem dX4_pairsBelow_39 : decode cX4_pairsBelow 39 = .ok (.if_icmp .ge 7, 3) := by decide +kernel
theorem dX4_pairsBelow_42 : decode cX4_pairsBelow 42 = .ok (.iconst 1, 1) := by decide +kernel
theorem dX4_pairsBelow_43 : decode cX4_pairsBelow 43 = .ok (.goto 4, 3) := by decide +kernel
theorem dX4_pairsBelow_46 : decode cX4_pairsBelow 46 = .ok (.iconst 0, 1) := by decide +kernel
theorem dX4_pairsBelow_47 : decode cX4_pairsBelow 47 = .ok (.invokestatic 66, 3) := by decide +kernel
theorem dX4_pairsBelow_50 : decode cX4_pairsBelow 50 = .ok (.iadd, 1) := by decide +kernel
theorem dX4_pairsBelow_51 : decode cX4_pairsBelow 51 = .ok (.istore_n 3, 1) := by decide +kernel
theorem dX4_pairsBelow_52 : decode cX4_pairsBelow 52 = .ok (.iinc 5 1, 3) := by decide +kernel
theorem dX4_pairsBelow_55 : decode cX4_pairsBelow 55 = .ok (.goto (-35), 3) := by decide +kernel
theorem dX4_pairsBelow_58 : decode cX4_pairsBelow 58 = .ok (.iinc 4 1, 3) := by decide +kernel
theorem dX4_pairsBelow_61 : decode cX4_pairsBelow 61 = .ok (.goto (-56), 3) := by decide +kernel
theorem dX4_pairsBelow_64 : decode cX4_pairsBelow 64 = .ok (.iload_n 3, 1) := by decide +kernel
theorem dX4_pairsBelow_65 : decode cX4_pairsBelow 65 = .ok (.ireturn, 1) := by decide +kernel
theorem dX4_fewestPayments_0 : decode cX4_fewestPayments 0 = .ok (.iconst 0, 1) := by decide +kernel
theorem dX4_fewestPayments_1 : decode cX4_fewestPayments 1 = .ok (.istore_n 2, 1) := by decide +kernel
theorem dX4_fewestPayments_2 : decode cX4_fewestPayments 2 = .ok (.iload_n 2, 1) := by decide +kernel
theorem dX4_fewestPayments_3 : decode cX4_fewestPayments 3 = .ok (.aload_n 1, 1) := by decide +kernel
theorem dX4_fewestPayments_4 : decode cX4_fewestPayments 4 = .ok (.getfield 52, 3) := by decide +kernel
theorem dX4_fewestPayments_7 : decode cX4_fewestPayments 7 = .ok (.if_icmp .ge 52, 3) := by decide +kernel
theorem dX4_fewestPayments_10 : decode cX4_fewestPayments 10 = .ok (.aload_n 1, 1) := by decide +kernel
theorem dX4_fewestPayments_11 : decode cX4_fewestPayments 11 = .ok (.iload_n 2, 1) := by decide +kernel
theorem dX4_fewestPayments_12 : decode cX4_fewestPayments 12 = .ok (.invokevirtual 76, 3) := by decide +kernel
theorem dX4_fewestPayments_15 : decode cX4_fewestPayments 15 = .ok (.istore_n 3, 1) := by decide +kernel
theorem dX4_fewestPayments_16 : decode cX4_fewestPayments 16 = .ok (.iconst 0, 1) := by decide +kernel
theorem dX4_fewestPayments_17 : decode cX4_fewestPayments 17 = .ok (.istore 4, 2) := by decide +kernel
theorem dX4_fewestPayments_19 : decode cX4_fewestPayments 19 = .ok (.iload 4, 2) := by decide +kernel
theorem dX4_fewestPayments_21 : decode cX4_fewestPayments 21 = .ok (.iconst 1, 1) := by decide +kernel
theorem dX4_fewestPayments_22 : decode cX4_fewestPayments 22 = .ok (.iload_n 2, 1) := by decide +kernel
theorem dX4_fewestPayments_23 : decode cX4_fewestPayments 23 = .ok (.ishl, 1) := by decide +kernel
theorem dX4_fewestPayments_24 : decode cX4_fewestPayments 24 = .ok (.if_icmp .ge 29, 3) := by decide +kernel
theorem dX4_fewestPayments_27 : decode cX4_fewestPayments 27 = .ok (.aload_n 0, 1) := by decide +kernel
theorem dX4_fewestPayments_28 : decode cX4_fewestPayments 28 = .ok (.getfield 15, 3) := by decide +kernel
theorem dX4_fewestPayments_31 : decode cX4_fewestPayments 31 = .ok (.iload 4, 2) := by decide +kernel
theorem dX4_fewestPayments_33 : decode cX4_fewestPayments 33 = .ok (.iconst 1, 1) := by decide +kernel
theorem dX4_fewestPayments_34 : decode cX4_fewestPayments 34 = .ok (.iload_n 2, 1) := by decide +kernel
theorem dX4_fewestPayments_35 : decode cX4_fewestPayments 35 = .ok (.ishl, 1) := by decide +kernel
theorem dX4_fewestPayments_36 : decode cX4_fewestPayments 36 = .ok (.ior, 1) := by decide +kernel
theorem dX4_fewestPayments_37 : decode cX4_fewestPayments 37 = .ok (.aload_n 0, 1) := by decide +kernel
theorem dX4_fewestPayments_38 : decode cX4_fewestPayments 38 = .ok (.getfield 15, 3) := by decide +kernel
theorem dX4_fewestPayments_41 : decode cX4_fewestPayments 41 = .ok (.iload 4, 2) := by decide +kernel
theorem dX4_fewestPayments_43 : decode cX4_fewestPayments 43 = .ok (.iaload, 1) := by decide +kernel
theorem dX4_fewestPayments_44 : decode cX4_fewestPayments 44 = .ok (.iload_n 3, 1) := by decide +kernel
theorem dX4_fewestPayments_45 : decode cX4_fewestPayments 45 = .ok (.iadd, 1) := by decide +kernel
theorem dX4_fewestPayments_46 : decode cX4_fewestPayments 46 = .ok (.iastore, 1) := by decide +kernel
theorem dX4_fewestPayments_47 : decode cX4_fewestPayments 47 = .ok (.iinc 4 1, 3) := by decide +kernel
theorem dX4_fewestPayments_50 : decode cX4_fewestPayments 50 = .ok (.goto (-31), 3) := by decide +kernel
theorem dX4_fewestPayments_53 : decode cX4_fewestPayments 53 = .ok (.iinc 2 1, 3) := by decide +kernel
theorem dX4_fewestPayments_56 : decode cX4_fewestPayments 56 = .ok (.goto (-54), 3) := by decide +kernel
theorem dX4_fewestPayments_59 : decode cX4_fewestPayments 59 = .ok (.iconst 1, 1) := by decide +kernel
theorem dX4_fewestPayments_60 : decode cX4_fewestPayments 60 = .ok (.aload_n 1, 1) := by decide +kernel
theorem dX4_fewestPayments_61 : decode cX4_fewestPayments 61 = .ok (.getfield 52, 3) := by decide +kernel
theorem dX4_fewestPayments_64 : decode cX4_fewestPayments 64 = .ok (.ishl, 1) := by decide +kernel
theorem dX4_fewestPayments_65 : decode cX4_fewestPayments 65 = .ok (.istore_n 2, 1) := by decide +kernel
theorem dX4_fewestPayments_66 : decode cX4_fewestPayments 66 = .ok (.iconst 1, 1) := by decide +kernel
theorem dX4_fewestPayments_67 : decode cX4_fewestPayments 67 = .ok (.istore_n 3, 1) := by decide +kernel
theorem dX4_fewestPayments_68 : decode cX4_fewestPayments 68 = .ok (.iload_n 3, 1) := by decide +kernel
theorem dX4_fewestPayments_69 : decode cX4_fewestPayments 69 = .ok (.iload_n 2, 1) := by decide +kernel
theorem dX4_fewestPayments_70 : decode cX4_fewestPayments 70 = .ok (.if_icmp .ge 84, 3) := by decide +kernel
theorem dX4_fewestPayments_73 : decode cX4_fewestPayments 73 = .ok (.iconst 0, 1) := by decide +kernel
theorem dX4_fewestPayments_74 : decode cX4_fewestPayments 74 = .ok (.istore 4, 2) := by decide +kernel
theorem dX4_fewestPayments_76 : decode cX4_fewestPayments 76 = .ok (.iconst 0, 1) := by decide +kernel
theorem dX4_fewestPayments_77 : decode cX4_fewestPayments 77 = .ok (.istore 5, 2) := by decide +kernel
theorem dX4_fewestPayments_79 : decode cX4_fewestPayments 79 = .ok (.iload 5, 2) := by decide +kernel
theorem dX4_fewestPayments_81 : decode cX4_fewestPayments 81 = .ok (.aload_n 1, 1) := by decide +kernel
theorem dX4_fewestPayments_82 : decode cX4_fewestPayments 82 = .ok (.getfield 52, 3) := by decide +kernel
theorem dX4_fewestPayments_85 : decode cX4_fewestPayments 85 = .ok (.if_icmp .ge 37, 3) := by decide +kernel
theorem dX4_fewestPayments_88 : decode cX4_fewestPayments 88 = .ok (.iload_n 3, 1) := by decide +kernel
theorem dX4_fewestPayments_89 : decode cX4_fewestPayments 89 = .ok (.iload 5, 2) := by decide +kernel
theorem dX4_fewestPayments_91 : decode cX4_fewestPayments 91 = .ok (.ishr, 1) := by decide +kernel
theorem dX4_fewestPayments_92 : decode cX4_fewestPayments 92 = .ok (.iconst 1, 1) := by decide +kernel
theorem dX4_fewestPayments_93 : decode cX4_fewestPayments 93 = .ok (.iand, 1) := by decide +kernel
theorem dX4_fewestPayments_94 : decode cX4_fewestPayments 94 = .ok (.iconst 1, 1) := by decide +kernel
theorem dX4_fewestPayments_95 : decode cX4_fewestPayments 95 = .ok (.if_icmp .ne 21, 3) := by decide +kernel
theorem dX4_fewestPayments_98 : decode cX4_fewestPayments 98 = .ok (.iload 4, 2) := by decide +kernel
theorem dX4_fewestPayments_100 : decode cX4_fewestPayments 100 = .ok (.aload_n 0, 1) := by decide +kernel
theorem dX4_fewestPayments_101 : decode cX4_fewestPayments 101 = .ok (.getfield 18, 3) := by decide +kernel
theorem dX4_fewestPayments_104 : decode cX4_fewestPayments 104 = .ok (.iload_n 3, 1) := by decide +kernel
theorem dX4_fewestPayments_105 : decode cX4_fewestPayments 105 = .ok (.iconst 1, 1) := by decide +kernel
theorem dX4_fewestPayments_106 : decode cX4_fewestPayments 106 = .ok (.iload 5, 2) := by decide +kernel
theorem dX4_fewestPayments_108 : decode cX4_fewestPayments 108 = .ok (.ishl, 1) := by decide +kernel
theorem dX4_fewestPayments_109 : decode cX4_fewestPayments 109 = .ok (.ixor, 1) := by decide +kernel
theorem dX4_fewestPayments_110 : decode cX4_fewestPayments 110 = .ok (.iaload, 1) := by decide +kernel
theorem dX4_fewestPayments_111 : decode cX4_fewestPayments 111 = .ok (.invokestatic 80, 3) := by decide +kernel
theorem dX4_fewestPayments_114 : decode cX4_fewestPayments 114 = .ok (.istore 4, 2) := by decide +kernel
theorem dX4_fewestPayments_116 : decode cX4_fewestPayments 116 = .ok (.iinc 5 1, 3) := by decide +kernel
theorem dX4_fewestPayments_119 : decode cX4_fewestPayments 119 = .ok (.goto (-40), 3) := by decide +kernel
theorem dX4_fewestPayments_122 : decode cX4_fewestPayments 122 = .ok (.aload_n 0, 1) := by decide +kernel
theorem dX4_fewestPayments_123 : decode cX4_fewestPayments 123 = .ok (.getfield 18, 3) := by decide +kernel
theorem dX4_fewestPayments_126 : decode cX4_fewestPayments 126 = .ok (.iload_n 3, 1) := by decide +kernel
theorem dX4_fewestPayments_127 : decode cX4_fewestPayments 127 = .ok (.iload 4, 2) := by decide +kernel
theorem dX4_fewestPayments_129 : decode cX4_fewestPayments 129 = .ok (.aload_n 0, 1) := by decide +kernel
theorem dX4_fewestPayments_130 : decode cX4_fewestPayments 130 = .ok (.getfield 15, 3) := by decide +kernel
theorem dX4_fewestPayments_133 : decode cX4_fewestPayments 133 = .ok (.iload_n 3, 1) := by decide +kernel
theorem dX4_fewestPayments_134 : decode cX4_fewestPayments 134 = .ok (.iaload, 1) := by decide +kernel
theorem dX4_fewestPayments_135 : decode cX4_fewestPayments 135 = .ok (.ifCond .ne 7, 3) := by decide +kernel
theorem dX4_fewestPayments_138 : decode cX4_fewestPayments 138 = .ok (.iconst 1, 1) := by decide +kernel
theorem dX4_fewestPayments_139 : decode cX4_fewestPayments 139 = .ok (.goto 4, 3) := by decide +kernel
theorem dX4_fewestPayments_142 : decode cX4_fewestPayments 142 = .ok (.iconst 0, 1) := by decide +kernel
theorem dX4_fewestPayments_143 : decode cX4_fewestPayments 143 = .ok (.invokestatic 66, 3) := by decide +kernel
theorem dX4_fewestPayments_146 : decode cX4_fewestPayments 146 = .ok (.iadd, 1) := by decide +kernel
theorem dX4_fewestPayments_147 : decode cX4_fewestPayments 147 = .ok (.iastore, 1) := by decide +kernel
theorem dX4_fewestPayments_148 : decode cX4_fewestPayments 148 = .ok (.iinc 3 1, 3) := by decide +kernel
theorem dX4_fewestPayments_151 : decode cX4_fewestPayments 151 = .ok (.goto (-83), 3) := by decide +kernel
theorem dX4_fewestPayments_154 : decode cX4_fewestPayments 154 = .ok (.aload_n 1, 1) := by decide +kernel
theorem dX4_fewestPayments_155 : decode cX4_fewestPayments 155 = .ok (.getfield 52, 3) := by decide +kernel
theorem dX4_fewestPayments_158 : decode cX4_fewestPayments 158 = .ok (.aload_n 0, 1) := by decide +kernel
theorem dX4_fewestPayments_159 : decode cX4_fewestPayments 159 = .ok (.getfield 18, 3) := by decide +kernel
theorem dX4_fewestPayments_162 : decode cX4_fewestPayments 162 = .ok (.iload_n 2, 1) := by decide +kernel
theorem dX4_fewestPayments_163 : decode cX4_fewestPayments 163 = .ok (.iconst 1, 1) := by decide +kernel
theorem dX4_fewestPayments_164 : decode cX4_fewestPayments 164 = .ok (.isub, 1) := by decide +kernel
theorem dX4_fewestPayments_165 : decode cX4_fewestPayments 165 = .ok (.iaload, 1) := by decide +kernel
theorem dX4_fewestPayments_166 : decode cX4_fewestPayments 166 = .ok (.isub, 1) := by decide +kernel
theorem dX4_fewestPayments_167 : decode cX4_fewestPayments 167 = .ok (.ireturn, 1) := by decide +kernel
theorem dX4_fitsSet_0 : decode cX4_fitsSet 0 = .ok (.iconst 0, 1) := by decide +kernel
theorem dX4_fitsSet_1 : decode cX4_fitsSet 1 = .ok (.istore 4, 2) := by decide +kernel
theorem dX4_fitsSet_3 : decode cX4_fitsSet 3 = .ok (.iload 4, 2) := by decide +kernel
theorem dX4_fitsSet_5 : decode cX4_fitsSet 5 = .ok (.aload_n 2, 1) := by decide +kernel
theorem dX4_fitsSet_6 : decode cX4_fitsSet 6 = .ok (.getfield 85, 3) := by decide +kernel
theorem dX4_fitsSet_9 : decode cX4_fitsSet 9 = .ok (.if_icmp .ge 77, 3) := by decide +kernel
theorem dX4_fitsSet_12 : decode cX4_fitsSet 12 = .ok (.iload 4, 2) := by decide +kernel
theorem dX4_fitsSet_14 : decode cX4_fitsSet 14 = .ok (.iconst 5, 1) := by decide +kernel
theorem dX4_fitsSet_15 : decode cX4_fitsSet 15 = .ok (.if_icmp .ge 71, 3) := by decide +kernel
theorem dX4_fitsSet_18 : decode cX4_fitsSet 18 = .ok (.iconst 0, 1) := by decide +kernel
theorem dX4_fitsSet_19 : decode cX4_fitsSet 19 = .ok (.istore 5, 2) := by decide +kernel
theorem dX4_fitsSet_21 : decode cX4_fitsSet 21 = .ok (.iconst 0, 1) := by decide +kernel
theorem dX4_fitsSet_22 : decode cX4_fitsSet 22 = .ok (.istore 6, 2) := by decide +kernel
theorem dX4_fitsSet_24 : decode cX4_fitsSet 24 = .ok (.iload 6, 2) := by decide +kernel
theorem dX4_fitsSet_26 : decode cX4_fitsSet 26 = .ok (.aload_n 1, 1) := by decide +kernel
theorem dX4_fitsSet_27 : decode cX4_fitsSet 27 = .ok (.getfield 52, 3) := by decide +kernel
theorem dX4_fitsSet_30 : decode cX4_fitsSet 30 = .ok (.if_icmp .ge 36, 3) := by decide +kernel
theorem dX4_fitsSet_33 : decode cX4_fitsSet 33 = .ok (.iload_n 3, 1) := by decide +kernel
theorem dX4_fitsSet_34 : decode cX4_fitsSet 34 = .ok (.iload 6, 2) := by decide +kernel
theorem dX4_fitsSet_36 : decode cX4_fitsSet 36 = .ok (.ishr, 1) := by decide +kernel
theorem dX4_fitsSet_37 : decode cX4_fitsSet 37 = .ok (.iconst 1, 1) := by decide +kernel
theorem dX4_fitsSet_38 : decode cX4_fitsSet 38 = .ok (.iand, 1) := by decide +kernel
theorem dX4_fitsSet_39 : decode cX4_fitsSet 39 = .ok (.iconst 1, 1) := by decide +kernel
theorem dX4_fitsSet_40 : decode cX4_fitsSet 40 = .ok (.if_icmp .ne 20, 3) := by decide +kernel
theorem dX4_fitsSet_43 : decode cX4_fitsSet 43 = .ok (.iload 5, 2) := by decide +kernel
theorem dX4_fitsSet_45 : decode cX4_fitsSet 45 = .ok (.aload_n 1, 1) := by decide +kernel
theorem dX4_fitsSet_46 : decode cX4_fitsSet 46 = .ok (.getfield 21, 3) := by decide +kernel
theorem dX4_fitsSet_49 : decode cX4_fitsSet 49 = .ok (.iload 6, 2) := by decide +kernel
theorem dX4_fitsSet_51 : decode cX4_fitsSet 51 = .ok (.iload 4, 2) := by decide +kernel
theorem dX4_fitsSet_53 : decode cX4_fitsSet 53 = .ok (.invokestatic 26, 3) := by decide +kernel
theorem dX4_fitsSet_56 : decode cX4_fitsSet 56 = .ok (.iaload, 1) := by decide +kernel
theorem dX4_fitsSet_57 : decode cX4_fitsSet 57 = .ok (.iadd, 1) := by decide +kernel
theorem dX4_fitsSet_58 : decode cX4_fitsSet 58 = .ok (.istore 5, 2) := by decide +kernel
theorem dX4_fitsSet_60 : decode cX4_fitsSet 60 = .ok (.iinc 6 1, 3) := by decide +kernel
theorem dX4_fitsSet_63 : decode cX4_fitsSet 63 = .ok (.goto (-39), 3) := by decide +kernel
theorem dX4_fitsSet_66 : decode cX4_fitsSet 66 = .ok (.iload 5, 2) := by decide +kernel
theorem dX4_fitsSet_68 : decode cX4_fitsSet 68 = .ok (.aload_n 2, 1) := by decide +kernel
theorem dX4_fitsSet_69 : decode cX4_fitsSet 69 = .ok (.getfield 90, 3) := by decide +kernel
theorem dX4_fitsSet_72 : decode cX4_fitsSet 72 = .ok (.iload 4, 2) := by decide +kernel
theorem dX4_fitsSet_74 : decode cX4_fitsSet 74 = .ok (.iaload, 1) := by decide +kernel
theorem dX4_fitsSet_75 : decode cX4_fitsSet 75 = .ok (.if_icmp .eq 5, 3) := by decide +kernel
theorem dX4_fitsSet_78 : decode cX4_fitsSet 78 = .ok (.iconst 0, 1) := by decide +kernel
theorem dX4_fitsSet_79 : decode cX4_fitsSet 79 = .ok (.ireturn, 1) := by decide +kernel
theorem dX4_fitsSet_80 : decode cX4_fitsSet 80 = .ok (.iinc 4 1, 3) := by decide +kernel
theorem dX4_fitsSet_83 : decode cX4_fitsSet 83 = .ok (.goto (-80), 3) := by decide +kernel
theorem dX4_fitsSet_86 : decode cX4_fitsSet 86 = .ok (.iconst 1, 1) := by decide +kernel
theorem dX4_fitsSet_87 : decode cX4_fitsSet 87 = .ok (.ireturn, 1) := by decide +kernel
theorem dX4_setsThatFit_0 : decode cX4_setsThatFit 0 = .ok (.iconst 0, 1) := by decide +kernel
theorem dX4_setsThatFit_1 : decode cX4_setsThatFit 1 = .ok (.istore_n 3, 1) := by decide +kernel
theorem dX4_setsThatFit_2 : decode cX4_setsThatFit 2 = .ok (.iconst 1, 1) := by decide +kernel
theorem dX4_setsThatFit_3 : decode cX4_setsThatFit 3 = .ok (.istore 4, 2) := by decide +kernel
theorem dX4_setsThatFit_5 : decode cX4_setsThatFit 5 = .ok (.iload 4, 2) := by decide +kernel
theorem dX4_setsThatFit_7 : decode cX4_setsThatFit 7 = .ok (.iconst 1, 1) := by decide +kernel
theorem dX4_setsThatFit_8 : decode cX4_setsThatFit 8 = .ok (.aload_n 1, 1) := by decide +kernel
theorem dX4_setsThatFit_9 : decode cX4_setsThatFit 9 = .ok (.getfield 52, 3) := by decide +kernel
theorem dX4_setsThatFit_12 : decode cX4_setsThatFit 12 = .ok (.ishl, 1) := by decide +kernel
theorem dX4_setsThatFit_13 : decode cX4_setsThatFit 13 = .ok (.if_icmp .ge 23, 3) := by decide +kernel
theorem dX4_setsThatFit_16 : decode cX4_setsThatFit 16 = .ok (.iload_n 3, 1) := by decide +kernel
theorem dX4_setsThatFit_17 : decode cX4_setsThatFit 17 = .ok (.aload_n 0, 1) := by decide +kernel
theorem dX4_setsThatFit_18 : decode cX4_setsThatFit 18 = .ok (.aload_n 1, 1) := by decide +kernel
theorem dX4_setsThatFit_19 : decode cX4_setsThatFit 19 = .ok (.aload_n 2, 1) := by decide +kernel
theorem dX4_setsThatFit_20 : decode cX4_setsThatFit 20 = .ok (.iload 4, 2) := by decide +kernel
theorem dX4_setsThatFit_22 : decode cX4_setsThatFit 22 = .ok (.invokevirtual 93, 3) := by decide +kernel
theorem dX4_setsThatFit_25 : decode cX4_setsThatFit 25 = .ok (.invokestatic 66, 3) := by decide +kernel
theorem dX4_setsThatFit_28 : decode cX4_setsThatFit 28 = .ok (.iadd, 1) := by decide +kernel
theorem dX4_setsThatFit_29 : decode cX4_setsThatFit 29 = .ok (.istore_n 3, 1) := by decide +kernel
theorem dX4_setsThatFit_30 : decode cX4_setsThatFit 30 = .ok (.iinc 4 1, 3) := by decide +kernel
theorem dX4_setsThatFit_33 : decode cX4_setsThatFit 33 = .ok (.goto (-28), 3) := by decide +kernel
theorem dX4_setsThatFit_36 : decode cX4_setsThatFit 36 = .ok (.iload_n 3, 1) := by decide +kernel
theorem dX4_setsThatFit_37 : decode cX4_setsThatFit 37 = .ok (.ireturn, 1) := by decide +kernel
theorem dX4_leastThatFits_0 : decode cX4_leastThatFits 0 = .ok (.iconst 1, 1) := by decide +kernel
theorem dX4_leastThatFits_1 : decode cX4_leastThatFits 1 = .ok (.istore_n 3, 1) := by decide +kernel
theorem dX4_leastThatFits_2 : decode cX4_leastThatFits 2 = .ok (.iload_n 3, 1) := by decide +kernel
theorem dX4_leastThatFits_3 : decode cX4_leastThatFits 3 = .ok (.iconst 1, 1) := by decide +kernel
theorem dX4_leastThatFits_4 : decode cX4_leastThatFits 4 = .ok (.aload_n 1, 1) := by decide +kernel
theorem dX4_leastThatFits_5 : decode cX4_leastThatFits 5 = .ok (.getfield 52, 3) := by decide +kernel
theorem dX4_leastThatFits_8 : decode cX4_leastThatFits 8 = .ok (.ishl, 1) := by decide +kernel
theorem dX4_leastThatFits_9 : decode cX4_leastThatFits 9 = .ok (.if_icmp .ge 21, 3) := by decide +kernel
theorem dX4_leastThatFits_12 : decode cX4_leastThatFits 12 = .ok (.aload_n 0, 1) := by decide +kernel
theorem dX4_leastThatFits_13 : decode cX4_leastThatFits 13 = .ok (.aload_n 1, 1) := by decide +kernel
theorem dX4_leastThatFits_14 : decode cX4_leastThatFits 14 = .ok (.aload_n 2, 1) := by decide +kernel
theorem dX4_leastThatFits_15 : decode cX4_leastThatFits 15 = .ok (.iload_n 3, 1) := by decide +kernel
theorem dX4_leastThatFits_16 : decode cX4_leastThatFits 16 = .ok (.invokevirtual 93, 3) := by decide +kernel
theorem dX4_leastThatFits_19 : decode cX4_leastThatFits 19 = .ok (.ifCond .eq 5, 3) := by decide +kernel
theorem dX4_leastThatFits_22 : decode cX4_leastThatFits 22 = .ok (.iload_n 3, 1) := by decide +kernel
theorem dX4_leastThatFits_23 : decode cX4_leastThatFits 23 = .ok (.ireturn, 1) := by decide +kernel
theorem dX4_leastThatFits_24 : decode cX4_leastThatFits 24 = .ok (.iinc 3 1, 3) := by decide +kernel
theorem dX4_leastThatFits_27 : decode cX4_leastThatFits 27 = .ok (.goto (-25), 3) := by decide +kernel
theorem dX4_leastThatFits_30 : decode cX4_leastThatFits 30 = .ok (.iconst 0, 1) := by decide +kernel
theorem dX4_leastThatFits_31 : decode cX4_leastThatFits 31 = .ok (.ireturn, 1) := by decide +kernel
theorem dX5_init_0 : decode cX5_init 0 = .ok (.aload_n 0, 1) := by decide +kernel
theorem dX5_init_1 : decode cX5_init 1 = .ok (.invokespecial 3, 3) := by decide +kernel
theorem dX5_init_4 : decode cX5_init 4 = .ok (.aload_n 0, 1) := by decide +kernel
theorem dX5_init_5 : decode cX5_init 5 = .ok (.bipush 8, 2) := by decide +kernel
theorem dX5_init_7 : decode cX5_init 7 = .ok (.newarray .int, 2) := by decide +kernel
theorem dX5_init_9 : decode cX5_init 9 = .ok (.putfield 9, 3) := by decide +kernel
theorem dX5_init_12 : decode cX5_init 12 = .ok (.aload_n 0, 1) := by decide +kernel
theorem dX5_init_13 : decode cX5_init 13 = .ok (.bipush 8, 2) := by decide +kernel
theorem dX5_init_15 : decode cX5_init 15 = .ok (.newarray .int, 2) := by decide +kernel
theorem dX5_init_17 : decode cX5_init 17 = .ok (.putfield 15, 3) := by decide +kernel
theorem dX5_init_20 : decode cX5_init 20 = .ok (.aload_n 0, 1) := by decide +kernel
theorem dX5_init_21 : decode cX5_init 21 = .ok (.bipush 8, 2) := by decide +kernel
theorem dX5_init_23 : decode cX5_init 23 = .ok (.newarray .int, 2) := by decide +kernel
theorem dX5_init_25 : decode cX5_init 25 = .ok (.putfield 18, 3) := by decide +kernel
theorem dX5_init_28 : decode cX5_init 28 = .ok (.aload_n 0, 1) := by decide +kernel
theorem dX5_init_29 : decode cX5_init 29 = .ok (.bipush 8, 2) := by decide +kernel
theorem dX5_init_31 : decode cX5_init 31 = .ok (.newarray .int, 2) := by decide +kernel
theorem dX5_init_33 : decode cX5_init 33 = .ok (.putfield 21, 3) := by decide +kernel
theorem dX5_init_36 : decode cX5_init 36 = .ok (.aload_n 0, 1) := by decide +kernel
theorem dX5_init_37 : decode cX5_init 37 = .ok (.bipush 40, 2) := by decide +kernel
theorem dX5_init_39 : decode cX5_init 39 = .ok (.newarray .int, 2) := by decide +kernel
theorem dX5_init_41 : decode cX5_init 41 = .ok (.putfield 24, 3) := by decide +kernel
theorem dX5_init_44 : decode cX5_init 44 = .ok (.aload_n 0, 1) := by decide +kernel
theorem dX5_init_45 : decode cX5_init 45 = .ok (.bipush 64, 2) := by decide +kernel
theorem dX5_init_47 : decode cX5_init 47 = .ok (.newarray .int, 2) := by decide +kernel
theorem dX5_init_49 : decode cX5_init 49 = .ok (.putfield 27, 3) := by decide +kernel
theorem dX5_init_52 : decode cX5_init 52 = .ok (.aload_n 0, 1) := by decide +kernel
theorem dX5_init_53 : decode cX5_init 53 = .ok (.iconst 1, 1) := by decide +kernel
theorem dX5_init_54 : decode cX5_init 54 = .ok (.putfield 30, 3) := by decide +kernel
theorem dX5_init_57 : decode cX5_init 57 = .ok (.aload_n 0, 1) := by decide +kernel
theorem dX5_init_58 : decode cX5_init 58 = .ok (.bipush 60, 2) := by decide +kernel
theorem dX5_init_60 : decode cX5_init 60 = .ok (.newarray .int, 2) := by decide +kernel
theorem dX5_init_62 : decode cX5_init 62 = .ok (.putfield 34, 3) := by decide +kernel
theorem dX5_init_65 : decode cX5_init 65 = .ok (.aload_n 0, 1) := by decide +kernel
theorem dX5_init_66 : decode cX5_init 66 = .ok (.new 37, 3) := by decide +kernel
theorem dX5_init_69 : decode cX5_init 69 = .ok (.dup, 1) := by decide +kernel
theorem dX5_init_70 : decode cX5_init 70 = .ok (.invokespecial 39, 3) := by decide +kernel
theorem dX5_init_73 : decode cX5_init 73 = .ok (.putfield 40, 3) := by decide +kernel
theorem dX5_init_76 : decode cX5_init 76 = .ok (.aload_n 0, 1) := by decide +kernel
theorem dX5_init_77 : decode cX5_init 77 = .ok (.new 37, 3) := by decide +kernel
theorem dX5_init_80 : decode cX5_init 80 = .ok (.dup, 1) := by decide +kernel
theorem dX5_init_81 : decode cX5_init 81 = .ok (.invokespecial 39, 3) := by decide +kernel
theorem dX5_init_84 : decode cX5_init 84 = .ok (.putfield 44, 3) := by decide +kernel
theorem dX5_init_87 : decode cX5_init 87 = .ok (.aload_n 0, 1) := by decide +kernel
theorem dX5_init_88 : decode cX5_init 88 = .ok (.bipush 24, 2) := by decide +kernel
theorem dX5_init_90 : decode cX5_init 90 = .ok (.newarray .int, 2) := by decide +kernel
theorem dX5_init_92 : decode cX5_init 92 = .ok (.putfield 47, 3) := by decide +kernel
theorem dX5_init_95 : decode cX5_init 95 = .ok (.return_, 1) := by decide +kernel
theorem dX5_copyFrom_0 : decode cX5_copyFrom 0 = .ok (.aload_n 0, 1) := by decide +kernel
theorem dX5_copyFrom_1 : decode cX5_copyFrom 1 = .ok (.aload_n 1, 1) := by decide +kernel
theorem dX5_copyFrom_2 : decode cX5_copyFrom 2 = .ok (.getfield 50, 3) := by decide +kernel
theorem dX5_copyFrom_5 : decode cX5_copyFrom 5 = .ok (.putfield 50, 3) := by decide +kernel
theorem dX5_copyFrom_8 : decode cX5_copyFrom 8 = .ok (.aload_n 1, 1) := by decide +kernel
theorem dX5_copyFrom_9 : decode cX5_copyFrom 9 = .ok (.getfield 9, 3) := by decide +kernel
theorem dX5_copyFrom_12 : decode cX5_copyFrom 12 = .ok (.iconst 0, 1) := by decide +kernel
theorem dX5_copyFrom_13 : decode cX5_copyFrom 13 = .ok (.aload_n 0, 1) := by decide +kernel
theorem dX5_copyFrom_14 : decode cX5_copyFrom 14 = .ok (.getfield 9, 3) := by decide +kernel
theorem dX5_copyFrom_17 : decode cX5_copyFrom 17 = .ok (.iconst 0, 1) := by decide +kernel
theorem dX5_copyFrom_18 : decode cX5_copyFrom 18 = .ok (.bipush 8, 2) := by decide +kernel
theorem dX5_copyFrom_20 : decode cX5_copyFrom 20 = .ok (.invokestatic 53, 3) := by decide +kernel
theorem dX5_copyFrom_23 : decode cX5_copyFrom 23 = .ok (.aload_n 1, 1) := by decide +kernel
theorem dX5_copyFrom_24 : decode cX5_copyFrom 24 = .ok (.getfield 15, 3) := by decide +kernel
theorem dX5_copyFrom_27 : decode cX5_copyFrom 27 = .ok (.iconst 0, 1) := by decide +kernel
theorem dX5_copyFrom_28 : decode cX5_copyFrom 28 = .ok (.aload_n 0, 1) := by decide +kernel
theorem dX5_copyFrom_29 : decode cX5_copyFrom 29 = .ok (.getfield 15, 3) := by decide +kernel
theorem dX5_copyFrom_32 : decode cX5_copyFrom 32 = .ok (.iconst 0, 1) := by decide +kernel
theorem dX5_copyFrom_33 : decode cX5_copyFrom 33 = .ok (.bipush 8, 2) := by decide +kernel
theorem dX5_copyFrom_35 : decode cX5_copyFrom 35 = .ok (.invokestatic 53, 3) := by decide +kernel
theorem dX5_copyFrom_38 : decode cX5_copyFrom 38 = .ok (.aload_n 1, 1) := by decide +kernel
theorem dX5_copyFrom_39 : decode cX5_copyFrom 39 = .ok (.getfield 18, 3) := by decide +kernel
theorem dX5_copyFrom_42 : decode cX5_copyFrom 42 = .ok (.iconst 0, 1) := by decide +kernel
theorem dX5_copyFrom_43 : decode cX5_copyFrom 43 = .ok (.aload_n 0, 1) := by decide +kernel
theorem dX5_copyFrom_44 : decode cX5_copyFrom 44 = .ok (.getfield 18, 3) := by decide +kernel
theorem dX5_copyFrom_47 : decode cX5_copyFrom 47 = .ok (.iconst 0, 1) := by decide +kernel
theorem dX5_copyFrom_48 : decode cX5_copyFrom 48 = .ok (.bipush 8, 2) := by decide +kernel
theorem dX5_copyFrom_50 : decode cX5_copyFrom 50 = .ok (.invokestatic 53, 3) := by decide +kernel
theorem dX5_copyFrom_53 : decode cX5_copyFrom 53 = .ok (.aload_n 1, 1) := by decide +kernel
theorem dX5_copyFrom_54 : decode cX5_copyFrom 54 = .ok (.getfield 21, 3) := by decide +kernel
theorem dX5_copyFrom_57 : decode cX5_copyFrom 57 = .ok (.iconst 0, 1) := by decide +kernel
theorem dX5_copyFrom_58 : decode cX5_copyFrom 58 = .ok (.aload_n 0, 1) := by decide +kernel
theorem dX5_copyFrom_59 : decode cX5_copyFrom 59 = .ok (.getfield 21, 3) := by decide +kernel
theorem dX5_copyFrom_62 : decode cX5_copyFrom 62 = .ok (.iconst 0, 1) := by decide +kernel
theorem dX5_copyFrom_63 : decode cX5_copyFrom 63 = .ok (.bipush 8, 2) := by decide +kernel
theorem dX5_copyFrom_65 : decode cX5_copyFrom 65 = .ok (.invokestatic 53, 3) := by decide +kernel
theorem dX5_copyFrom_68 : decode cX5_copyFrom 68 = .ok (.aload_n 1, 1) := by decide +kernel
theorem dX5_copyFrom_69 : decode cX5_copyFrom 69 = .ok (.getfield 24, 3) := by decide +kernel
theorem dX5_copyFrom_72 : decode cX5_copyFrom 72 = .ok (.iconst 0, 1) := by decide +kernel
theorem dX5_copyFrom_73 : decode cX5_copyFrom 73 = .ok (.aload_n 0, 1) := by decide +kernel
theorem dX5_copyFrom_74 : decode cX5_copyFrom 74 = .ok (.getfield 24, 3) := by decide +kernel
theorem dX5_copyFrom_77 : decode cX5_copyFrom 77 = .ok (.iconst 0, 1) := by decide +kernel
theorem dX5_copyFrom_78 : decode cX5_copyFrom 78 = .ok (.bipush 40, 2) := by decide +kernel
theorem dX5_copyFrom_80 : decode cX5_copyFrom 80 = .ok (.invokestatic 53, 3) := by decide +kernel
theorem dX5_copyFrom_83 : decode cX5_copyFrom 83 = .ok (.aload_n 1, 1) := by decide +kernel
theorem dX5_copyFrom_84 : decode cX5_copyFrom 84 = .ok (.getfield 27, 3) := by decide +kernel
theorem dX5_copyFrom_87 : decode cX5_copyFrom 87 = .ok (.iconst 0, 1) := by decide +kernel
theorem dX5_copyFrom_88 : decode cX5_copyFrom 88 = .ok (.aload_n 0, 1) := by decide +kernel
theorem dX5_copyFrom_89 : decode cX5_copyFrom 89 = .ok (.getfield 27, 3) := by decide +kernel
theorem dX5_copyFrom_92 : decode cX5_copyFrom 92 = .ok (.iconst 0, 1) := by decide +kernel
theorem dX5_copyFrom_93 : decode cX5_copyFrom 93 = .ok (.bipush 64, 2) := by decide +kernel
theorem dX5_copyFrom_95 : decode cX5_copyFrom 95 = .ok (.invokestatic 53, 3) := by decide +kernel
theorem dX5_copyFrom_98 : decode cX5_copyFrom 98 = .ok (.aload_n 0, 1) := by decide +kernel
theorem dX5_copyFrom_99 : decode cX5_copyFrom 99 = .ok (.aload_n 1, 1) := by decide +kernel
theorem dX5_copyFrom_100 : decode cX5_copyFrom 100 = .ok (.getfield 59, 3) := by decide +kernel
theorem dX5_copyFrom_103 : decode cX5_copyFrom 103 = .ok (.putfield 59, 3) := by decide +kernel
theorem dX5_copyFrom_106 : decode cX5_copyFrom 106 = .ok (.aload_n 0, 1) := by decide +kernel
theorem dX5_copyFrom_107 : decode cX5_copyFrom 107 = .ok (.aload_n 1, 1) := by decide +kernel
theorem dX5_copyFrom_108 : decode cX5_copyFrom 108 = .ok (.getfield 30, 3) := by decide +kernel
theorem dX5_copyFrom_111 : decode cX5_copyFrom 111 = .ok (.putfield 30, 3) := by decide +kernel
theorem dX5_copyFrom_114 : decode cX5_copyFrom 114 = .ok (.aload_n 1, 1) := by decide +kernel
theorem dX5_copyFrom_115 : decode cX5_copyFrom 115 = .ok (.getfield 34, 3) := by decide +kernel
theorem dX5_copyFrom_118 : decode cX5_copyFrom 118 = .ok (.iconst 0, 1) := by decide +kernel
theorem dX5_copyFrom_119 : decode cX5_copyFrom 119 = .ok (.aload_n 0, 1) := by decide +kernel
theorem dX5_copyFrom_120 : decode cX5_copyFrom 120 = .ok (.getfield 34, 3) := by decide +kernel
theorem dX5_copyFrom_123 : decode cX5_copyFrom 123 = .ok (.iconst 0, 1) := by decide +kernel
theorem dX5_copyFrom_124 : decode cX5_copyFrom 124 = .ok (.bipush 60, 2) := by decide +kernel
theorem dX5_copyFrom_126 : decode cX5_copyFrom 126 = .ok (.invokestatic 53, 3) := by decide +kernel
theorem dX5_copyFrom_129 : decode cX5_copyFrom 129 = .ok (.aload_n 0, 1) := by decide +kernel
theorem dX5_copyFrom_130 : decode cX5_copyFrom 130 = .ok (.aload_n 1, 1) := by decide +kernel
theorem dX5_copyFrom_131 : decode cX5_copyFrom 131 = .ok (.getfield 62, 3) := by decide +kernel
theorem dX5_copyFrom_134 : decode cX5_copyFrom 134 = .ok (.putfield 62, 3) := by decide +kernel
theorem dX5_copyFrom_137 : decode cX5_copyFrom 137 = .ok (.aload_n 0, 1) := by decide +kernel
theorem dX5_copyFrom_138 : decode cX5_copyFrom 138 = .ok (.getfield 40, 3) := by decide +kernel
theorem dX5_copyFrom_141 : decode cX5_copyFrom 141 = .ok (.aload_n 1, 1) := by decide +kernel
theorem dX5_copyFrom_142 : decode cX5_copyFrom 142 = .ok (.getfield 40, 3) := by decide +kernel
theorem dX5_copyFrom_145 : decode cX5_copyFrom 145 = .ok (.invokevirtual 65, 3) := by decide +kernel
theorem dX5_copyFrom_148 : decode cX5_copyFrom 148 = .ok (.aload_n 0, 1) := by decide +kernel
theorem dX5_copyFrom_149 : decode cX5_copyFrom 149 = .ok (.getfield 44, 3) := by decide +kernel
theorem dX5_copyFrom_152 : decode cX5_copyFrom 152 = .ok (.aload_n 1, 1) := by decide +kernel
theorem dX5_copyFrom_153 : decode cX5_copyFrom 153 = .ok (.getfield 44, 3) := by decide +kernel
theorem dX5_copyFrom_156 : decode cX5_copyFrom 156 = .ok (.invokevirtual 65, 3) := by decide +kernel
theorem dX5_copyFrom_159 : decode cX5_copyFrom 159 = .ok (.aload_n 1, 1) := by decide +kernel
theorem dX5_copyFrom_160 : decode cX5_copyFrom 160 = .ok (.getfield 47, 3) := by decide +kernel
theorem dX5_copyFrom_163 : decode cX5_copyFrom 163 = .ok (.iconst 0, 1) := by decide +kernel
theorem dX5_copyFrom_164 : decode cX5_copyFrom 164 = .ok (.aload_n 0, 1) := by decide +kernel
theorem dX5_copyFrom_165 : decode cX5_copyFrom 165 = .ok (.getfield 47, 3) := by decide +kernel
theorem dX5_copyFrom_168 : decode cX5_copyFrom 168 = .ok (.iconst 0, 1) := by decide +kernel
theorem dX5_copyFrom_169 : decode cX5_copyFrom 169 = .ok (.bipush 24, 2) := by decide +kernel
theorem dX5_copyFrom_171 : decode cX5_copyFrom 171 = .ok (.invokestatic 53, 3) := by decide +kernel
theorem dX5_copyFrom_174 : decode cX5_copyFrom 174 = .ok (.aload_n 0, 1) := by decide +kernel
theorem dX5_copyFrom_175 : decode cX5_copyFrom 175 = .ok (.aload_n 1, 1) := by decide +kernel
theorem dX5_copyFrom_176 : decode cX5_copyFrom 176 = .ok (.getfield 69, 3) := by decide +kernel
theorem dX5_copyFrom_179 : decode cX5_copyFrom 179 = .ok (.putfield 69, 3) := by decide +kernel
theorem dX5_copyFrom_182 : decode cX5_copyFrom 182 = .ok (.return_, 1) := by decide +kernel
theorem dX5_kindOf_0 : decode cX5_kindOf 0 = .ok (.aload_n 0, 1) := by decide +kernel
theorem dX5_kindOf_1 : decode cX5_kindOf 1 = .ok (.getfield 9, 3) := by decide +kernel
theorem dX5_kindOf_4 : decode cX5_kindOf 4 = .ok (.iload_n 1, 1) := by decide +kernel
theorem dX5_kindOf_5 : decode cX5_kindOf 5 = .ok (.iaload, 1) := by decide +kernel
theorem dX5_kindOf_6 : decode cX5_kindOf 6 = .ok (.bipush 10, 2) := by decide +kernel
theorem dX5_kindOf_8 : decode cX5_kindOf 8 = .ok (.idiv, 1) := by decide +kernel
theorem dX5_kindOf_9 : decode cX5_kindOf 9 = .ok (.ireturn, 1) := by decide +kernel
theorem dX5_numberOf_0 : decode cX5_numberOf 0 = .ok (.aload_n 0, 1) := by decide +kernel
theorem dX5_numberOf_1 : decode cX5_numberOf 1 = .ok (.getfield 9, 3) := by decide +kernel
theorem dX5_numberOf_4 : decode cX5_numberOf 4 = .ok (.iload_n 1, 1) := by decide +kernel
theorem dX5_numberOf_5 : decode cX5_numberOf 5 = .ok (.iaload, 1) := by decide +kernel
theorem dX5_numberOf_6 : decode cX5_numberOf 6 = .ok (.bipush 10, 2) := by decide +kernel
theorem dX5_numberOf_8 : decode cX5_numberOf 8 = .ok (.irem, 1) := by decide +kernel
theorem dX5_numberOf_9 : decode cX5_numberOf 9 = .ok (.ireturn, 1) := by decide +kernel
theorem dX5_addOrphan_0 : decode cX5_addOrphan 0 = .ok (.aload_n 0, 1) := by decide +kernel
theorem dX5_addOrphan_1 : decode cX5_addOrphan 1 = .ok (.getfield 50, 3) := by decide +kernel
theorem dX5_addOrphan_4 : decode cX5_addOrphan 4 = .ok (.istore_n 2, 1) := by decide +kernel
theorem dX5_addOrphan_5 : decode cX5_addOrphan 5 = .ok (.aload_n 0, 1) := by decide +kernel
theorem dX5_addOrphan_6 : decode cX5_addOrphan 6 = .ok (.getfield 9, 3) := by decide +kernel
theorem dX5_addOrphan_9 : decode cX5_addOrphan 9 = .ok (.iload_n 2, 1) := by decide +kernel
theorem dX5_addOrphan_10 : decode cX5_addOrphan 10 = .ok (.iload_n 1, 1) := by decide +kernel
theorem dX5_addOrphan_11 : decode cX5_addOrphan 11 = .ok (.iastore, 1) := by decide +kernel
theorem dX5_addOrphan_12 : decode cX5_addOrphan 12 = .ok (.aload_n 0, 1) := by decide +kernel
theorem dX5_addOrphan_13 : decode cX5_addOrphan 13 = .ok (.getfield 15, 3) := by decide +kernel
theorem dX5_addOrphan_16 : decode cX5_addOrphan 16 = .ok (.iload_n 2, 1) := by decide +kernel
theorem dX5_addOrphan_17 : decode cX5_addOrphan 17 = .ok (.iconst (-1), 1) := by decide +kernel
theorem dX5_addOrphan_18 : decode cX5_addOrphan 18 = .ok (.iastore, 1) := by decide +kernel
theorem dX5_addOrphan_19 : decode cX5_addOrphan 19 = .ok (.aload_n 0, 1) := by decide +kernel
theorem dX5_addOrphan_20 : decode cX5_addOrphan 20 = .ok (.getfield 18, 3) := by decide +kernel
theorem dX5_addOrphan_23 : decode cX5_addOrphan 23 = .ok (.iload_n 2, 1) := by decide +kernel
theorem dX5_addOrphan_24 : decode cX5_addOrphan 24 = .ok (.iconst (-1), 1) := by decide +kernel
theorem dX5_addOrphan_25 : decode cX5_addOrphan 25 = .ok (.iastore, 1) := by decide +kernel
theorem dX5_addOrphan_26 : decode cX5_addOrphan 26 = .ok (.aload_n 0, 1) := by decide +kernel
theorem dX5_addOrphan_27 : decode cX5_addOrphan 27 = .ok (.dup, 1) := by decide +kernel
theorem dX5_addOrphan_28 : decode cX5_addOrphan 28 = .ok (.getfield 50, 3) := by decide +kernel
theorem dX5_addOrphan_31 : decode cX5_addOrphan 31 = .ok (.iconst 1, 1) := by decide +kernel
theorem dX5_addOrphan_32 : decode cX5_addOrphan 32 = .ok (.iadd, 1) := by decide +kernel
theorem dX5_addOrphan_33 : decode cX5_addOrphan 33 = .ok (.putfield 50, 3) := by decide +kernel
theorem dX5_addOrphan_36 : decode cX5_addOrphan 36 = .ok (.iload_n 2, 1) := by decide +kernel
theorem dX5_addOrphan_37 : decode cX5_addOrphan 37 = .ok (.ireturn, 1) := by decide +kernel
theorem dX5_addChild_0 : decode cX5_addChild 0 = .ok (.aload_n 0, 1) := by decide +kernel
theorem dX5_addChild_1 : decode cX5_addChild 1 = .ok (.iload_n 1, 1) := by decide +kernel
theorem dX5_addChild_2 : decode cX5_addChild 2 = .ok (.invokevirtual 72, 3) := by decide +kernel
theorem dX5_addChild_5 : decode cX5_addChild 5 = .ok (.istore 4, 2) := by decide +kernel
theorem dX5_addChild_7 : decode cX5_addChild 7 = .ok (.aload_n 0, 1) := by decide +kernel
theorem dX5_addChild_8 : decode cX5_addChild 8 = .ok (.getfield 15, 3) := by decide +kernel
theorem dX5_addChild_11 : decode cX5_addChild 11 = .ok (.iload 4, 2) := by decide +kernel
theorem dX5_addChild_13 : decode cX5_addChild 13 = .ok (.iload_n 2, 1) := by decide +kernel
theorem dX5_addChild_14 : decode cX5_addChild 14 = .ok (.iastore, 1) := by decide +kernel
theorem dX5_addChild_15 : decode cX5_addChild 15 = .ok (.aload_n 0, 1) := by decide +kernel
theorem dX5_addChild_16 : decode cX5_addChild 16 = .ok (.getfield 18, 3) := by decide +kernel
theorem dX5_addChild_19 : decode cX5_addChild 19 = .ok (.iload 4, 2) := by decide +kernel
theorem dX5_addChild_21 : decode cX5_addChild 21 = .ok (.iload_n 3, 1) := by decide +kernel
theorem dX5_addChild_22 : decode cX5_addChild 22 = .ok (.iastore, 1) := by decide +kernel
theorem dX5_addChild_23 : decode cX5_addChild 23 = .ok (.aload_n 0, 1) := by decide +kernel
theorem dX5_addChild_24 : decode cX5_addChild 24 = .ok (.getfield 21, 3) := by decide +kernel
theorem dX5_addChild_27 : decode cX5_addChild 27 = .ok (.iload 4, 2) := by decide +kernel
theorem dX5_addChild_29 : decode cX5_addChild 29 = .ok (.aload_n 0, 1) := by decide +kernel
theorem dX5_addChild_30 : decode cX5_addChild 30 = .ok (.iload_n 2, 1) := by decide +kernel
theorem dX5_addChild_31 : decode cX5_addChild 31 = .ok (.invokevirtual 76, 3) := by decide +kernel
theorem dX5_addChild_34 : decode cX5_addChild 34 = .ok (.aload_n 0, 1) := by decide +kernel
theorem dX5_addChild_35 : decode cX5_addChild 35 = .ok (.iload_n 3, 1) := by decide +kernel
theorem dX5_addChild_36 : decode cX5_addChild 36 = .ok (.invokevirtual 76, 3) := by decide +kernel
theorem dX5_addChild_39 : decode cX5_addChild 39 = .ok (.ior, 1) := by decide +kernel
theorem dX5_addChild_40 : decode cX5_addChild 40 = .ok (.iastore, 1) := by decide +kernel
theorem dX5_addChild_41 : decode cX5_addChild 41 = .ok (.iconst 0, 1) := by decide +kernel
theorem dX5_addChild_42 : decode cX5_addChild 42 = .ok (.istore 5, 2) := by decide +kernel
theorem dX5_addChild_44 : decode cX5_addChild 44 = .ok (.iload 5, 2) := by decide +kernel
theorem dX5_addChild_46 : decode cX5_addChild 46 = .ok (.iconst 5, 1) := by decide +kernel
theorem dX5_addChild_47 : decode cX5_addChild 47 = .ok (.if_icmp .ge 29, 3) := by decide +kernel
theorem dX5_addChild_50 : decode cX5_addChild 50 = .ok (.aload_n 0, 1) := by decide +kernel
theorem dX5_addChild_51 : decode cX5_addChild 51 = .ok (.getfield 24, 3) := by decide +kernel
theorem dX5_addChild_54 : decode cX5_addChild 54 = .ok (.iload 4, 2) := by decide +kernel
theorem dX5_addChild_56 : decode cX5_addChild 56 = .ok (.iload 5, 2) := by decide +kernel
theorem dX5_addChild_58 : decode cX5_addChild 58 = .ok (.invokestatic 79, 3) := by decide +kernel
theorem dX5_addChild_61 : decode cX5_addChild 61 = .ok (.aload_n 0, 1) := by decide +kernel
theorem dX5_addChild_62 : decode cX5_addChild 62 = .ok (.iload_n 2, 1) := by decide +kernel
theorem dX5_addChild_63 : decode cX5_addChild 63 = .ok (.iload_n 3, 1) := by decide +kernel
theorem dX5_addChild_64 : decode cX5_addChild 64 = .ok (.iload 5, 2) := by decide +kernel
theorem dX5_addChild_66 : decode cX5_addChild 66 = .ok (.invokevirtual 83, 3) := by decide +kernel
theorem dX5_addChild_69 : decode cX5_addChild 69 = .ok (.iastore, 1) := by decide +kernel
theorem dX5_addChild_70 : decode cX5_addChild 70 = .ok (.iinc 5 1, 3) := by decide +kernel
theorem dX5_addChild_73 : decode cX5_addChild 73 = .ok (.goto (-29), 3) := by decide +kernel
theorem dX5_addChild_76 : decode cX5_addChild 76 = .ok (.iload 4, 2) := by decide +kernel
theorem dX5_addChild_78 : decode cX5_addChild 78 = .ok (.ireturn, 1) := by decide +kernel
theorem dX5_withForebears_0 : decode cX5_withForebears 0 = .ok (.aload_n 0, 1) := by decide +kernel
theorem dX5_withForebears_1 : decode cX5_withForebears 1 = .ok (.getfield 21, 3) := by decide +kernel
theorem dX5_withForebears_4 : decode cX5_withForebears 4 = .ok (.iload_n 1, 1) := by decide +kernel
theorem dX5_withForebears_5 : decode cX5_withForebears 5 = .ok (.iaload, 1) := by decide +kernel
theorem dX5_withForebears_6 : decode cX5_withForebears 6 = .ok (.iconst 1, 1) := by decide +kernel
theorem dX5_withForebears_7 : decode cX5_withForebears 7 = .ok (.iload_n 1, 1) := by decide +kernel
theorem dX5_withForebears_8 : decode cX5_withForebears 8 = .ok (.ishl, 1) := by decide +kernel
theorem dX5_withForebears_9 : decode cX5_withForebears 9 = .ok (.ior, 1) := by decide +kernel
theorem dX5_withForebears_10 : decode cX5_withForebears 10 = .ok (.ireturn, 1) := by decide +kernel
theorem dX5_poured_0 : decode cX5_poured 0 = .ok (.aload_n 0, 1) := by decide +kernel
theorem dX5_poured_1 : decode cX5_poured 1 = .ok (.getfield 24, 3) := by decide +kernel
theorem dX5_poured_4 : decode cX5_poured 4 = .ok (.iload_n 1, 1) := by decide +kernel
theorem dX5_poured_5 : decode cX5_poured 5 = .ok (.iload_n 3, 1) := by decide +kernel
theorem dX5_poured_6 : decode cX5_poured 6 = .ok (.invokestatic 79, 3) := by decide +kernel
theorem dX5_poured_9 : decode cX5_poured 9 = .ok (.iaload, 1) := by decide +kernel
theorem dX5_poured_10 : decode cX5_poured 10 = .ok (.aload_n 0, 1) := by decide +kernel
theorem dX5_poured_11 : decode cX5_poured 11 = .ok (.getfield 24, 3) := by decide +kernel
theorem dX5_poured_14 : decode cX5_poured 14 = .ok (.iload_n 2, 1) := by decide +kernel
theorem dX5_poured_15 : decode cX5_poured 15 = .ok (.iload_n 3, 1) := by decide +kernel
theorem dX5_poured_16 : decode cX5_poured 16 = .ok (.invokestatic 79, 3) := by decide +kernel
theorem dX5_poured_19 : decode cX5_poured 19 = .ok (.iaload, 1) := by decide +kernel
theorem dX5_poured_20 : decode cX5_poured 20 = .ok (.iadd, 1) := by decide +kernel
theorem dX5_poured_21 : decode cX5_poured 21 = .ok (.iconst 2, 1) := by decide +kernel
theorem dX5_poured_22 : decode cX5_poured 22 = .ok (.idiv, 1) := by decide +kernel
theorem dX5_poured_23 : decode cX5_poured 23 = .ok (.ireturn, 1) := by decide +kernel
theorem dX5_pouredTogether_0 : decode cX5_pouredTogether 0 = .ok (.iconst 0, 1) := by decide +kernel
theorem dX5_pouredTogether_1 : decode cX5_pouredTogether 1 = .ok (.istore_n 3, 1) := by decide +kernel
theorem dX5_pouredTogether_2 : decode cX5_pouredTogether 2 = .ok (.iconst 0, 1) := by decide +kernel
theorem dX5_pouredTogether_3 : decode cX5_pouredTogether 3 = .ok (.istore 4, 2) := by decide +kernel
theorem dX5_pouredTogether_5 : decode cX5_pouredTogether 5 = .ok (.iload 4, 2) := by decide +kernel
theorem dX5_pouredTogether_7 : decode cX5_pouredTogether 7 = .ok (.iconst 5, 1) := by decide +kernel
theorem dX5_pouredTogether_8 : decode cX5_pouredTogether 8 = .ok (.if_icmp .ge 20, 3) := by decide +kernel
theorem dX5_pouredTogether_11 : decode cX5_pouredTogether 11 = .ok (.iload_n 3, 1) := by decide +kernel
theorem dX5_pouredTogether_12 : decode cX5_pouredTogether 12 = .ok (.aload_n 0, 1) := by decide +kernel
theorem dX5_pouredTogether_13 : decode cX5_pouredTogether 13 = .ok (.iload_n 1, 1) := by decide +kernel
theorem dX5_pouredTogether_14 : decode cX5_pouredTogether 14 = .ok (.iload_n 2, 1) := by decide +kernel
theorem dX5_pouredTogether_15 : decode cX5_pouredTogether 15 = .ok (.iload 4, 2) := by decide +kernel
theorem dX5_pouredTogether_17 : decode cX5_pouredTogether 17 = .ok (.invokevirtual 83, 3) := by decide +kernel
theorem dX5_pouredTogether_20 : decode cX5_pouredTogether 20 = .ok (.iadd, 1) := by decide +kernel
theorem dX5_pouredTogether_21 : decode cX5_pouredTogether 21 = .ok (.istore_n 3, 1) := by decide +kernel
theorem dX5_pouredTogether_22 : decode cX5_pouredTogether 22 = .ok (.iinc 4 1, 3) := by decide +kernel
theorem dX5_pouredTogether_25 : decode cX5_pouredTogether 25 = .ok (.goto (-20), 3) := by decide +kernel
theorem dX5_pouredTogether_28 : decode cX5_pouredTogether 28 = .ok (.iload_n 3, 1) := by decide +kernel
theorem dX5_pouredTogether_29 : decode cX5_pouredTogether 29 = .ok (.ireturn, 1) := by decide +kernel
theorem dX5_canGo_0 : decode cX5_canGo 0 = .ok (.aload_n 0, 1) := by decide +kernel
theorem dX5_canGo_1 : decode cX5_canGo 1 = .ok (.getfield 24, 3) := by decide +kernel
theorem dX5_canGo_4 : decode cX5_canGo 4 = .ok (.iload_n 1, 1) := by decide +kernel
theorem dX5_canGo_5 : decode cX5_canGo 5 = .ok (.iload_n 3, 1) := by decide +kernel
theorem dX5_canGo_6 : decode cX5_canGo 6 = .ok (.invokestatic 79, 3) := by decide +kernel
theorem dX5_canGo_9 : decode cX5_canGo 9 = .ok (.iaload, 1) := by decide +kernel
theorem dX5_canGo_10 : decode cX5_canGo 10 = .ok (.iload 4, 2) := by decide +kernel
theorem dX5_canGo_12 : decode cX5_canGo 12 = .ok (.if_icmp .lt 25, 3) := by decide +kernel
theorem dX5_canGo_15 : decode cX5_canGo 15 = .ok (.aload_n 0, 1) := by decide +kernel
theorem dX5_canGo_16 : decode cX5_canGo 16 = .ok (.getfield 24, 3) := by decide +kernel
theorem dX5_canGo_19 : decode cX5_canGo 19 = .ok (.iload_n 2, 1) := by decide +kernel
theorem dX5_canGo_20 : decode cX5_canGo 20 = .ok (.iload_n 3, 1) := by decide +kernel
theorem dX5_canGo_21 : decode cX5_canGo 21 = .ok (.invokestatic 79, 3) := by decide +kernel
theorem dX5_canGo_24 : decode cX5_canGo 24 = .ok (.iaload, 1) := by decide +kernel
theorem dX5_canGo_25 : decode cX5_canGo 25 = .ok (.iload 4, 2) := by decide +kernel
theorem dX5_canGo_27 : decode cX5_canGo 27 = .ok (.iadd, 1) := by decide +kernel
theorem dX5_canGo_28 : decode cX5_canGo 28 = .ok (.bipush 99, 2) := by decide +kernel
theorem dX5_canGo_30 : decode cX5_canGo 30 = .ok (.if_icmp .gt 7, 3) := by decide +kernel
theorem dX5_canGo_33 : decode cX5_canGo 33 = .ok (.iconst 1, 1) := by decide +kernel
theorem dX5_canGo_34 : decode cX5_canGo 34 = .ok (.goto 4, 3) := by decide +kernel
theorem dX5_canGo_37 : decode cX5_canGo 37 = .ok (.iconst 0, 1) := by decide +kernel
theorem dX5_canGo_38 : decode cX5_canGo 38 = .ok (.ireturn, 1) := by decide +kernel
theorem dX5_go_0 : decode cX5_go 0 = .ok (.aload_n 0, 1) := by decide +kernel
theorem dX5_go_1 : decode cX5_go 1 = .ok (.getfield 24, 3) := by decide +kernel
theorem dX5_go_4 : decode cX5_go 4 = .ok (.iload_n 1, 1) := by decide +kernel
theorem dX5_go_5 : decode cX5_go 5 = .ok (.iload_n 3, 1) := by decide +kernel
theorem dX5_go_6 : decode cX5_go 6 = .ok (.invokestatic 79, 3) := by decide +kernel
theorem dX5_go_9 : decode cX5_go 9 = .ok (.dup2, 1) := by decide +kernel
theorem dX5_go_10 : decode cX5_go 10 = .ok (.iaload, 1) := by decide +kernel
theorem dX5_go_11 : decode cX5_go 11 = .ok (.iload 4, 2) := by decide +kernel
theorem dX5_go_13 : decode cX5_go 13 = .ok (.isub, 1) := by decide +kernel
theorem dX5_go_14 : decode cX5_go 14 = .ok (.iastore, 1) := by decide +kernel
theorem dX5_go_15 : decode cX5_go 15 = .ok (.aload_n 0, 1) := by decide +kernel
theorem dX5_go_16 : decode cX5_go 16 = .ok (.getfield 24, 3) := by decide +kernel
theorem dX5_go_19 : decode cX5_go 19 = .ok (.iload_n 2, 1) := by decide +kernel
theorem dX5_go_20 : decode cX5_go 20 = .ok (.iload_n 3, 1) := by decide +kernel
theorem dX5_go_21 : decode cX5_go 21 = .ok (.invokestatic 79, 3) := by decide +kernel
theorem dX5_go_24 : decode cX5_go 24 = .ok (.dup2, 1) := by decide +kernel
theorem dX5_go_25 : decode cX5_go 25 = .ok (.iaload, 1) := by decide +kernel
theorem dX5_go_26 : decode cX5_go 26 = .ok (.iload 4, 2) := by decide +kernel
theorem dX5_go_28 : decode cX5_go 28 = .ok (.iadd, 1) := by decide +kernel
theorem dX5_go_29 : decode cX5_go 29 = .ok (.iastore, 1) := by decide +kernel
theorem dX5_go_30 : decode cX5_go 30 = .ok (.return_, 1) := by decide +kernel
theorem dX5_balanceOf_0 : decode cX5_balanceOf 0 = .ok (.iconst 0, 1) := by decide +kernel
theorem dX5_balanceOf_1 : decode cX5_balanceOf 1 = .ok (.istore_n 2, 1) := by decide +kernel
theorem dX5_balanceOf_2 : decode cX5_balanceOf 2 = .ok (.iconst 0, 1) := by decide +kernel
theorem dX5_balanceOf_3 : decode cX5_balanceOf 3 = .ok (.istore_n 3, 1) := by decide +kernel
theorem dX5_balanceOf_4 : decode cX5_balanceOf 4 = .ok (.iload_n 3, 1) := by decide +kernel
theorem dX5_balanceOf_5 : decode cX5_balanceOf 5 = .ok (.aload_n 0, 1) := by decide +kernel
theorem dX5_balanceOf_6 : decode cX5_balanceOf 6 = .ok (.getfield 50, 3) := by decide +kernel
theorem dX5_balanceOf_9 : decode cX5_balanceOf 9 = .ok (.if_icmp .ge 33, 3) := by decide +kernel
theorem dX5_balanceOf_12 : decode cX5_balanceOf 12 = .ok (.iload_n 2, 1) := by decide +kernel
theorem dX5_balanceOf_13 : decode cX5_balanceOf 13 = .ok (.aload_n 0, 1) := by decide +kernel
theorem dX5_balanceOf_14 : decode cX5_balanceOf 14 = .ok (.getfield 27, 3) := by decide +kernel
theorem dX5_balanceOf_17 : decode cX5_balanceOf 17 = .ok (.iload_n 3, 1) := by decide +kernel
theorem dX5_balanceOf_18 : decode cX5_balanceOf 18 = .ok (.iload_n 1, 1) := by decide +kernel
theorem dX5_balanceOf_19 : decode cX5_balanceOf 19 = .ok (.invokestatic 87, 3) := by decide +kernel
theorem dX5_balanceOf_22 : decode cX5_balanceOf 22 = .ok (.iaload, 1) := by decide +kernel
theorem dX5_balanceOf_23 : decode cX5_balanceOf 23 = .ok (.aload_n 0, 1) := by decide +kernel
theorem dX5_balanceOf_24 : decode cX5_balanceOf 24 = .ok (.getfield 27, 3) := by decide +kernel
theorem dX5_balanceOf_27 : decode cX5_balanceOf 27 = .ok (.iload_n 1, 1) := by decide +kernel
theorem dX5_balanceOf_28 : decode cX5_balanceOf 28 = .ok (.iload_n 3, 1) := by decide +kernel
theorem dX5_balanceOf_29 : decode cX5_balanceOf 29 = .ok (.invokestatic 87, 3) := by decide +kernel
theorem dX5_balanceOf_32 : decode cX5_balanceOf 32 = .ok (.iaload, 1) := by decide +kernel
theorem dX5_balanceOf_33 : decode cX5_balanceOf 33 = .ok (.isub, 1) := by decide +kernel
theorem dX5_balanceOf_34 : decode cX5_balanceOf 34 = .ok (.iadd, 1) := by decide +kernel
theorem dX5_balanceOf_35 : decode cX5_balanceOf 35 = .ok (.istore_n 2, 1) := by decide +kernel
theorem dX5_balanceOf_36 : decode cX5_balanceOf 36 = .ok (.iinc 3 1, 3) := by decide +kernel
theorem dX5_balanceOf_39 : decode cX5_balanceOf 39 = .ok (.goto (-35), 3) := by decide +kernel
theorem dX5_balanceOf_42 : decode cX5_balanceOf 42 = .ok (.iload_n 2, 1) := by decide +kernel
theorem dX5_balanceOf_43 : decode cX5_balanceOf 43 = .ok (.ireturn, 1) := by decide +kernel
theorem dX5_gets_0 : decode cX5_gets 0 = .ok (.aload_n 0, 1) := by decide +kernel
theorem dX5_gets_1 : decode cX5_gets 1 = .ok (.iload_n 1, 1) := by decide +kernel
theorem dX5_gets_2 : decode cX5_gets 2 = .ok (.invokevirtual 90, 3) := by decide +kernel
theorem dX5_gets_5 : decode cX5_gets 5 = .ok (.istore 5, 2) := by decide +kernel
theorem dX5_gets_7 : decode cX5_gets 7 = .ok (.iload 5, 2) := by decide +kernel
theorem dX5_gets_9 : decode cX5_gets 9 = .ok (.iconst 5, 1) := by decide +kernel
theorem dX5_gets_10 : decode cX5_gets 10 = .ok (.irem, 1) := by decide +kernel
theorem dX5_gets_11 : decode cX5_gets 11 = .ok (.iload_n 2, 1) := by decide +kernel
theorem dX5_gets_12 : decode cX5_gets 12 = .ok (.if_icmp .ne 7, 3) := by decide +kernel
theorem dX5_gets_15 : decode cX5_gets 15 = .ok (.iconst 1, 1) := by decide +kernel
theorem dX5_gets_16 : decode cX5_gets 16 = .ok (.goto 4, 3) := by decide +kernel
theorem dX5_gets_19 : decode cX5_gets 19 = .ok (.iconst 0, 1) := by decide +kernel
theorem dX5_gets_20 : decode cX5_gets 20 = .ok (.istore 6, 2) := by decide +kernel
theorem dX5_gets_22 : decode cX5_gets 22 = .ok (.iload_n 2, 1) := by decide +kernel
theorem dX5_gets_23 : decode cX5_gets 23 = .ok (.ifCond .ne 10, 3) := by decide +kernel
theorem dX5_gets_26 : decode cX5_gets 26 = .ok (.iload 6, 2) := by decide +kernel
theorem dX5_gets_28 : decode cX5_gets 28 = .ok (.iconst 2, 1) := by decide +kernel
theorem dX5_gets_29 : decode cX5_gets 29 = .ok (.iadd, 1) := by decide +kernel
theorem dX5_gets_30 : decode cX5_gets 30 = .ok (.goto 5, 3) := by decide +kernel
theorem dX5_gets_33 : decode cX5_gets 33 = .ok (.iload 6, 2) := by decide +kernel
theorem dX5_gets_35 : decode cX5_gets 35 = .ok (.istore 7, 2) := by decide +kernel
theorem dX5_gets_37 : decode cX5_gets 37 = .ok (.aload_n 0, 1) := by decide +kernel
theorem dX5_gets_38 : decode cX5_gets 38 = .ok (.iload_n 1, 1) := by decide +kernel
theorem dX5_gets_39 : decode cX5_gets 39 = .ok (.invokevirtual 93, 3) := by decide +kernel
theorem dX5_gets_42 : decode cX5_gets 42 = .ok (.tableswitch 88 1 6 #[38, 41, 46, 59, 67, 74], 38) := by decide +kernel
theorem dX5_gets_80 : decode cX5_gets 80 = .ok (.iload 7, 2) := by decide +kernel
theorem dX5_gets_82 : decode cX5_gets 82 = .ok (.ireturn, 1) := by decide +kernel
theorem dX5_gets_83 : decode cX5_gets 83 = .ok (.iconst 3, 1) := by decide +kernel
theorem dX5_gets_84 : decode cX5_gets 84 = .ok (.iload 6, 2) := by decide +kernel
theorem dX5_gets_86 : decode cX5_gets 86 = .ok (.imul, 1) := by decide +kernel
theorem dX5_gets_87 : decode cX5_gets 87 = .ok (.ireturn, 1) := by decide +kernel
theorem dX5_gets_88 : decode cX5_gets 88 = .ok (.iload_n 2, 1) := by decide +kernel
theorem dX5_gets_89 : decode cX5_gets 89 = .ok (.iconst 4, 1) := by decide +kernel
theorem dX5_gets_90 : decode cX5_gets 90 = .ok (.if_icmp .ne 8, 3) := by decide +kernel
theorem dX5_gets_93 : decode cX5_gets 93 = .ok (.iload 5, 2) := by decide +kernel
theorem dX5_gets_95 : decode cX5_gets 95 = .ok (.goto 5, 3) := by decide +kernel
theorem dX5_gets_98 : decode cX5_gets 98 = .ok (.iload 6, 2) := by decide +kernel
theorem dX5_gets_100 : decode cX5_gets 100 = .ok (.ireturn, 1) := by decide +kernel
theorem dX5_gets_101 : decode cX5_gets 101 = .ok (.iload 7, 2) := by decide +kernel
theorem dX5_gets_103 : decode cX5_gets 103 = .ok (.iload_n 3, 1) := by decide +kernel
theorem dX5_gets_104 : decode cX5_gets 104 = .ok (.bipush 10, 2) := by decide +kernel
theorem dX5_gets_106 : decode cX5_gets 106 = .ok (.idiv, 1) := by decide +kernel
theorem dX5_gets_107 : decode cX5_gets 107 = .ok (.iadd, 1) := by decide +kernel
theorem dX5_gets_108 : decode cX5_gets 108 = .ok (.ireturn, 1) := by decide +kernel
theorem dX5_gets_109 : decode cX5_gets 109 = .ok (.iconst 3, 1) := by decide +kernel
theorem dX5_gets_110 : decode cX5_gets 110 = .ok (.iload 6, 2) := by decide +kernel
theorem dX5_gets_112 : decode cX5_gets 112 = .ok (.imul, 1) := by decide +kernel
theorem dX5_gets_113 : decode cX5_gets 113 = .ok (.iconst 1, 1) := by decide +kernel
theorem dX5_gets_114 : decode cX5_gets 114 = .ok (.isub, 1) := by decide +kernel
theorem dX5_gets_115 : decode cX5_gets 115 = .ok (.ireturn, 1) := by decide +kernel
theorem dX5_gets_116 : decode cX5_gets 116 = .ok (.iload 4, 2) := by decide +kernel
theorem dX5_gets_118 : decode cX5_gets 118 = .ok (.iconst 2, 1) := by decide +kernel
theorem dX5_gets_119 : decode cX5_gets 119 = .ok (.irem, 1) := by decide +kernel
theorem dX5_gets_120 : decode cX5_gets 120 = .ok (.ifCond .ne 8, 3) := by decide +kernel
theorem dX5_gets_123 : decode cX5_gets 123 = .ok (.iload 6, 2) := by decide +kernel
theorem dX5_gets_125 : decode cX5_gets 125 = .ok (.goto 4, 3) := by decide +kernel
theorem dX5_gets_128 : decode cX5_gets 128 = .ok (.iconst 0, 1) := by decide +kernel
theorem dX5_gets_129 : decode cX5_gets 129 = .ok (.ireturn, 1) := by decide +kernel
theorem dX5_gets_130 : decode cX5_gets 130 = .ok (.iload 6, 2) := by decide +kernel
theorem dX5_gets_132 : decode cX5_gets 132 = .ok (.ireturn, 1) := by decide +kernel
theorem dX5_gainOf_0 : decode cX5_gainOf 0 = .ok (.aload_n 0, 1) := by decide +kernel
theorem dX5_gainOf_1 : decode cX5_gainOf 1 = .ok (.iconst 0, 1) := by decide +kernel
theorem dX5_gainOf_2 : decode cX5_gainOf 2 = .ok (.aload_n 0, 1) := by decide +kernel
theorem dX5_gainOf_3 : decode cX5_gainOf 3 = .ok (.iload_n 1, 1) := by decide +kernel
theorem dX5_gainOf_4 : decode cX5_gainOf 4 = .ok (.iload_n 2, 1) := by decide +kernel
theorem dX5_gainOf_5 : decode cX5_gainOf 5 = .ok (.iload_n 3, 1) := by decide +kernel
theorem dX5_gainOf_6 : decode cX5_gainOf 6 = .ok (.iload 4, 2) := by decide +kernel
theorem dX5_gainOf_8 : decode cX5_gainOf 8 = .ok (.invokevirtual 96, 3) := by decide +kernel
theorem dX5_gainOf_11 : decode cX5_gainOf 11 = .ok (.iload_n 2, 1) := by decide +kernel
theorem dX5_gainOf_12 : decode cX5_gainOf 12 = .ok (.iload 4, 2) := by decide +kernel
theorem dX5_gainOf_14 : decode cX5_gainOf 14 = .ok (.invokevirtual 100, 3) := by decide +kernel
theorem dX5_gainOf_17 : decode cX5_gainOf 17 = .ok (.ireturn, 1) := by decide +kernel
theorem dX5_grow_0 : decode cX5_grow 0 = .ok (.iconst 0, 1) := by decide +kernel
theorem dX5_grow_1 : decode cX5_grow 1 = .ok (.istore_n 3, 1) := by decide +kernel
theorem dX5_grow_2 : decode cX5_grow 2 = .ok (.iload_n 3, 1) := by decide +kernel
theorem dX5_grow_3 : decode cX5_grow 3 = .ok (.aload_n 0, 1) := by decide +kernel
theorem dX5_grow_4 : decode cX5_grow 4 = .ok (.getfield 50, 3) := by decide +kernel
theorem dX5_grow_7 : decode cX5_grow 7 = .ok (.if_icmp .ge 63, 3) := by decide +kernel
theorem dX5_grow_10 : decode cX5_grow 10 = .ok (.iconst 0, 1) := by decide +kernel
theorem dX5_grow_11 : decode cX5_grow 11 = .ok (.istore 4, 2) := by decide +kernel
theorem dX5_grow_13 : decode cX5_grow 13 = .ok (.iload 4, 2) := by decide +kernel
theorem dX5_grow_15 : decode cX5_grow 15 = .ok (.iconst 5, 1) := by decide +kernel
theorem dX5_grow_16 : decode cX5_grow 16 = .ok (.if_icmp .ge 48, 3) := by decide +kernel
theorem dX5_grow_19 : decode cX5_grow 19 = .ok (.iload_n 3, 1) := by decide +kernel
theorem dX5_grow_20 : decode cX5_grow 20 = .ok (.iload 4, 2) := by decide +kernel
theorem dX5_grow_22 : decode cX5_grow 22 = .ok (.invokestatic 79, 3) := by decide +kernel
theorem dX5_grow_25 : decode cX5_grow 25 = .ok (.istore 5, 2) := by decide +kernel
theorem dX5_grow_27 : decode cX5_grow 27 = .ok (.aload_n 0, 1) := by decide +kernel
theorem dX5_grow_28 : decode cX5_grow 28 = .ok (.iload_n 3, 1) := by decide +kernel
theorem dX5_grow_29 : decode cX5_grow 29 = .ok (.iload 4, 2) := by decide +kernel
theorem dX5_grow_31 : decode cX5_grow 31 = .ok (.aload_n 1, 1) := by decide +kernel
theorem dX5_grow_32 : decode cX5_grow 32 = .ok (.iload 5, 2) := by decide +kernel
theorem dX5_grow_34 : decode cX5_grow 34 = .ok (.iaload, 1) := by decide +kernel
theorem dX5_grow_35 : decode cX5_grow 35 = .ok (.iload_n 2, 1) := by decide +kernel
theorem dX5_grow_36 : decode cX5_grow 36 = .ok (.invokevirtual 103, 3) := by decide +kernel
theorem dX5_grow_39 : decode cX5_grow 39 = .ok (.istore 6, 2) := by decide +kernel
theorem dX5_grow_41 : decode cX5_grow 41 = .ok (.aload_n 1, 1) := by decide +kernel
theorem dX5_grow_42 : decode cX5_grow 42 = .ok (.iload 5, 2) := by decide +kernel
theorem dX5_grow_44 : decode cX5_grow 44 = .ok (.aload_n 1, 1) := by decide +kernel
theorem dX5_grow_45 : decode cX5_grow 45 = .ok (.iload 5, 2) := by decide +kernel
theorem dX5_grow_47 : decode cX5_grow 47 = .ok (.iaload, 1) := by decide +kernel
theorem dX5_grow_48 : decode cX5_grow 48 = .ok (.iload 6, 2) := by decide +kernel
theorem dX5_grow_50 : decode cX5_grow 50 = .ok (.iadd, 1) := by decide +kernel
theorem dX5_grow_51 : decode cX5_grow 51 = .ok (.iconst 0, 1) := by decide +kernel
theorem dX5_grow_52 : decode cX5_grow 52 = .ok (.bipush 99, 2) := by decide +kernel
theorem dX5_grow_54 : decode cX5_grow 54 = .ok (.invokestatic 106, 3) := by decide +kernel
theorem dX5_grow_57 : decode cX5_grow 57 = .ok (.iastore, 1) := by decide +kernel
theorem dX5_grow_58 : decode cX5_grow 58 = .ok (.iinc 4 1, 3) := by decide +kernel
theorem dX5_grow_61 : decode cX5_grow 61 = .ok (.goto (-48), 3) := by decide +kernel
theorem dX5_grow_64 : decode cX5_grow 64 = .ok (.iinc 3 1, 3) := by decide +kernel
theorem dX5_grow_67 : decode cX5_grow 67 = .ok (.goto (-65), 3) := by decide +kernel
theorem dX5_grow_70 : decode cX5_grow 70 = .ok (.return_, 1) := by decide +kernel
theorem dX5_goBy_0 : decode cX5_goBy 0 = .ok (.aload_n 0, 1) := by decide +kernel
theorem dX5_goBy_1 : decode cX5_goBy 1 = .ok (.aload_n 0, 1) := by decide +kernel
theorem dX5_goBy_2 : decode cX5_goBy 2 = .ok (.getfield 24, 3) := by decide +kernel
theorem dX5_goBy_5 : decode cX5_goBy 5 = .ok (.aload_n 0, 1) := by decide +kernel
theorem dX5_goBy_6 : decode cX5_goBy 6 = .ok (.getfield 59, 3) := by decide +kernel
theorem dX5_goBy_9 : decode cX5_goBy 9 = .ok (.invokevirtual 109, 3) := by decide +kernel
theorem dX5_goBy_12 : decode cX5_goBy 12 = .ok (.aload_n 0, 1) := by decide +kernel
theorem dX5_goBy_13 : decode cX5_goBy 13 = .ok (.dup, 1) := by decide +kernel
theorem dX5_goBy_14 : decode cX5_goBy 14 = .ok (.getfield 59, 3) := by decide +kernel
theorem dX5_goBy_17 : decode cX5_goBy 17 = .ok (.iconst 1, 1) := by decide +kernel
theorem dX5_goBy_18 : decode cX5_goBy 18 = .ok (.iadd, 1) := by decide +kernel
theorem dX5_goBy_19 : decode cX5_goBy 19 = .ok (.putfield 59, 3) := by decide +kernel
theorem dX5_goBy_22 : decode cX5_goBy 22 = .ok (.return_, 1) := by decide +kernel
theorem dX5_draw_0 : decode cX5_draw 0 = .ok (.aload_n 0, 1) := by decide +kernel
theorem dX5_draw_1 : decode cX5_draw 1 = .ok (.aload_n 0, 1) := by decide +kernel
theorem dX5_draw_2 : decode cX5_draw 2 = .ok (.getfield 30, 3) := by decide +kernel
theorem dX5_draw_5 : decode cX5_draw 5 = .ok (.ldc 113, 2) := by decide +kernel
theorem dX5_draw_7 : decode cX5_draw 7 = .ok (.imul, 1) := by decide +kernel
theorem dX5_draw_8 : decode cX5_draw 8 = .ok (.sipush 12345, 3) := by decide +kernel
theorem dX5_draw_11 : decode cX5_draw 11 = .ok (.iadd, 1) := by decide +kernel
theorem dX5_draw_12 : decode cX5_draw 12 = .ok (.putfield 30, 3) := by decide +kernel
theorem dX5_draw_15 : decode cX5_draw 15 = .ok (.aload_n 0, 1) := by decide +kernel
theorem dX5_draw_16 : decode cX5_draw 16 = .ok (.getfield 30, 3) := by decide +kernel
theorem dX5_draw_19 : decode cX5_draw 19 = .ok (.bipush 8, 2) := by decide +kernel
theorem dX5_draw_21 : decode cX5_draw 21 = .ok (.iushr, 1) := by decide +kernel
theorem dX5_draw_22 : decode cX5_draw 22 = .ok (.ireturn, 1) := by decide +kernel
theorem dX5_steal_0 : decode cX5_steal 0 = .ok (.aload_n 0, 1) := by decide +kernel
theorem dX5_steal_1 : decode cX5_steal 1 = .ok (.getfield 50, 3) := by decide +kernel
theorem dX5_steal_4 : decode cX5_steal 4 = .ok (.ifCond .ne 5, 3) := by decide +kernel
theorem dX5_steal_7 : decode cX5_steal 7 = .ok (.iconst 0, 1) := by decide +kernel
theorem dX5_steal_8 : decode cX5_steal 8 = .ok (.ireturn, 1) := by decide +kernel
theorem dX5_steal_9 : decode cX5_steal 9 = .ok (.aload_n 0, 1) := by decide +kernel
theorem dX5_steal_10 : decode cX5_steal 10 = .ok (.invokevirtual 114, 3) := by decide +kernel
theorem dX5_steal_13 : decode cX5_steal 13 = .ok (.aload_n 0, 1) := by decide +kernel
theorem dX5_steal_14 : decode cX5_steal 14 = .ok (.getfield 50, 3) := by decide +kernel
theorem dX5_steal_17 : decode cX5_steal 17 = .ok (.irem, 1) := by decide +kernel
theorem dX5_steal_18 : decode cX5_steal 18 = .ok (.istore_n 1, 1) := by decide +kernel
theorem dX5_steal_19 : decode cX5_steal 19 = .ok (.aload_n 0, 1) := by decide +kernel
theorem dX5_steal_20 : decode cX5_steal 20 = .ok (.invokevirtual 114, 3) := by decide +kernel
theorem dX5_steal_23 : decode cX5_steal 23 = .ok (.aload_n 0, 1) := by decide +kernel
theorem dX5_steal_24 : decode cX5_steal 24 = .ok (.getfield 50, 3) := by decide +kernel
theorem dX5_steal_27 : decode cX5_steal 27 = .ok (.irem, 1) := by decide +kernel
theorem dX5_steal_28 : decode cX5_steal 28 = .ok (.istore_n 2, 1) := by decide +kernel
theorem dX5_steal_29 : decode cX5_steal 29 = .ok (.aload_n 0, 1) := by decide +kernel
theorem dX5_steal_30 : decode cX5_steal 30 = .ok (.invokevirtual 114, 3) := by decide +kernel
theorem dX5_steal_33 : decode cX5_steal 33 = .ok (.iconst 5, 1) := by decide +kernel
theorem dX5_steal_34 : decode cX5_steal 34 = .ok (.irem, 1) := by decide +kernel
theorem dX5_steal_35 : decode cX5_steal 35 = .ok (.istore_n 3, 1) := by decide +kernel
theorem dX5_steal_36 : decode cX5_steal 36 = .ok (.iload_n 1, 1) := by decide +kernel
theorem dX5_steal_37 : decode cX5_steal 37 = .ok (.iload_n 2, 1) := by decide +kernel
theorem dX5_steal_38 : decode cX5_steal 38 = .ok (.if_icmp .ne 5, 3) := by decide +kernel
theorem dX5_steal_41 : decode cX5_steal 41 = .ok (.iconst 0, 1) := by decide +kernel
theorem dX5_steal_42 : decode cX5_steal 42 = .ok (.ireturn, 1) := by decide +kernel
theorem dX5_steal_43 : decode cX5_steal 43 = .ok (.bipush 99, 2) := by decide +kernel
theorem dX5_steal_45 : decode cX5_steal 45 = .ok (.aload_n 0, 1) := by decide +kernel
theorem dX5_steal_46 : decode cX5_steal 46 = .ok (.getfield 24, 3) := by decide +kernel
theorem dX5_steal_49 : decode cX5_steal 49 = .ok (.iload_n 2, 1) := by decide +kernel
theorem dX5_steal_50 : decode cX5_steal 50 = .ok (.iload_n 3, 1) := by decide +kernel
theorem dX5_steal_51 : decode cX5_steal 51 = .ok (.invokestatic 79, 3) := by decide +kernel
theorem dX5_steal_54 : decode cX5_steal 54 = .ok (.iaload, 1) := by decide +kernel
theorem dX5_steal_55 : decode cX5_steal 55 = .ok (.isub, 1) := by decide +kernel
theorem dX5_steal_56 : decode cX5_steal 56 = .ok (.istore 4, 2) := by decide +kernel
theorem dX5_steal_58 : decode cX5_steal 58 = .ok (.aload_n 0, 1) := by decide +kernel
theorem dX5_steal_59 : decode cX5_steal 59 = .ok (.getfield 24, 3) := by decide +kernel
theorem dX5_steal_62 : decode cX5_steal 62 = .ok (.iload_n 1, 1) := by decide +kernel
theorem dX5_steal_63 : decode cX5_steal 63 = .ok (.iload_n 3, 1) := by decide +kernel
theorem dX5_steal_64 : decode cX5_steal 64 = .ok (.invokestatic 79, 3) := by decide +kernel
theorem dX5_steal_67 : decode cX5_steal 67 = .ok (.iaload, 1) := by decide +kernel
theorem dX5_steal_68 : decode cX5_steal 68 = .ok (.iload 4, 2) := by decide +kernel
theorem dX5_steal_70 : decode cX5_steal 70 = .ok (.invokestatic 118, 3) := by decide +kernel
theorem dX5_steal_73 : decode cX5_steal 73 = .ok (.iconst 2, 1) := by decide +kernel
theorem dX5_steal_74 : decode cX5_steal 74 = .ok (.idiv, 1) := by decide +kernel
theorem dX5_steal_75 : decode cX5_steal 75 = .ok (.istore 5, 2) := by decide +kernel
theorem dX5_steal_77 : decode cX5_steal 77 = .ok (.aload_n 0, 1) := by decide +kernel
theorem dX5_steal_78 : decode cX5_steal 78 = .ok (.iload_n 1, 1) := by decide +kernel
theorem dX5_steal_79 : decode cX5_steal 79 = .ok (.iload_n 2, 1) := by decide +kernel
theorem dX5_steal_80 : decode cX5_steal 80 = .ok (.iload_n 3, 1) := by decide +kernel
theorem dX5_steal_81 : decode cX5_steal 81 = .ok (.iload 5, 2) := by decide +kernel
theorem dX5_steal_83 : decode cX5_steal 83 = .ok (.invokevirtual 123, 3) := by decide +kernel
theorem dX5_steal_86 : decode cX5_steal 86 = .ok (.iload 5, 2) := by decide +kernel
theorem dX5_steal_88 : decode cX5_steal 88 = .ok (.ireturn, 1) := by decide +kernel
theorem dX5_textOf_0 : decode cX5_textOf 0 = .ok (.iload_n 1, 1) := by decide +kernel
theorem dX5_textOf_1 : decode cX5_textOf 1 = .ok (.ifCond .ne 10, 3) := by decide +kernel
theorem dX5_textOf_4 : decode cX5_textOf 4 = .ok (.aload_n 0, 1) := by decide +kernel
theorem dX5_textOf_5 : decode cX5_textOf 5 = .ok (.getfield 40, 3) := by decide +kernel
theorem dX5_textOf_8 : decode cX5_textOf 8 = .ok (.goto 7, 3) := by decide +kernel
theorem dX5_textOf_11 : decode cX5_textOf 11 = .ok (.aload_n 0, 1) := by decide +kernel
theorem dX5_textOf_12 : decode cX5_textOf 12 = .ok (.getfield 44, 3) := by decide +kernel
theorem dX5_textOf_15 : decode cX5_textOf 15 = .ok (.areturn, 1) := by decide +kernel
theorem dX5_given_0 : decode cX5_given 0 = .ok (.aload_n 0, 1) := by decide +kernel
theorem dX5_given_1 : decode cX5_given 1 = .ok (.iload_n 1, 1) := by decide +kernel
theorem dX5_given_2 : decode cX5_given 2 = .ok (.invokevirtual 127, 3) := by decide +kernel
theorem dX5_given_5 : decode cX5_given 5 = .ok (.astore 5, 2) := by decide +kernel
theorem dX5_given_7 : decode cX5_given 7 = .ok (.aload 5, 2) := by decide +kernel
theorem dX5_given_9 : decode cX5_given 9 = .ok (.invokevirtual 131, 3) := by decide +kernel
theorem dX5_given_12 : decode cX5_given 12 = .ok (.ifCond .eq 15, 3) := by decide +kernel
theorem dX5_given_15 : decode cX5_given 15 = .ok (.aload 5, 2) := by decide +kernel
theorem dX5_given_17 : decode cX5_given 17 = .ok (.iload_n 2, 1) := by decide +kernel
theorem dX5_given_18 : decode cX5_given 18 = .ok (.iload_n 3, 1) := by decide +kernel
theorem dX5_given_19 : decode cX5_given 19 = .ok (.iload 4, 2) := by decide +kernel
theorem dX5_given_21 : decode cX5_given 21 = .ok (.invokevirtual 135, 3) := by decide +kernel
theorem dX5_given_24 : decode cX5_given 24 = .ok (.goto 4, 3) := by decide +kernel
theorem dX5_given_27 : decode cX5_given 27 = .ok (.iload_n 2, 1) := by decide +kernel
theorem dX5_given_28 : decode cX5_given 28 = .ok (.istore 6, 2) := by decide +kernel
theorem dX5_given_30 : decode cX5_given 30 = .ok (.iload_n 1, 1) := by decide +kernel
theorem dX5_given_31 : decode cX5_given 31 = .ok (.ifCond .ne 15, 3) := by decide +kernel
theorem dX5_given_34 : decode cX5_given 34 = .ok (.iload 6, 2) := by decide +kernel
theorem dX5_given_36 : decode cX5_given 36 = .ok (.bipush (-9), 2) := by decide +kernel
theorem dX5_given_38 : decode cX5_given 38 = .ok (.bipush 9, 2) := by decide +kernel
theorem dX5_given_40 : decode cX5_given 40 = .ok (.invokestatic 106, 3) := by decide +kernel
theorem dX5_given_43 : decode cX5_given 43 = .ok (.goto 12, 3) := by decide +kernel
theorem dX5_given_46 : decode cX5_given 46 = .ok (.iload 6, 2) := by decide +kernel
theorem dX5_given_48 : decode cX5_given 48 = .ok (.iconst 0, 1) := by decide +kernel
theorem dX5_given_49 : decode cX5_given 49 = .ok (.sipush 999, 3) := by decide +kernel
theorem dX5_given_52 : decode cX5_given 52 = .ok (.invokestatic 106, 3) := by decide +kernel
theorem dX5_given_55 : decode cX5_given 55 = .ok (.ireturn, 1) := by decide +kernel
theorem dX5_worthOf_0 : decode cX5_worthOf 0 = .ok (.iconst 0, 1) := by decide +kernel
theorem dX5_worthOf_1 : decode cX5_worthOf 1 = .ok (.istore_n 2, 1) := by decide +kernel
theorem dX5_worthOf_2 : decode cX5_worthOf 2 = .ok (.iconst 0, 1) := by decide +kernel
theorem dX5_worthOf_3 : decode cX5_worthOf 3 = .ok (.istore_n 3, 1) := by decide +kernel
theorem dX5_worthOf_4 : decode cX5_worthOf 4 = .ok (.iload_n 3, 1) := by decide +kernel
theorem dX5_worthOf_5 : decode cX5_worthOf 5 = .ok (.iconst 5, 1) := by decide +kernel
theorem dX5_worthOf_6 : decode cX5_worthOf 6 = .ok (.if_icmp .ge 29, 3) := by decide +kernel
theorem dX5_worthOf_9 : decode cX5_worthOf 9 = .ok (.iload_n 2, 1) := by decide +kernel
theorem dX5_worthOf_10 : decode cX5_worthOf 10 = .ok (.aload_n 0, 1) := by decide +kernel
theorem dX5_worthOf_11 : decode cX5_worthOf 11 = .ok (.iconst 1, 1) := by decide +kernel
theorem dX5_worthOf_12 : decode cX5_worthOf 12 = .ok (.aload_n 0, 1) := by decide +kernel
theorem dX5_worthOf_13 : decode cX5_worthOf 13 = .ok (.getfield 24, 3) := by decide +kernel
theorem dX5_worthOf_16 : decode cX5_worthOf 16 = .ok (.iload_n 1, 1) := by decide +kernel
theorem dX5_worthOf_17 : decode cX5_worthOf 17 = .ok (.iload_n 3, 1) := by decide +kernel
theorem dX5_worthOf_18 : decode cX5_worthOf 18 = .ok (.invokestatic 79, 3) := by decide +kernel
theorem dX5_worthOf_21 : decode cX5_worthOf 21 = .ok (.iaload, 1) := by decide +kernel
theorem dX5_worthOf_22 : decode cX5_worthOf 22 = .ok (.iload_n 3, 1) := by decide +kernel
theorem dX5_worthOf_23 : decode cX5_worthOf 23 = .ok (.iload_n 1, 1) := by decide +kernel
theorem dX5_worthOf_24 : decode cX5_worthOf 24 = .ok (.invokevirtual 100, 3) := by decide +kernel
theorem dX5_worthOf_27 : decode cX5_worthOf 27 = .ok (.iadd, 1) := by decide +kernel
theorem dX5_worthOf_28 : decode cX5_worthOf 28 = .ok (.istore_n 2, 1) := by decide +kernel
theorem dX5_worthOf_29 : decode cX5_worthOf 29 = .ok (.iinc 3 1, 3) := by decide +kernel
theorem dX5_worthOf_32 : decode cX5_worthOf 32 = .ok (.goto (-28), 3) := by decide +kernel
theorem dX5_worthOf_35 : decode cX5_worthOf 35 = .ok (.iload_n 2, 1) := by decide +kernel
theorem dX5_worthOf_36 : decode cX5_worthOf 36 = .ok (.ireturn, 1) := by decide +kernel
theorem dX6_init_0 : decode cX6_init 0 = .ok (.aload_n 0, 1) := by decide +kernel
theorem dX6_init_1 : decode cX6_init 1 = .ok (.invokespecial 3, 3) := by decide +kernel
theorem dX6_init_4 : decode cX6_init 4 = .ok (.aload_n 0, 1) := by decide +kernel
theorem dX6_init_5 : decode cX6_init 5 = .ok (.new 9, 3) := by decide +kernel
theorem dX6_init_8 : decode cX6_init 8 = .ok (.dup, 1) := by decide +kernel
theorem dX6_init_9 : decode cX6_init 9 = .ok (.invokespecial 11, 3) := by decide +kernel
theorem dX6_init_12 : decode cX6_init 12 = .ok (.putfield 12, 3) := by decide +kernel
theorem dX6_init_15 : decode cX6_init 15 = .ok (.aload_n 0, 1) := by decide +kernel
theorem dX6_init_16 : decode cX6_init 16 = .ok (.new 9, 3) := by decide +kernel
theorem dX6_init_19 : decode cX6_init 19 = .ok (.dup, 1) := by decide +kernel
theorem dX6_init_20 : decode cX6_init 20 = .ok (.invokespecial 11, 3) := by decide +kernel
theorem dX6_init_23 : decode cX6_init 23 = .ok (.putfield 16, 3) := by decide +kernel
theorem dX6_init_26 : decode cX6_init 26 = .ok (.aload_n 0, 1) := by decide +kernel
theorem dX6_init_27 : decode cX6_init 27 = .ok (.bipush 7, 2) := by decide +kernel
theorem dX6_init_29 : decode cX6_init 29 = .ok (.newarray .int, 2) := by decide +kernel
theorem dX6_init_31 : decode cX6_init 31 = .ok (.putfield 19, 3) := by decide +kernel
theorem dX6_init_34 : decode cX6_init 34 = .ok (.aload_n 0, 1) := by decide +kernel
theorem dX6_init_35 : decode cX6_init 35 = .ok (.iconst 4, 1) := by decide +kernel
theorem dX6_init_36 : decode cX6_init 36 = .ok (.anewarray 23, 3) := by decide +kernel
theorem dX6_init_39 : decode cX6_init 39 = .ok (.putfield 25, 3) := by decide +kernel
theorem dX6_init_42 : decode cX6_init 42 = .ok (.iconst 0, 1) := by decide +kernel
theorem dX6_init_43 : decode cX6_init 43 = .ok (.istore_n 1, 1) := by decide +kernel
theorem dX6_init_44 : decode cX6_init 44 = .ok (.iload_n 1, 1) := by decide +kernel
theorem dX6_init_45 : decode cX6_init 45 = .ok (.iconst 4, 1) := by decide +kernel
theorem dX6_init_46 : decode cX6_init 46 = .ok (.if_icmp .ge 22, 3) := by decide +kernel
theorem dX6_init_49 : decode cX6_init 49 = .ok (.aload_n 0, 1) := by decide +kernel
theorem dX6_init_50 : decode cX6_init 50 = .ok (.getfield 25, 3) := by decide +kernel
theorem dX6_init_53 : decode cX6_init 53 = .ok (.iload_n 1, 1) := by decide +kernel
theorem dX6_init_54 : decode cX6_init 54 = .ok (.new 23, 3) := by decide +kernel
theorem dX6_init_57 : decode cX6_init 57 = .ok (.dup, 1) := by decide +kernel
theorem dX6_init_58 : decode cX6_init 58 = .ok (.invokespecial 29, 3) := by decide +kernel
theorem dX6_init_61 : decode cX6_init 61 = .ok (.aastore, 1) := by decide +kernel
theorem dX6_init_62 : decode cX6_init 62 = .ok (.iinc 1 1, 3) := by decide +kernel
theorem dX6_init_65 : decode cX6_init 65 = .ok (.goto (-21), 3) := by decide +kernel
theorem dX6_init_68 : decode cX6_init 68 = .ok (.aload_n 0, 1) := by decide +kernel
theorem dX6_init_69 : decode cX6_init 69 = .ok (.new 30, 3) := by decide +kernel
theorem dX6_init_72 : decode cX6_init 72 = .ok (.dup, 1) := by decide +kernel
theorem dX6_init_73 : decode cX6_init 73 = .ok (.invokespecial 32, 3) := by decide +kernel
theorem dX6_init_76 : decode cX6_init 76 = .ok (.putfield 33, 3) := by decide +kernel
theorem dX6_init_79 : decode cX6_init 79 = .ok (.aload_n 0, 1) := by decide +kernel
theorem dX6_init_80 : decode cX6_init 80 = .ok (.new 37, 3) := by decide +kernel
theorem dX6_init_83 : decode cX6_init 83 = .ok (.dup, 1) := by decide +kernel
theorem dX6_init_84 : decode cX6_init 84 = .ok (.invokespecial 39, 3) := by decide +kernel
theorem dX6_init_87 : decode cX6_init 87 = .ok (.putfield 40, 3) := by decide +kernel
theorem dX6_init_90 : decode cX6_init 90 = .ok (.aload_n 0, 1) := by decide +kernel
theorem dX6_init_91 : decode cX6_init 91 = .ok (.new 44, 3) := by decide +kernel
theorem dX6_init_94 : decode cX6_init 94 = .ok (.dup, 1) := by decide +kernel
theorem dX6_init_95 : decode cX6_init 95 = .ok (.invokespecial 46, 3) := by decide +kernel
theorem dX6_init_98 : decode cX6_init 98 = .ok (.putfield 47, 3) := by decide +kernel
theorem dX6_init_101 : decode cX6_init 101 = .ok (.return_, 1) := by decide +kernel
theorem dX6_person_0 : decode cX6_person 0 = .ok (.iload_n 1, 1) := by decide +kernel
theorem dX6_person_1 : decode cX6_person 1 = .ok (.invokestatic 51, 3) := by decide +kernel
theorem dX6_person_4 : decode cX6_person 4 = .ok (.ifCond .eq 9, 3) := by decide +kernel
theorem dX6_person_7 : decode cX6_person 7 = .ok (.aload_n 0, 1) := by decide +kernel
theorem dX6_person_8 : decode cX6_person 8 = .ok (.iconst 1, 1) := by decide +kernel
theorem dX6_person_9 : decode cX6_person 9 = .ok (.invokevirtual 55, 3) := by decide +kernel
theorem dX6_person_12 : decode cX6_person 12 = .ok (.ireturn, 1) := by decide +kernel
theorem dX6_person_13 : decode cX6_person 13 = .ok (.aload_n 0, 1) := by decide +kernel
theorem dX6_person_14 : decode cX6_person 14 = .ok (.getfield 12, 3) := by decide +kernel
theorem dX6_person_17 : decode cX6_person 17 = .ok (.getfield 59, 3) := by decide +kernel
theorem dX6_person_20 : decode cX6_person 20 = .ok (.bipush 8, 2) := by decide +kernel
theorem dX6_person_22 : decode cX6_person 22 = .ok (.if_icmp .lt 9, 3) := by decide +kernel
theorem dX6_person_25 : decode cX6_person 25 = .ok (.aload_n 0, 1) := by decide +kernel
theorem dX6_person_26 : decode cX6_person 26 = .ok (.iconst 4, 1) := by decide +kernel
theorem dX6_person_27 : decode cX6_person 27 = .ok (.invokevirtual 55, 3) := by decide +kernel
theorem dX6_person_30 : decode cX6_person 30 = .ok (.ireturn, 1) := by decide +kernel
theorem dX6_person_31 : decode cX6_person 31 = .ok (.aload_n 0, 1) := by decide +kernel
theorem dX6_person_32 : decode cX6_person 32 = .ok (.getfield 12, 3) := by decide +kernel
theorem dX6_person_35 : decode cX6_person 35 = .ok (.iload_n 1, 1) := by decide +kernel
theorem dX6_person_36 : decode cX6_person 36 = .ok (.invokevirtual 63, 3) := by decide +kernel
theorem dX6_person_39 : decode cX6_person 39 = .ok (.ireturn, 1) := by decide +kernel
theorem dX6_child_0 : decode cX6_child 0 = .ok (.iload_n 1, 1) := by decide +kernel
theorem dX6_child_1 : decode cX6_child 1 = .ok (.invokestatic 51, 3) := by decide +kernel
theorem dX6_child_4 : decode cX6_child 4 = .ok (.ifCond .ne 12, 3) := by decide +kernel
theorem dX6_child_7 : decode cX6_child 7 = .ok (.aload_n 0, 1) := by decide +kernel
theorem dX6_child_8 : decode cX6_child 8 = .ok (.iload_n 2, 1) := by decide +kernel
theorem dX6_child_9 : decode cX6_child 9 = .ok (.iload_n 3, 1) := by decide +kernel
theorem dX6_child_10 : decode cX6_child 10 = .ok (.invokevirtual 66, 3) := by decide +kernel
theorem dX6_child_13 : decode cX6_child 13 = .ok (.ifCond .eq 9, 3) := by decide +kernel
theorem dX6_child_16 : decode cX6_child 16 = .ok (.aload_n 0, 1) := by decide +kernel
theorem dX6_child_17 : decode cX6_child 17 = .ok (.iconst 1, 1) := by decide +kernel
theorem dX6_child_18 : decode cX6_child 18 = .ok (.invokevirtual 55, 3) := by decide +kernel
theorem dX6_child_21 : decode cX6_child 21 = .ok (.ireturn, 1) := by decide +kernel
theorem dX6_child_22 : decode cX6_child 22 = .ok (.aload_n 0, 1) := by decide +kernel
theorem dX6_child_23 : decode cX6_child 23 = .ok (.getfield 12, 3) := by decide +kernel
theorem dX6_child_26 : decode cX6_child 26 = .ok (.getfield 59, 3) := by decide +kernel
theorem dX6_child_29 : decode cX6_child 29 = .ok (.bipush 8, 2) := by decide +kernel
theorem dX6_child_31 : decode cX6_child 31 = .ok (.if_icmp .lt 9, 3) := by decide +kernel
theorem dX6_child_34 : decode cX6_child 34 = .ok (.aload_n 0, 1) := by decide +kernel
theorem dX6_child_35 : decode cX6_child 35 = .ok (.iconst 4, 1) := by decide +kernel
theorem dX6_child_36 : decode cX6_child 36 = .ok (.invokevirtual 55, 3) := by decide +kernel
theorem dX6_child_39 : decode cX6_child 39 = .ok (.ireturn, 1) := by decide +kernel
theorem dX6_child_40 : decode cX6_child 40 = .ok (.aload_n 0, 1) := by decide +kernel
theorem dX6_child_41 : decode cX6_child 41 = .ok (.getfield 12, 3) := by decide +kernel
theorem dX6_child_44 : decode cX6_child 44 = .ok (.iload_n 1, 1) := by decide +kernel
theorem dX6_child_45 : decode cX6_child 45 = .ok (.iload_n 2, 1) := by decide +kernel
theorem dX6_child_46 : decode cX6_child 46 = .ok (.iload_n 3, 1) := by decide +kernel
theorem dX6_child_47 : decode cX6_child 47 = .ok (.invokevirtual 70, 3) := by decide +kernel
theorem dX6_child_50 : decode cX6_child 50 = .ok (.ireturn, 1) := by decide +kernel
theorem dX6_personIs_0 : decode cX6_personIs 0 = .ok (.aload_n 0, 1) := by decide +kernel
theorem dX6_personIs_1 : decode cX6_personIs 1 = .ok (.iload_n 1, 1) := by decide +kernel
theorem dX6_personIs_2 : decode cX6_personIs 2 = .ok (.invokevirtual 74, 3) := by decide +kernel
theorem dX6_personIs_5 : decode cX6_personIs 5 = .ok (.ifCond .eq 9, 3) := by decide +kernel
theorem dX6_personIs_8 : decode cX6_personIs 8 = .ok (.aload_n 0, 1) := by decide +kernel
theorem dX6_personIs_9 : decode cX6_personIs 9 = .ok (.iconst 1, 1) := by decide +kernel
theorem dX6_personIs_10 : decode cX6_personIs 10 = .ok (.invokevirtual 55, 3) := by decide +kernel
theorem dX6_personIs_13 : decode cX6_personIs 13 = .ok (.ireturn, 1) := by decide +kernel
theorem dX6_personIs_14 : decode cX6_personIs 14 = .ok (.iload_n 2, 1) := by decide +kernel
theorem dX6_personIs_15 : decode cX6_personIs 15 = .ok (.tableswitch 110 0 6 #[41, 50, 59, 69, 79, 91, 100], 41) := by decide +kernel
theorem dX6_personIs_56 : decode cX6_personIs 56 = .ok (.aload_n 0, 1) := by decide +kernel
theorem dX6_personIs_57 : decode cX6_personIs 57 = .ok (.getfield 12, 3) := by decide +kernel
theorem dX6_personIs_60 : decode cX6_personIs 60 = .ok (.iload_n 1, 1) := by decide +kernel
theorem dX6_personIs_61 : decode cX6_personIs 61 = .ok (.invokevirtual 77, 3) := by decide +kernel
theorem dX6_personIs_64 : decode cX6_personIs 64 = .ok (.ireturn, 1) := by decide +kernel
theorem dX6_personIs_65 : decode cX6_personIs 65 = .ok (.aload_n 0, 1) := by decide +kernel
theorem dX6_personIs_66 : decode cX6_personIs 66 = .ok (.getfield 12, 3) := by decide +kernel
theorem dX6_personIs_69 : decode cX6_personIs 69 = .ok (.iload_n 1, 1) := by decide +kernel
theorem dX6_personIs_70 : decode cX6_personIs 70 = .ok (.invokevirtual 80, 3) := by decide +kernel
theorem dX6_personIs_73 : decode cX6_personIs 73 = .ok (.ireturn, 1) := by decide +kernel
theorem dX6_personIs_74 : decode cX6_personIs 74 = .ok (.aload_n 0, 1) := by decide +kernel
theorem dX6_personIs_75 : decode cX6_personIs 75 = .ok (.getfield 12, 3) := by decide +kernel
theorem dX6_personIs_78 : decode cX6_personIs 78 = .ok (.getfield 83, 3) := by decide +kernel
theorem dX6_personIs_81 : decode cX6_personIs 81 = .ok (.iload_n 1, 1) := by decide +kernel
theorem dX6_personIs_82 : decode cX6_personIs 82 = .ok (.iaload, 1) := by decide +kernel
theorem dX6_personIs_83 : decode cX6_personIs 83 = .ok (.ireturn, 1) := by decide +kernel
theorem dX6_personIs_84 : decode cX6_personIs 84 = .ok (.aload_n 0, 1) := by decide +kernel
theorem dX6_personIs_85 : decode cX6_personIs 85 = .ok (.getfield 12, 3) := by decide +kernel
theorem dX6_personIs_88 : decode cX6_personIs 88 = .ok (.getfield 86, 3) := by decide +kernel
theorem dX6_personIs_91 : decode cX6_personIs 91 = .ok (.iload_n 1, 1) := by decide +kernel
theorem dX6_personIs_92 : decode cX6_personIs 92 = .ok (.iaload, 1) := by decide +kernel
theorem dX6_personIs_93 : decode cX6_personIs 93 = .ok (.ireturn, 1) := by decide +kernel
theorem dX6_personIs_94 : decode cX6_personIs 94 = .ok (.aload_n 0, 1) := by decide +kernel
theorem dX6_personIs_95 : decode cX6_personIs 95 = .ok (.getfield 12, 3) := by decide +kernel
theorem dX6_personIs_98 : decode cX6_personIs 98 = .ok (.getfield 89, 3) := by decide +kernel
theorem dX6_personIs_101 : decode cX6_personIs 101 = .ok (.iload_n 1, 1) := by decide +kernel
theorem dX6_personIs_102 : decode cX6_personIs 102 = .ok (.invokestatic 92, 3) := by decide +kernel
theorem dX6_personIs_105 : decode cX6_personIs 105 = .ok (.ireturn, 1) := by decide +kernel
theorem dX6_personIs_106 : decode cX6_personIs 106 = .ok (.aload_n 0, 1) := by decide +kernel
theorem dX6_personIs_107 : decode cX6_personIs 107 = .ok (.getfield 12, 3) := by decide +kernel
theorem dX6_personIs_110 : decode cX6_personIs 110 = .ok (.iload_n 1, 1) := by decide +kernel
theorem dX6_personIs_111 : decode cX6_personIs 111 = .ok (.invokevirtual 96, 3) := by decide +kernel
theorem dX6_personIs_114 : decode cX6_personIs 114 = .ok (.ireturn, 1) := by decide +kernel
theorem dX6_personIs_115 : decode cX6_personIs 115 = .ok (.aload_n 0, 1) := by decide +kernel
theorem dX6_personIs_116 : decode cX6_personIs 116 = .ok (.getfield 12, 3) := by decide +kernel
theorem dX6_personIs_119 : decode cX6_personIs 119 = .ok (.getfield 99, 3) := by decide +kernel
theorem dX6_personIs_122 : decode cX6_personIs 122 = .ok (.iload_n 1, 1) := by decide +kernel
theorem dX6_personIs_123 : decode cX6_personIs 123 = .ok (.iaload, 1) := by decide +kernel
theorem dX6_personIs_124 : decode cX6_personIs 124 = .ok (.ireturn, 1) := by decide +kernel
theorem dX6_personIs_125 : decode cX6_personIs 125 = .ok (.aload_n 0, 1) := by decide +kernel
theorem dX6_personIs_126 : decode cX6_personIs 126 = .ok (.iconst 1, 1) := by decide +kernel
theorem dX6_personIs_127 : decode cX6_personIs 127 = .ok (.invokevirtual 55, 3) := by decide +kernel
theorem dX6_personIs_130 : decode cX6_personIs 130 = .ok (.ireturn, 1) := by decide +kernel
theorem dX6_become_0 : decode cX6_become 0 = .ok (.aload_n 0, 1) := by decide +kernel
theorem dX6_become_1 : decode cX6_become 1 = .ok (.iload_n 1, 1) := by decide +kernel
theorem dX6_become_2 : decode cX6_become 2 = .ok (.invokevirtual 74, 3) := by decide +kernel
theorem dX6_become_5 : decode cX6_become 5 = .ok (.ifCond .ne 10, 3) := by decide +kernel
theorem dX6_become_8 : decode cX6_become 8 = .ok (.iload_n 2, 1) := by decide +kernel
theorem dX6_become_9 : decode cX6_become 9 = .ok (.invokestatic 51, 3) := by decide +kernel
theorem dX6_become_12 : decode cX6_become 12 = .ok (.ifCond .eq 9, 3) := by decide +kernel
theorem dX6_become_15 : decode cX6_become 15 = .ok (.aload_n 0, 1) := by decide +kernel
theorem dX6_become_16 : decode cX6_become 16 = .ok (.iconst 1, 1) := by decide +kernel
theorem dX6_become_17 : decode cX6_become 17 = .ok (.invokevirtual 55, 3) := by decide +kernel
theorem dX6_become_20 : decode cX6_become 20 = .ok (.ireturn, 1) := by decide +kernel
theorem dX6_become_21 : decode cX6_become 21 = .ok (.aload_n 0, 1) := by decide +kernel
theorem dX6_become_22 : decode cX6_become 22 = .ok (.getfield 12, 3) := by decide +kernel
theorem dX6_become_25 : decode cX6_become 25 = .ok (.iload_n 1, 1) := by decide +kernel
theorem dX6_become_26 : decode cX6_become 26 = .ok (.invokevirtual 77, 3) := by decide +kernel
theorem dX6_become_29 : decode cX6_become 29 = .ok (.istore_n 3, 1) := by decide +kernel
theorem dX6_become_30 : decode cX6_become 30 = .ok (.aload_n 0, 1) := by decide +kernel
theorem dX6_become_31 : decode cX6_become 31 = .ok (.getfield 12, 3) := by decide +kernel
theorem dX6_become_34 : decode cX6_become 34 = .ok (.getfield 102, 3) := by decide +kernel
theorem dX6_become_37 : decode cX6_become 37 = .ok (.iload_n 1, 1) := by decide +kernel
theorem dX6_become_38 : decode cX6_become 38 = .ok (.iload_n 2, 1) := by decide +kernel
theorem dX6_become_39 : decode cX6_become 39 = .ok (.iastore, 1) := by decide +kernel
theorem dX6_become_40 : decode cX6_become 40 = .ok (.iload_n 3, 1) := by decide +kernel
theorem dX6_become_41 : decode cX6_become 41 = .ok (.ireturn, 1) := by decide +kernel
theorem dX6_as_0 : decode cX6_as 0 = .ok (.aload_n 0, 1) := by decide +kernel
theorem dX6_as_1 : decode cX6_as 1 = .ok (.iload_n 1, 1) := by decide +kernel
theorem dX6_as_2 : decode cX6_as 2 = .ok (.invokevirtual 74, 3) := by decide +kernel
theorem dX6_as_5 : decode cX6_as 5 = .ok (.ifCond .ne 13, 3) := by decide +kernel
theorem dX6_as_8 : decode cX6_as 8 = .ok (.iload_n 2, 1) := by decide +kernel
theorem dX6_as_9 : decode cX6_as 9 = .ok (.ifCond .lt 9, 3) := by decide +kernel
theorem dX6_as_12 : decode cX6_as 12 = .ok (.iload_n 2, 1) := by decide +kernel
theorem dX6_as_13 : decode cX6_as 13 = .ok (.bipush 7, 2) := by decide +kernel
theorem dX6_as_15 : decode cX6_as 15 = .ok (.if_icmp .lt 9, 3) := by decide +kernel
theorem dX6_as_18 : decode cX6_as 18 = .ok (.aload_n 0, 1) := by decide +kernel
theorem dX6_as_19 : decode cX6_as 19 = .ok (.iconst 1, 1) := by decide +kernel
theorem dX6_as_20 : decode cX6_as 20 = .ok (.invokevirtual 55, 3) := by decide +kernel
theorem dX6_as_23 : decode cX6_as 23 = .ok (.ireturn, 1) := by decide +kernel
theorem dX6_as_24 : decode cX6_as 24 = .ok (.aload_n 0, 1) := by decide +kernel
theorem dX6_as_25 : decode cX6_as 25 = .ok (.getfield 12, 3) := by decide +kernel
theorem dX6_as_28 : decode cX6_as 28 = .ok (.iload_n 1, 1) := by decide +kernel
theorem dX6_as_29 : decode cX6_as 29 = .ok (.invokevirtual 77, 3) := by decide +kernel
theorem dX6_as_32 : decode cX6_as 32 = .ok (.iload_n 2, 1) := by decide +kernel
theorem dX6_as_33 : decode cX6_as 33 = .ok (.invokestatic 105, 3) := by decide +kernel
theorem dX6_as_36 : decode cX6_as 36 = .ok (.ifCond .ne 9, 3) := by decide +kernel
theorem dX6_as_39 : decode cX6_as 39 = .ok (.aload_n 0, 1) := by decide +kernel
theorem dX6_as_40 : decode cX6_as 40 = .ok (.iconst 5, 1) := by decide +kernel
theorem dX6_as_41 : decode cX6_as 41 = .ok (.invokevirtual 55, 3) := by decide +kernel
theorem dX6_as_44 : decode cX6_as 44 = .ok (.ireturn, 1) := by decide +kernel
theorem dX6_as_45 : decode cX6_as 45 = .ok (.aload_n 0, 1) := by decide +kernel
theorem dX6_as_46 : decode cX6_as 46 = .ok (.getfield 12, 3) := by decide +kernel
theorem dX6_as_49 : decode cX6_as 49 = .ok (.iload_n 1, 1) := by decide +kernel
theorem dX6_as_50 : decode cX6_as 50 = .ok (.invokevirtual 80, 3) := by decide +kernel
theorem dX6_as_53 : decode cX6_as 53 = .ok (.ireturn, 1) := by decide +kernel
theorem dX6_hold_0 : decode cX6_hold 0 = .ok (.aload_n 0, 1) := by decide +kernel
theorem dX6_hold_1 : decode cX6_hold 1 = .ok (.iload_n 1, 1) := by decide +kernel
theorem dX6_hold_2 : decode cX6_hold 2 = .ok (.invokevirtual 74, 3) := by decide +kernel
theorem dX6_hold_5 : decode cX6_hold 5 = .ok (.ifCond .ne 10, 3) := by decide +kernel
theorem dX6_hold_8 : decode cX6_hold 8 = .ok (.iload_n 2, 1) := by decide +kernel
theorem dX6_hold_9 : decode cX6_hold 9 = .ok (.invokestatic 108, 3) := by decide +kernel
theorem dX6_hold_12 : decode cX6_hold 12 = .ok (.ifCond .eq 9, 3) := by decide +kernel
theorem dX6_hold_15 : decode cX6_hold 15 = .ok (.aload_n 0, 1) := by decide +kernel
theorem dX6_hold_16 : decode cX6_hold 16 = .ok (.iconst 1, 1) := by decide +kernel
theorem dX6_hold_17 : decode cX6_hold 17 = .ok (.invokevirtual 55, 3) := by decide +kernel
theorem dX6_hold_20 : decode cX6_hold 20 = .ok (.ireturn, 1) := by decide +kernel
theorem dX6_hold_21 : decode cX6_hold 21 = .ok (.aload_n 0, 1) := by decide +kernel
theorem dX6_hold_22 : decode cX6_hold 22 = .ok (.getfield 12, 3) := by decide +kernel
theorem dX6_hold_25 : decode cX6_hold 25 = .ok (.getfield 89, 3) := by decide +kernel
theorem dX6_hold_28 : decode cX6_hold 28 = .ok (.iload_n 1, 1) := by decide +kernel
theorem dX6_hold_29 : decode cX6_hold 29 = .ok (.iload_n 2, 1) := by decide +kernel
theorem dX6_hold_30 : decode cX6_hold 30 = .ok (.invokestatic 111, 3) := by decide +kernel
theorem dX6_hold_33 : decode cX6_hold 33 = .ok (.iaload, 1) := by decide +kernel
theorem dX6_hold_34 : decode cX6_hold 34 = .ok (.ireturn, 1) := by decide +kernel
theorem dX6_spoon_0 : decode cX6_spoon 0 = .ok (.aload_n 0, 1) := by decide +kernel
theorem dX6_spoon_1 : decode cX6_spoon 1 = .ok (.iload_n 1, 1) := by decide +kernel
theorem dX6_spoon_2 : decode cX6_spoon 2 = .ok (.invokevirtual 74, 3) := by decide +kernel
theorem dX6_spoon_5 : decode cX6_spoon 5 = .ok (.ifCond .ne 20, 3) := by decide +kernel
theorem dX6_spoon_8 : decode cX6_spoon 8 = .ok (.iload_n 2, 1) := by decide +kernel
theorem dX6_spoon_9 : decode cX6_spoon 9 = .ok (.invokestatic 108, 3) := by decide +kernel
theorem dX6_spoon_12 : decode cX6_spoon 12 = .ok (.ifCond .ne 13, 3) := by decide +kernel
theorem dX6_spoon_15 : decode cX6_spoon 15 = .ok (.iload_n 3, 1) := by decide +kernel
theorem dX6_spoon_16 : decode cX6_spoon 16 = .ok (.iconst 0, 1) := by decide +kernel
theorem dX6_spoon_17 : decode cX6_spoon 17 = .ok (.bipush 99, 2) := by decide +kernel
theorem dX6_spoon_19 : decode cX6_spoon 19 = .ok (.invokestatic 115, 3) := by decide +kernel
theorem dX6_spoon_22 : decode cX6_spoon 22 = .ok (.ifCond .eq 9, 3) := by decide +kernel
theorem dX6_spoon_25 : decode cX6_spoon 25 = .ok (.aload_n 0, 1) := by decide +kernel
theorem dX6_spoon_26 : decode cX6_spoon 26 = .ok (.iconst 1, 1) := by decide +kernel
theorem dX6_spoon_27 : decode cX6_spoon 27 = .ok (.invokevirtual 55, 3) := by decide +kernel
theorem dX6_spoon_30 : decode cX6_spoon 30 = .ok (.ireturn, 1) := by decide +kernel
theorem dX6_spoon_31 : decode cX6_spoon 31 = .ok (.aload_n 0, 1) := by decide +kernel
theorem dX6_spoon_32 : decode cX6_spoon 32 = .ok (.getfield 12, 3) := by decide +kernel
theorem dX6_spoon_35 : decode cX6_spoon 35 = .ok (.getfield 89, 3) := by decide +kernel
theorem dX6_spoon_38 : decode cX6_spoon 38 = .ok (.iload_n 1, 1) := by decide +kernel
theorem dX6_spoon_39 : decode cX6_spoon 39 = .ok (.iload_n 2, 1) := by decide +kernel
theorem dX6_spoon_40 : decode cX6_spoon 40 = .ok (.invokestatic 111, 3) := by decide +kernel
theorem dX6_spoon_43 : decode cX6_spoon 43 = .ok (.iaload, 1) := by decide +kernel
theorem dX6_spoon_44 : decode cX6_spoon 44 = .ok (.istore 4, 2) := by decide +kernel
theorem dX6_spoon_46 : decode cX6_spoon 46 = .ok (.aload_n 0, 1) := by decide +kernel
theorem dX6_spoon_47 : decode cX6_spoon 47 = .ok (.getfield 12, 3) := by decide +kernel
theorem dX6_spoon_50 : decode cX6_spoon 50 = .ok (.getfield 89, 3) := by decide +kernel
theorem dX6_spoon_53 : decode cX6_spoon 53 = .ok (.iload_n 1, 1) := by decide +kernel
theorem dX6_spoon_54 : decode cX6_spoon 54 = .ok (.iload_n 2, 1) := by decide +kernel
theorem dX6_spoon_55 : decode cX6_spoon 55 = .ok (.invokestatic 111, 3) := by decide +kernel
theorem dX6_spoon_58 : decode cX6_spoon 58 = .ok (.iload_n 3, 1) := by decide +kernel
theorem dX6_spoon_59 : decode cX6_spoon 59 = .ok (.iastore, 1) := by decide +kernel
theorem dX6_spoon_60 : decode cX6_spoon 60 = .ok (.iload 4, 2) := by decide +kernel
theorem dX6_spoon_62 : decode cX6_spoon 62 = .ok (.ireturn, 1) := by decide +kernel
theorem dX6_gain_0 : decode cX6_gain 0 = .ok (.aload_n 0, 1) := by decide +kernel
theorem dX6_gain_1 : decode cX6_gain 1 = .ok (.iload_n 1, 1) := by decide +kernel
theorem dX6_gain_2 : decode cX6_gain 2 = .ok (.invokevirtual 74, 3) := by decide +kernel
theorem dX6_gain_5 : decode cX6_gain 5 = .ok (.ifCond .ne 10, 3) := by decide +kernel
theorem dX6_gain_8 : decode cX6_gain 8 = .ok (.iload_n 2, 1) := by decide +kernel
theorem dX6_gain_9 : decode cX6_gain 9 = .ok (.invokestatic 108, 3) := by decide +kernel
theorem dX6_gain_12 : decode cX6_gain 12 = .ok (.ifCond .eq 9, 3) := by decide +kernel
theorem dX6_gain_15 : decode cX6_gain 15 = .ok (.aload_n 0, 1) := by decide +kernel
theorem dX6_gain_16 : decode cX6_gain 16 = .ok (.iconst 1, 1) := by decide +kernel
theorem dX6_gain_17 : decode cX6_gain 17 = .ok (.invokevirtual 55, 3) := by decide +kernel
theorem dX6_gain_20 : decode cX6_gain 20 = .ok (.ireturn, 1) := by decide +kernel
theorem dX6_gain_21 : decode cX6_gain 21 = .ok (.aload_n 0, 1) := by decide +kernel
theorem dX6_gain_22 : decode cX6_gain 22 = .ok (.getfield 12, 3) := by decide +kernel
theorem dX6_gain_25 : decode cX6_gain 25 = .ok (.iload_n 1, 1) := by decide +kernel
theorem dX6_gain_26 : decode cX6_gain 26 = .ok (.iload_n 2, 1) := by decide +kernel
theorem dX6_gain_27 : decode cX6_gain 27 = .ok (.aload_n 0, 1) := by decide +kernel
theorem dX6_gain_28 : decode cX6_gain 28 = .ok (.getfield 12, 3) := by decide +kernel
theorem dX6_gain_31 : decode cX6_gain 31 = .ok (.getfield 89, 3) := by decide +kernel
theorem dX6_gain_34 : decode cX6_gain 34 = .ok (.iload_n 1, 1) := by decide +kernel
theorem dX6_gain_35 : decode cX6_gain 35 = .ok (.iload_n 2, 1) := by decide +kernel
theorem dX6_gain_36 : decode cX6_gain 36 = .ok (.invokestatic 111, 3) := by decide +kernel
theorem dX6_gain_39 : decode cX6_gain 39 = .ok (.iaload, 1) := by decide +kernel
theorem dX6_gain_40 : decode cX6_gain 40 = .ok (.aload_n 0, 1) := by decide +kernel
theorem dX6_gain_41 : decode cX6_gain 41 = .ok (.getfield 12, 3) := by decide +kernel
theorem dX6_gain_44 : decode cX6_gain 44 = .ok (.getfield 119, 3) := by decide +kernel
theorem dX6_gain_47 : decode cX6_gain 47 = .ok (.invokevirtual 122, 3) := by decide +kernel
theorem dX6_gain_50 : decode cX6_gain 50 = .ok (.ireturn, 1) := by decide +kernel
theorem dX6_lend_0 : decode cX6_lend 0 = .ok (.aload_n 0, 1) := by decide +kernel
theorem dX6_lend_1 : decode cX6_lend 1 = .ok (.iload_n 1, 1) := by decide +kernel
theorem dX6_lend_2 : decode cX6_lend 2 = .ok (.iload_n 2, 1) := by decide +kernel
theorem dX6_lend_3 : decode cX6_lend 3 = .ok (.invokevirtual 66, 3) := by decide +kernel
theorem dX6_lend_6 : decode cX6_lend 6 = .ok (.ifCond .ne 21, 3) := by decide +kernel
theorem dX6_lend_9 : decode cX6_lend 9 = .ok (.iload_n 3, 1) := by decide +kernel
theorem dX6_lend_10 : decode cX6_lend 10 = .ok (.invokestatic 108, 3) := by decide +kernel
theorem dX6_lend_13 : decode cX6_lend 13 = .ok (.ifCond .ne 14, 3) := by decide +kernel
theorem dX6_lend_16 : decode cX6_lend 16 = .ok (.iload 4, 2) := by decide +kernel
theorem dX6_lend_18 : decode cX6_lend 18 = .ok (.iconst 1, 1) := by decide +kernel
theorem dX6_lend_19 : decode cX6_lend 19 = .ok (.bipush 99, 2) := by decide +kernel
theorem dX6_lend_21 : decode cX6_lend 21 = .ok (.invokestatic 115, 3) := by decide +kernel
theorem dX6_lend_24 : decode cX6_lend 24 = .ok (.ifCond .eq 9, 3) := by decide +kernel
theorem dX6_lend_27 : decode cX6_lend 27 = .ok (.aload_n 0, 1) := by decide +kernel
theorem dX6_lend_28 : decode cX6_lend 28 = .ok (.iconst 1, 1) := by decide +kernel
theorem dX6_lend_29 : decode cX6_lend 29 = .ok (.invokevirtual 55, 3) := by decide +kernel
theorem dX6_lend_32 : decode cX6_lend 32 = .ok (.ireturn, 1) := by decide +kernel
theorem dX6_lend_33 : decode cX6_lend 33 = .ok (.iload_n 2, 1) := by decide +kernel
theorem dX6_lend_34 : decode cX6_lend 34 = .ok (.iload_n 1, 1) := by decide +kernel
theorem dX6_lend_35 : decode cX6_lend 35 = .ok (.invokestatic 126, 3) := by decide +kernel
theorem dX6_lend_38 : decode cX6_lend 38 = .ok (.istore 5, 2) := by decide +kernel
theorem dX6_lend_40 : decode cX6_lend 40 = .ok (.aload_n 0, 1) := by decide +kernel
theorem dX6_lend_41 : decode cX6_lend 41 = .ok (.getfield 12, 3) := by decide +kernel
theorem dX6_lend_44 : decode cX6_lend 44 = .ok (.iload_n 1, 1) := by decide +kernel
theorem dX6_lend_45 : decode cX6_lend 45 = .ok (.iload_n 2, 1) := by decide +kernel
theorem dX6_lend_46 : decode cX6_lend 46 = .ok (.iload_n 3, 1) := by decide +kernel
theorem dX6_lend_47 : decode cX6_lend 47 = .ok (.iload 4, 2) := by decide +kernel
theorem dX6_lend_49 : decode cX6_lend 49 = .ok (.invokevirtual 129, 3) := by decide +kernel
theorem dX6_lend_52 : decode cX6_lend 52 = .ok (.ifCond .eq 22, 3) := by decide +kernel
theorem dX6_lend_55 : decode cX6_lend 55 = .ok (.aload_n 0, 1) := by decide +kernel
theorem dX6_lend_56 : decode cX6_lend 56 = .ok (.getfield 12, 3) := by decide +kernel
theorem dX6_lend_59 : decode cX6_lend 59 = .ok (.getfield 133, 3) := by decide +kernel
theorem dX6_lend_62 : decode cX6_lend 62 = .ok (.iload 5, 2) := by decide +kernel
theorem dX6_lend_64 : decode cX6_lend 64 = .ok (.iaload, 1) := by decide +kernel
theorem dX6_lend_65 : decode cX6_lend 65 = .ok (.iload 4, 2) := by decide +kernel
theorem dX6_lend_67 : decode cX6_lend 67 = .ok (.iadd, 1) := by decide +kernel
theorem dX6_lend_68 : decode cX6_lend 68 = .ok (.sipush 999, 3) := by decide +kernel
theorem dX6_lend_71 : decode cX6_lend 71 = .ok (.if_icmp .le 9, 3) := by decide +kernel
theorem dX6_lend_74 : decode cX6_lend 74 = .ok (.aload_n 0, 1) := by decide +kernel
theorem dX6_lend_75 : decode cX6_lend 75 = .ok (.iconst 3, 1) := by decide +kernel
theorem dX6_lend_76 : decode cX6_lend 76 = .ok (.invokevirtual 55, 3) := by decide +kernel
theorem dX6_lend_79 : decode cX6_lend 79 = .ok (.ireturn, 1) := by decide +kernel
theorem dX6_lend_80 : decode cX6_lend 80 = .ok (.aload_n 0, 1) := by decide +kernel
theorem dX6_lend_81 : decode cX6_lend 81 = .ok (.getfield 12, 3) := by decide +kernel
theorem dX6_lend_84 : decode cX6_lend 84 = .ok (.iload_n 1, 1) := by decide +kernel
theorem dX6_lend_85 : decode cX6_lend 85 = .ok (.iload_n 2, 1) := by decide +kernel
theorem dX6_lend_86 : decode cX6_lend 86 = .ok (.iload_n 3, 1) := by decide +kernel
theorem dX6_lend_87 : decode cX6_lend 87 = .ok (.iload 4, 2) := by decide +kernel
theorem dX6_lend_89 : decode cX6_lend 89 = .ok (.invokevirtual 136, 3) := by decide +kernel
theorem dX6_lend_92 : decode cX6_lend 92 = .ok (.aload_n 0, 1) := by decide +kernel
theorem dX6_lend_93 : decode cX6_lend 93 = .ok (.getfield 12, 3) := by decide +kernel
theorem dX6_lend_96 : decode cX6_lend 96 = .ok (.getfield 133, 3) := by decide +kernel
theorem dX6_lend_99 : decode cX6_lend 99 = .ok (.iload 5, 2) := by decide +kernel
theorem dX6_lend_101 : decode cX6_lend 101 = .ok (.dup2, 1) := by decide +kernel
theorem dX6_lend_102 : decode cX6_lend 102 = .ok (.iaload, 1) := by decide +kernel
theorem dX6_lend_103 : decode cX6_lend 103 = .ok (.iload 4, 2) := by decide +kernel
theorem dX6_lend_105 : decode cX6_lend 105 = .ok (.iadd, 1) := by decide +kernel
theorem dX6_lend_106 : decode cX6_lend 106 = .ok (.iastore, 1) := by decide +kernel
theorem dX6_lend_107 : decode cX6_lend 107 = .ok (.aload_n 0, 1) := by decide +kernel
theorem dX6_lend_108 : decode cX6_lend 108 = .ok (.getfield 12, 3) := by decide +kernel
theorem dX6_lend_111 : decode cX6_lend 111 = .ok (.getfield 133, 3) := by decide +kernel
theorem dX6_lend_114 : decode cX6_lend 114 = .ok (.iload 5, 2) := by decide +kernel
theorem dX6_lend_116 : decode cX6_lend 116 = .ok (.iaload, 1) := by decide +kernel
theorem dX6_lend_117 : decode cX6_lend 117 = .ok (.ireturn, 1) := by decide +kernel
theorem dX6_repay_0 : decode cX6_repay 0 = .ok (.aload_n 0, 1) := by decide +kernel
theorem dX6_repay_1 : decode cX6_repay 1 = .ok (.iload_n 1, 1) := by decide +kernel
theorem dX6_repay_2 : decode cX6_repay 2 = .ok (.iload_n 2, 1) := by decide +kernel
theorem dX6_repay_3 : decode cX6_repay 3 = .ok (.invokevirtual 66, 3) := by decide +kernel
theorem dX6_repay_6 : decode cX6_repay 6 = .ok (.ifCond .ne 21, 3) := by decide +kernel
theorem dX6_repay_9 : decode cX6_repay 9 = .ok (.iload_n 3, 1) := by decide +kernel
theorem dX6_repay_10 : decode cX6_repay 10 = .ok (.invokestatic 108, 3) := by decide +kernel
theorem dX6_repay_13 : decode cX6_repay 13 = .ok (.ifCond .ne 14, 3) := by decide +kernel
theorem dX6_repay_16 : decode cX6_repay 16 = .ok (.iload 4, 2) := by decide +kernel
theorem dX6_repay_18 : decode cX6_repay 18 = .ok (.iconst 1, 1) := by decide +kernel
theorem dX6_repay_19 : decode cX6_repay 19 = .ok (.bipush 99, 2) := by decide +kernel
theorem dX6_repay_21 : decode cX6_repay 21 = .ok (.invokestatic 115, 3) := by decide +kernel
theorem dX6_repay_24 : decode cX6_repay 24 = .ok (.ifCond .eq 9, 3) := by decide +kernel
theorem dX6_repay_27 : decode cX6_repay 27 = .ok (.aload_n 0, 1) := by decide +kernel
theorem dX6_repay_28 : decode cX6_repay 28 = .ok (.iconst 1, 1) := by decide +kernel
theorem dX6_repay_29 : decode cX6_repay 29 = .ok (.invokevirtual 55, 3) := by decide +kernel
theorem dX6_repay_32 : decode cX6_repay 32 = .ok (.ireturn, 1) := by decide +kernel
theorem dX6_repay_33 : decode cX6_repay 33 = .ok (.iload_n 1, 1) := by decide +kernel
theorem dX6_repay_34 : decode cX6_repay 34 = .ok (.iload_n 2, 1) := by decide +kernel
theorem dX6_repay_35 : decode cX6_repay 35 = .ok (.invokestatic 126, 3) := by decide +kernel
theorem dX6_repay_38 : decode cX6_repay 38 = .ok (.istore 5, 2) := by decide +kernel
theorem dX6_repay_40 : decode cX6_repay 40 = .ok (.aload_n 0, 1) := by decide +kernel
theorem dX6_repay_41 : decode cX6_repay 41 = .ok (.getfield 12, 3) := by decide +kernel
theorem dX6_repay_44 : decode cX6_repay 44 = .ok (.iload_n 1, 1) := by decide +kernel
theorem dX6_repay_45 : decode cX6_repay 45 = .ok (.iload_n 2, 1) := by decide +kernel
theorem dX6_repay_46 : decode cX6_repay 46 = .ok (.iload_n 3, 1) := by decide +kernel
theorem dX6_repay_47 : decode cX6_repay 47 = .ok (.iload 4, 2) := by decide +kernel
theorem dX6_repay_49 : decode cX6_repay 49 = .ok (.invokevirtual 129, 3) := by decide +kernel
theorem dX6_repay_52 : decode cX6_repay 52 = .ok (.ifCond .eq 18, 3) := by decide +kernel
theorem dX6_repay_55 : decode cX6_repay 55 = .ok (.aload_n 0, 1) := by decide +kernel
theorem dX6_repay_56 : decode cX6_repay 56 = .ok (.getfield 12, 3) := by decide +kernel
theorem dX6_repay_59 : decode cX6_repay 59 = .ok (.getfield 133, 3) := by decide +kernel
theorem dX6_repay_62 : decode cX6_repay 62 = .ok (.iload 5, 2) := by decide +kernel
theorem dX6_repay_64 : decode cX6_repay 64 = .ok (.iaload, 1) := by decide +kernel
theorem dX6_repay_65 : decode cX6_repay 65 = .ok (.iload 4, 2) := by decide +kernel
theorem dX6_repay_67 : decode cX6_repay 67 = .ok (.if_icmp .ge 9, 3) := by decide +kernel
theorem dX6_repay_70 : decode cX6_repay 70 = .ok (.aload_n 0, 1) := by decide +kernel
theorem dX6_repay_71 : decode cX6_repay 71 = .ok (.iconst 3, 1) := by decide +kernel
theorem dX6_repay_72 : decode cX6_repay 72 = .ok (.invokevirtual 55, 3) := by decide +kernel
theorem dX6_repay_75 : decode cX6_repay 75 = .ok (.ireturn, 1) := by decide +kernel
theorem dX6_repay_76 : decode cX6_repay 76 = .ok (.aload_n 0, 1) := by decide +kernel
theorem dX6_repay_77 : decode cX6_repay 77 = .ok (.getfield 12, 3) := by decide +kernel
theorem dX6_repay_80 : decode cX6_repay 80 = .ok (.iload_n 1, 1) := by decide +kernel
theorem dX6_repay_81 : decode cX6_repay 81 = .ok (.iload_n 2, 1) := by decide +kernel
theorem dX6_repay_82 : decode cX6_repay 82 = .ok (.iload_n 3, 1) := by decide +kernel
theorem dX6_repay_83 : decode cX6_repay 83 = .ok (.iload 4, 2) := by decide +kernel
theorem dX6_repay_85 : decode cX6_repay 85 = .ok (.invokevirtual 136, 3) := by decide +kernel
theorem dX6_repay_88 : decode cX6_repay 88 = .ok (.aload_n 0, 1) := by decide +kernel
theorem dX6_repay_89 : decode cX6_repay 89 = .ok (.getfield 12, 3) := by decide +kernel
theorem dX6_repay_92 : decode cX6_repay 92 = .ok (.getfield 133, 3) := by decide +kernel
theorem dX6_repay_95 : decode cX6_repay 95 = .ok (.iload 5, 2) := by decide +kernel
theorem dX6_repay_97 : decode cX6_repay 97 = .ok (.dup2, 1) := by decide +kernel
theorem dX6_repay_98 : decode cX6_repay 98 = .ok (.iaload, 1) := by decide +kernel
theorem dX6_repay_99 : decode cX6_repay 99 = .ok (.iload 4, 2) := by decide +kernel
theorem dX6_repay_101 : decode cX6_repay 101 = .ok (.isub, 1) := by decide +kernel
theorem dX6_repay_102 : decode cX6_repay 102 = .ok (.iastore, 1) := by decide +kernel
theorem dX6_repay_103 : decode cX6_repay 103 = .ok (.aload_n 0, 1) := by decide +kernel
theorem dX6_repay_104 : decode cX6_repay 104 = .ok (.getfield 12, 3) := by decide +kernel
theorem dX6_repay_107 : decode cX6_repay 107 = .ok (.getfield 133, 3) := by decide +kernel
theorem dX6_repay_110 : decode cX6_repay 110 = .ok (.iload 5, 2) := by decide +kernel
theorem dX6_repay_112 : decode cX6_repay 112 = .ok (.iaload, 1) := by decide +kernel
theorem dX6_repay_113 : decode cX6_repay 113 = .ok (.ireturn, 1) := by decide +kernel
theorem dX6_owes_0 : decode cX6_owes 0 = .ok (.aload_n 0, 1) := by decide +kernel
theorem dX6_owes_1 : decode cX6_owes 1 = .ok (.iload_n 1, 1) := by decide +kernel
theorem dX6_owes_2 : decode cX6_owes 2 = .ok (.iload_n 2, 1) := by decide +kernel
theorem dX6_owes_3 : decode cX6_owes 3 = .ok (.invokevirtual 66, 3) := by decide +kernel
theorem dX6_owes_6 : decode cX6_owes 6 = .ok (.ifCond .eq 9, 3) := by decide +kernel
theorem dX6_owes_9 : decode cX6_owes 9 = .ok (.aload_n 0, 1) := by decide +kernel
theorem dX6_owes_10 : decode cX6_owes 10 = .ok (.iconst 1, 1) := by decide +kernel
theorem dX6_owes_11 : decode cX6_owes 11 = .ok (.invokevirtual 55, 3) := by decide +kernel
theorem dX6_owes_14 : decode cX6_owes 14 = .ok (.ireturn, 1) := by decide +kernel
theorem dX6_owes_15 : decode cX6_owes 15 = .ok (.aload_n 0, 1) := by decide +kernel
theorem dX6_owes_16 : decode cX6_owes 16 = .ok (.getfield 12, 3) := by decide +kernel
theorem dX6_owes_19 : decode cX6_owes 19 = .ok (.getfield 133, 3) := by decide +kernel
theorem dX6_owes_22 : decode cX6_owes 22 = .ok (.iload_n 1, 1) := by decide +kernel
theorem dX6_owes_23 : decode cX6_owes 23 = .ok (.iload_n 2, 1) := by decide +kernel
theorem dX6_owes_24 : decode cX6_owes 24 = .ok (.invokestatic 126, 3) := by decide +kernel
theorem dX6_owes_27 : decode cX6_owes 27 = .ok (.iaload, 1) := by decide +kernel
theorem dX6_owes_28 : decode cX6_owes 28 = .ok (.ireturn, 1) := by decide +kernel
theorem dX6_feed_0 : decode cX6_feed 0 = .ok (.iload_n 3, 1) := by decide +kernel
theorem dX6_feed_1 : decode cX6_feed 1 = .ok (.iconst 1, 1) := by decide +kernel
theorem dX6_feed_2 : decode cX6_feed 2 = .ok (.bipush 8, 2) := by decide +kernel
theorem dX6_feed_4 : decode cX6_feed 4 = .ok (.invokestatic 115, 3) := by decide +kernel
theorem dX6_feed_7 : decode cX6_feed 7 = .ok (.ifCond .eq 9, 3) := by decide +kernel
theorem dX6_feed_10 : decode cX6_feed 10 = .ok (.aload_n 0, 1) := by decide +kernel
theorem dX6_feed_11 : decode cX6_feed 11 = .ok (.iconst 1, 1) := by decide +kernel
theorem dX6_feed_12 : decode cX6_feed 12 = .ok (.invokevirtual 55, 3) := by decide +kernel
theorem dX6_feed_15 : decode cX6_feed 15 = .ok (.ireturn, 1) := by decide +kernel
theorem dX6_feed_16 : decode cX6_feed 16 = .ok (.aload_n 0, 1) := by decide +kernel
theorem dX6_feed_17 : decode cX6_feed 17 = .ok (.getfield 12, 3) := by decide +kernel
theorem dX6_feed_20 : decode cX6_feed 20 = .ok (.getfield 140, 3) := by decide +kernel
theorem dX6_feed_23 : decode cX6_feed 23 = .ok (.iload_n 3, 1) := by decide +kernel
theorem dX6_feed_24 : decode cX6_feed 24 = .ok (.iadd, 1) := by decide +kernel
theorem dX6_feed_25 : decode cX6_feed 25 = .ok (.bipush 60, 2) := by decide +kernel
theorem dX6_feed_27 : decode cX6_feed 27 = .ok (.if_icmp .le 9, 3) := by decide +kernel
theorem dX6_feed_30 : decode cX6_feed 30 = .ok (.aload_n 0, 1) := by decide +kernel
theorem dX6_feed_31 : decode cX6_feed 31 = .ok (.iconst 4, 1) := by decide +kernel
theorem dX6_feed_32 : decode cX6_feed 32 = .ok (.invokevirtual 55, 3) := by decide +kernel
theorem dX6_feed_35 : decode cX6_feed 35 = .ok (.ireturn, 1) := by decide +kernel
theorem dX6_feed_36 : decode cX6_feed 36 = .ok (.iconst 0, 1) := by decide +kernel
theorem dX6_feed_37 : decode cX6_feed 37 = .ok (.istore 4, 2) := by decide +kernel
theorem dX6_feed_39 : decode cX6_feed 39 = .ok (.iload 4, 2) := by decide +kernel
theorem dX6_feed_41 : decode cX6_feed 41 = .ok (.iload_n 3, 1) := by decide +kernel
theorem dX6_feed_42 : decode cX6_feed 42 = .ok (.if_icmp .ge 39, 3) := by decide +kernel
theorem dX6_feed_45 : decode cX6_feed 45 = .ok (.aload_n 0, 1) := by decide +kernel
theorem dX6_feed_46 : decode cX6_feed 46 = .ok (.getfield 12, 3) := by decide +kernel
theorem dX6_feed_49 : decode cX6_feed 49 = .ok (.getfield 143, 3) := by decide +kernel
theorem dX6_feed_52 : decode cX6_feed 52 = .ok (.aload_n 0, 1) := by decide +kernel
theorem dX6_feed_53 : decode cX6_feed 53 = .ok (.getfield 12, 3) := by decide +kernel
theorem dX6_feed_56 : decode cX6_feed 56 = .ok (.getfield 140, 3) := by decide +kernel
theorem dX6_feed_59 : decode cX6_feed 59 = .ok (.iload 4, 2) := by decide +kernel
theorem dX6_feed_61 : decode cX6_feed 61 = .ok (.iadd, 1) := by decide +kernel
theorem dX6_feed_62 : decode cX6_feed 62 = .ok (.lload_n 1, 1) := by decide +kernel
theorem dX6_feed_63 : decode cX6_feed 63 = .ok (.bipush 8, 2) := by decide +kernel
theorem dX6_feed_65 : decode cX6_feed 65 = .ok (.iload 4, 2) := by decide +kernel
theorem dX6_feed_67 : decode cX6_feed 67 = .ok (.imul, 1) := by decide +kernel
theorem dX6_feed_68 : decode cX6_feed 68 = .ok (.lushr, 1) := by decide +kernel
theorem dX6_feed_69 : decode cX6_feed 69 = .ok (.l2i, 1) := by decide +kernel
theorem dX6_feed_70 : decode cX6_feed 70 = .ok (.sipush 255, 3) := by decide +kernel
theorem dX6_feed_73 : decode cX6_feed 73 = .ok (.iand, 1) := by decide +kernel
theorem dX6_feed_74 : decode cX6_feed 74 = .ok (.iastore, 1) := by decide +kernel
theorem dX6_feed_75 : decode cX6_feed 75 = .ok (.iinc 4 1, 3) := by decide +kernel
theorem dX6_feed_78 : decode cX6_feed 78 = .ok (.goto (-39), 3) := by decide +kernel
theorem dX6_feed_81 : decode cX6_feed 81 = .ok (.aload_n 0, 1) := by decide +kernel
theorem dX6_feed_82 : decode cX6_feed 82 = .ok (.getfield 12, 3) := by decide +kernel
theorem dX6_feed_85 : decode cX6_feed 85 = .ok (.dup, 1) := by decide +kernel
theorem dX6_feed_86 : decode cX6_feed 86 = .ok (.getfield 140, 3) := by decide +kernel
theorem dX6_feed_89 : decode cX6_feed 89 = .ok (.iload_n 3, 1) := by decide +kernel
theorem dX6_feed_90 : decode cX6_feed 90 = .ok (.iadd, 1) := by decide +kernel
theorem dX6_feed_91 : decode cX6_feed 91 = .ok (.putfield 140, 3) := by decide +kernel
theorem dX6_feed_94 : decode cX6_feed 94 = .ok (.aload_n 0, 1) := by decide +kernel
theorem dX6_feed_95 : decode cX6_feed 95 = .ok (.getfield 12, 3) := by decide +kernel
theorem dX6_feed_98 : decode cX6_feed 98 = .ok (.getfield 140, 3) := by decide +kernel
theorem dX6_feed_101 : decode cX6_feed 101 = .ok (.ireturn, 1) := by decide +kernel
theorem dX6_text_0 : decode cX6_text 0 = .ok (.iload_n 1, 1) := by decide +kernel
theorem dX6_text_1 : decode cX6_text 1 = .ok (.invokestatic 146, 3) := by decide +kernel
theorem dX6_text_4 : decode cX6_text 4 = .ok (.ifCond .eq 9, 3) := by decide +kernel
theorem dX6_text_7 : decode cX6_text 7 = .ok (.aload_n 0, 1) := by decide +kernel
theorem dX6_text_8 : decode cX6_text 8 = .ok (.iconst 1, 1) := by decide +kernel
theorem dX6_text_9 : decode cX6_text 9 = .ok (.invokevirtual 55, 3) := by decide +kernel
theorem dX6_text_12 : decode cX6_text 12 = .ok (.ireturn, 1) := by decide +kernel
theorem dX6_text_13 : decode cX6_text 13 = .ok (.aload_n 0, 1) := by decide +kernel
theorem dX6_text_14 : decode cX6_text 14 = .ok (.getfield 33, 3) := by decide +kernel
theorem dX6_text_17 : decode cX6_text 17 = .ok (.aload_n 0, 1) := by decide +kernel
theorem dX6_text_18 : decode cX6_text 18 = .ok (.getfield 12, 3) := by decide +kernel
theorem dX6_text_21 : decode cX6_text 21 = .ok (.iload_n 1, 1) := by decide +kernel
theorem dX6_text_22 : decode cX6_text 22 = .ok (.invokevirtual 149, 3) := by decide +kernel
theorem dX6_text_25 : decode cX6_text 25 = .ok (.istore_n 2, 1) := by decide +kernel
theorem dX6_text_26 : decode cX6_text 26 = .ok (.aload_n 0, 1) := by decide +kernel
theorem dX6_text_27 : decode cX6_text 27 = .ok (.getfield 12, 3) := by decide +kernel
theorem dX6_text_30 : decode cX6_text 30 = .ok (.iconst 0, 1) := by decide +kernel
theorem dX6_text_31 : decode cX6_text 31 = .ok (.putfield 140, 3) := by decide +kernel
theorem dX6_text_34 : decode cX6_text 34 = .ok (.iload_n 2, 1) := by decide +kernel
theorem dX6_text_35 : decode cX6_text 35 = .ok (.ifCond .lt 8, 3) := by decide +kernel
theorem dX6_text_38 : decode cX6_text 38 = .ok (.bipush (-10), 2) := by decide +kernel
theorem dX6_text_40 : decode cX6_text 40 = .ok (.iload_n 2, 1) := by decide +kernel
theorem dX6_text_41 : decode cX6_text 41 = .ok (.isub, 1) := by decide +kernel
theorem dX6_text_42 : decode cX6_text 42 = .ok (.ireturn, 1) := by decide +kernel
theorem dX6_text_43 : decode cX6_text 43 = .ok (.aload_n 0, 1) := by decide +kernel
theorem dX6_text_44 : decode cX6_text 44 = .ok (.getfield 12, 3) := by decide +kernel
theorem dX6_text_47 : decode cX6_text 47 = .ok (.iload_n 1, 1) := by decide +kernel
theorem dX6_text_48 : decode cX6_text 48 = .ok (.invokevirtual 153, 3) := by decide +kernel
theorem dX6_text_51 : decode cX6_text 51 = .ok (.aload_n 0, 1) := by decide +kernel
theorem dX6_text_52 : decode cX6_text 52 = .ok (.getfield 33, 3) := by decide +kernel
theorem dX6_text_55 : decode cX6_text 55 = .ok (.getfield 157, 3) := by decide +kernel
theorem dX6_text_58 : decode cX6_text 58 = .ok (.invokevirtual 161, 3) := by decide +kernel
theorem dX6_text_61 : decode cX6_text 61 = .ok (.iconst 1, 1) := by decide +kernel
theorem dX6_text_62 : decode cX6_text 62 = .ok (.ireturn, 1) := by decide +kernel
theorem dX6_untell_0 : decode cX6_untell 0 = .ok (.iload_n 1, 1) := by decide +kernel
theorem dX6_untell_1 : decode cX6_untell 1 = .ok (.invokestatic 146, 3) := by decide +kernel
theorem dX6_untell_4 : decode cX6_untell 4 = .ok (.ifCond .eq 9, 3) := by decide +kernel
theorem dX6_untell_7 : decode cX6_untell 7 = .ok (.aload_n 0, 1) := by decide +kernel
theorem dX6_untell_8 : decode cX6_untell 8 = .ok (.iconst 1, 1) := by decide +kernel
theorem dX6_untell_9 : decode cX6_untell 9 = .ok (.invokevirtual 55, 3) := by decide +kernel
theorem dX6_untell_12 : decode cX6_untell 12 = .ok (.ireturn, 1) := by decide +kernel
theorem dX6_untell_13 : decode cX6_untell 13 = .ok (.aload_n 0, 1) := by decide +kernel
theorem dX6_untell_14 : decode cX6_untell 14 = .ok (.getfield 12, 3) := by decide +kernel
theorem dX6_untell_17 : decode cX6_untell 17 = .ok (.iload_n 1, 1) := by decide +kernel
theorem dX6_untell_18 : decode cX6_untell 18 = .ok (.invokevirtual 153, 3) := by decide +kernel
theorem dX6_untell_21 : decode cX6_untell 21 = .ok (.astore_n 2, 1) := by decide +kernel
theorem dX6_untell_22 : decode cX6_untell 22 = .ok (.aload_n 2, 1) := by decide +kernel
theorem dX6_untell_23 : decode cX6_untell 23 = .ok (.invokevirtual 167, 3) := by decide +kernel
theorem dX6_untell_26 : decode cX6_untell 26 = .ok (.invokestatic 171, 3) := by decide +kernel
theorem dX6_untell_29 : decode cX6_untell 29 = .ok (.istore_n 3, 1) := by decide +kernel
theorem dX6_untell_30 : decode cX6_untell 30 = .ok (.aload_n 2, 1) := by decide +kernel
theorem dX6_untell_31 : decode cX6_untell 31 = .ok (.invokevirtual 175, 3) := by decide +kernel
theorem dX6_untell_34 : decode cX6_untell 34 = .ok (.iload_n 3, 1) := by decide +kernel
theorem dX6_untell_35 : decode cX6_untell 35 = .ok (.ireturn, 1) := by decide +kernel
theorem dX6_law_0 : decode cX6_law 0 = .ok (.iload_n 1, 1) := by decide +kernel
theorem dX6_law_1 : decode cX6_law 1 = .ok (.invokestatic 146, 3) := by decide +kernel
theorem dX6_law_4 : decode cX6_law 4 = .ok (.ifCond .eq 9, 3) := by decide +kernel
theorem dX6_law_7 : decode cX6_law 7 = .ok (.aload_n 0, 1) := by decide +kernel
theorem dX6_law_8 : decode cX6_law 8 = .ok (.iconst 1, 1) := by decide +kernel
theorem dX6_law_9 : decode cX6_law 9 = .ok (.invokevirtual 55, 3) := by decide +kernel
theorem dX6_law_12 : decode cX6_law 12 = .ok (.ireturn, 1) := by decide +kernel
theorem dX6_law_13 : decode cX6_law 13 = .ok (.aload_n 0, 1) := by decide +kernel
theorem dX6_law_14 : decode cX6_law 14 = .ok (.getfield 12, 3) := by decide +kernel
theorem dX6_law_17 : decode cX6_law 17 = .ok (.iload_n 1, 1) := by decide +kernel
theorem dX6_law_18 : decode cX6_law 18 = .ok (.iload_n 2, 1) := by decide +kernel
theorem dX6_law_19 : decode cX6_law 19 = .ok (.iload_n 3, 1) := by decide +kernel
theorem dX6_law_20 : decode cX6_law 20 = .ok (.iload 4, 2) := by decide +kernel
theorem dX6_law_22 : decode cX6_law 22 = .ok (.invokevirtual 178, 3) := by decide +kernel
theorem dX6_law_25 : decode cX6_law 25 = .ok (.ireturn, 1) := by decide +kernel
theorem dX6_years_0 : decode cX6_years 0 = .ok (.iload_n 1, 1) := by decide +kernel
theorem dX6_years_1 : decode cX6_years 1 = .ok (.iconst 1, 1) := by decide +kernel
theorem dX6_years_2 : decode cX6_years 2 = .ok (.bipush 60, 2) := by decide +kernel
theorem dX6_years_4 : decode cX6_years 4 = .ok (.invokestatic 115, 3) := by decide +kernel
theorem dX6_years_7 : decode cX6_years 7 = .ok (.ifCond .eq 9, 3) := by decide +kernel
theorem dX6_years_10 : decode cX6_years 10 = .ok (.aload_n 0, 1) := by decide +kernel
theorem dX6_years_11 : decode cX6_years 11 = .ok (.iconst 1, 1) := by decide +kernel
theorem dX6_years_12 : decode cX6_years 12 = .ok (.invokevirtual 55, 3) := by decide +kernel
theorem dX6_years_15 : decode cX6_years 15 = .ok (.ireturn, 1) := by decide +kernel
theorem dX6_years_16 : decode cX6_years 16 = .ok (.aload_n 0, 1) := by decide +kernel
theorem dX6_years_17 : decode cX6_years 17 = .ok (.getfield 12, 3) := by decide +kernel
theorem dX6_years_20 : decode cX6_years 20 = .ok (.getfield 119, 3) := by decide +kernel
theorem dX6_years_23 : decode cX6_years 23 = .ok (.iload_n 1, 1) := by decide +kernel
theorem dX6_years_24 : decode cX6_years 24 = .ok (.iadd, 1) := by decide +kernel
theorem dX6_years_25 : decode cX6_years 25 = .ok (.sipush 999, 3) := by decide +kernel
theorem dX6_years_28 : decode cX6_years 28 = .ok (.if_icmp .le 9, 3) := by decide +kernel
theorem dX6_years_31 : decode cX6_years 31 = .ok (.aload_n 0, 1) := by decide +kernel
theorem dX6_years_32 : decode cX6_years 32 = .ok (.iconst 3, 1) := by decide +kernel
theorem dX6_years_33 : decode cX6_years 33 = .ok (.invokevirtual 55, 3) := by decide +kernel
theorem dX6_years_36 : decode cX6_years 36 = .ok (.ireturn, 1) := by decide +kernel
theorem dX6_years_37 : decode cX6_years 37 = .ok (.iconst 0, 1) := by decide +kernel
theorem dX6_years_38 : decode cX6_years 38 = .ok (.istore_n 2, 1) := by decide +kernel
theorem dX6_years_39 : decode cX6_years 39 = .ok (.iload_n 2, 1) := by decide +kernel
theorem dX6_years_40 : decode cX6_years 40 = .ok (.iload_n 1, 1) := by decide +kernel
theorem dX6_years_41 : decode cX6_years 41 = .ok (.if_icmp .ge 16, 3) := by decide +kernel
theorem dX6_years_44 : decode cX6_years 44 = .ok (.aload_n 0, 1) := by decide +kernel
theorem dX6_years_45 : decode cX6_years 45 = .ok (.getfield 12, 3) := by decide +kernel
theorem dX6_years_48 : decode cX6_years 48 = .ok (.invokevirtual 181, 3) := by decide +kernel
theorem dX6_years_51 : decode cX6_years 51 = .ok (.iinc 2 1, 3) := by decide +kernel
theorem dX6_years_54 : decode cX6_years 54 = .ok (.goto (-15), 3) := by decide +kernel
theorem dX6_years_57 : decode cX6_years 57 = .ok (.aload_n 0, 1) := by decide +kernel
theorem dX6_years_58 : decode cX6_years 58 = .ok (.getfield 12, 3) := by decide +kernel
theorem dX6_years_61 : decode cX6_years 61 = .ok (.getfield 119, 3) := by decide +kernel
theorem dX6_years_64 : decode cX6_years 64 = .ok (.ireturn, 1) := by decide +kernel
theorem dX6_loose_0 : decode cX6_loose 0 = .ok (.iload_n 1, 1) := by decide +kernel
theorem dX6_loose_1 : decode cX6_loose 1 = .ok (.iconst 1, 1) := by decide +kernel
theorem dX6_loose_2 : decode cX6_loose 2 = .ok (.bipush 20, 2) := by decide +kernel
theorem dX6_loose_4 : decode cX6_loose 4 = .ok (.invokestatic 115, 3) := by decide +kernel
theorem dX6_loose_7 : decode cX6_loose 7 = .ok (.ifCond .eq 9, 3) := by decide +kernel
theorem dX6_loose_10 : decode cX6_loose 10 = .ok (.aload_n 0, 1) := by decide +kernel
theorem dX6_loose_11 : decode cX6_loose 11 = .ok (.iconst 1, 1) := by decide +kernel
theorem dX6_loose_12 : decode cX6_loose 12 = .ok (.invokevirtual 55, 3) := by decide +kernel
theorem dX6_loose_15 : decode cX6_loose 15 = .ok (.ireturn, 1) := by decide +kernel
theorem dX6_loose_16 : decode cX6_loose 16 = .ok (.aload_n 0, 1) := by decide +kernel
theorem dX6_loose_17 : decode cX6_loose 17 = .ok (.getfield 12, 3) := by decide +kernel
theorem dX6_loose_20 : decode cX6_loose 20 = .ok (.getfield 119, 3) := by decide +kernel
theorem dX6_loose_23 : decode cX6_loose 23 = .ok (.iload_n 1, 1) := by decide +kernel
theorem dX6_loose_24 : decode cX6_loose 24 = .ok (.iadd, 1) := by decide +kernel
theorem dX6_loose_25 : decode cX6_loose 25 = .ok (.sipush 999, 3) := by decide +kernel
theorem dX6_loose_28 : decode cX6_loose 28 = .ok (.if_icmp .le 9, 3) := by decide +kernel
theorem dX6_loose_31 : decode cX6_loose 31 = .ok (.aload_n 0, 1) := by decide +kernel
theorem dX6_loose_32 : decode cX6_loose 32 = .ok (.iconst 3, 1) := by decide +kernel
theorem dX6_loose_33 : decode cX6_loose 33 = .ok (.invokevirtual 55, 3) := by decide +kernel
theorem dX6_loose_36 : decode cX6_loose 36 = .ok (.ireturn, 1) := by decide +kernel
theorem dX6_loose_37 : decode cX6_loose 37 = .ok (.iconst 0, 1) := by decide +kernel
theorem dX6_loose_38 : decode cX6_loose 38 = .ok (.istore_n 2, 1) := by decide +kernel
theorem dX6_loose_39 : decode cX6_loose 39 = .ok (.iconst 0, 1) := by decide +kernel
theorem dX6_loose_40 : decode cX6_loose 40 = .ok (.istore_n 3, 1) := by decide +kernel
theorem dX6_loose_41 : decode cX6_loose 41 = .ok (.iload_n 3, 1) := by decide +kernel
theorem dX6_loose_42 : decode cX6_loose 42 = .ok (.iload_n 1, 1) := by decide +kernel
theorem dX6_loose_43 : decode cX6_loose 43 = .ok (.if_icmp .ge 26, 3) := by decide +kernel
theorem dX6_loose_46 : decode cX6_loose 46 = .ok (.iload_n 2, 1) := by decide +kernel
theorem dX6_loose_47 : decode cX6_loose 47 = .ok (.aload_n 0, 1) := by decide +kernel
theorem dX6_loose_48 : decode cX6_loose 48 = .ok (.getfield 12, 3) := by decide +kernel
theorem dX6_loose_51 : decode cX6_loose 51 = .ok (.invokevirtual 184, 3) := by decide +kernel
theorem dX6_loose_54 : decode cX6_loose 54 = .ok (.iadd, 1) := by decide +kernel
theorem dX6_loose_55 : decode cX6_loose 55 = .ok (.istore_n 2, 1) := by decide +kernel
theorem dX6_loose_56 : decode cX6_loose 56 = .ok (.aload_n 0, 1) := by decide +kernel
theorem dX6_loose_57 : decode cX6_loose 57 = .ok (.getfield 12, 3) := by decide +kernel
theorem dX6_loose_60 : decode cX6_loose 60 = .ok (.invokevirtual 181, 3) := by decide +kernel
theorem dX6_loose_63 : decode cX6_loose 63 = .ok (.iinc 3 1, 3) := by decide +kernel
theorem dX6_loose_66 : decode cX6_loose 66 = .ok (.goto (-25), 3) := by decide +kernel
theorem dX6_loose_69 : decode cX6_loose 69 = .ok (.iload_n 2, 1) := by decide +kernel
theorem dX6_loose_70 : decode cX6_loose 70 = .ok (.ireturn, 1) := by decide +kernel
theorem dX6_year_0 : decode cX6_year 0 = .ok (.iload_n 1, 1) := by decide +kernel
theorem dX6_year_1 : decode cX6_year 1 = .ok (.iconst 0, 1) := by decide +kernel
theorem dX6_year_2 : decode cX6_year 2 = .ok (.sipush 999, 3) := by decide +kernel
theorem dX6_year_5 : decode cX6_year 5 = .ok (.invokestatic 115, 3) := by decide +kernel
theorem dX6_year_8 : decode cX6_year 8 = .ok (.ifCond .eq 9, 3) := by decide +kernel
theorem dX6_year_11 : decode cX6_year 11 = .ok (.aload_n 0, 1) := by decide +kernel
theorem dX6_year_12 : decode cX6_year 12 = .ok (.iconst 1, 1) := by decide +kernel
theorem dX6_year_13 : decode cX6_year 13 = .ok (.invokevirtual 55, 3) := by decide +kernel
theorem dX6_year_16 : decode cX6_year 16 = .ok (.ireturn, 1) := by decide +kernel
theorem dX6_year_17 : decode cX6_year 17 = .ok (.aload_n 0, 1) := by decide +kernel
theorem dX6_year_18 : decode cX6_year 18 = .ok (.getfield 12, 3) := by decide +kernel
theorem dX6_year_21 : decode cX6_year 21 = .ok (.getfield 119, 3) := by decide +kernel
theorem dX6_year_24 : decode cX6_year 24 = .ok (.istore_n 2, 1) := by decide +kernel
theorem dX6_year_25 : decode cX6_year 25 = .ok (.aload_n 0, 1) := by decide +kernel
theorem dX6_year_26 : decode cX6_year 26 = .ok (.getfield 12, 3) := by decide +kernel
theorem dX6_year_29 : decode cX6_year 29 = .ok (.iload_n 1, 1) := by decide +kernel
theorem dX6_year_30 : decode cX6_year 30 = .ok (.putfield 119, 3) := by decide +kernel
theorem dX6_year_33 : decode cX6_year 33 = .ok (.iload_n 2, 1) := by decide +kernel
theorem dX6_year_34 : decode cX6_year 34 = .ok (.ireturn, 1) := by decide +kernel
theorem dX6_seed_0 : decode cX6_seed 0 = .ok (.aload_n 0, 1) := by decide +kernel
theorem dX6_seed_1 : decode cX6_seed 1 = .ok (.getfield 12, 3) := by decide +kernel
theorem dX6_seed_4 : decode cX6_seed 4 = .ok (.getfield 188, 3) := by decide +kernel
theorem dX6_seed_7 : decode cX6_seed 7 = .ok (.istore_n 2, 1) := by decide +kernel
theorem dX6_seed_8 : decode cX6_seed 8 = .ok (.aload_n 0, 1) := by decide +kernel
theorem dX6_seed_9 : decode cX6_seed 9 = .ok (.getfield 12, 3) := by decide +kernel
theorem dX6_seed_12 : decode cX6_seed 12 = .ok (.iload_n 1, 1) := by decide +kernel
theorem dX6_seed_13 : decode cX6_seed 13 = .ok (.putfield 188, 3) := by decide +kernel
theorem dX6_seed_16 : decode cX6_seed 16 = .ok (.iload_n 2, 1) := by decide +kernel
theorem dX6_seed_17 : decode cX6_seed 17 = .ok (.ireturn, 1) := by decide +kernel
theorem dX6_then_0 : decode cX6_then 0 = .ok (.aload_n 0, 1) := by decide +kernel
theorem dX6_then_1 : decode cX6_then 1 = .ok (.iload_n 1, 1) := by decide +kernel
theorem dX6_then_2 : decode cX6_then 2 = .ok (.invokevirtual 74, 3) := by decide +kernel
theorem dX6_then_5 : decode cX6_then 5 = .ok (.ifCond .ne 20, 3) := by decide +kernel
theorem dX6_then_8 : decode cX6_then 8 = .ok (.iload_n 2, 1) := by decide +kernel
theorem dX6_then_9 : decode cX6_then 9 = .ok (.invokestatic 108, 3) := by decide +kernel
theorem dX6_then_12 : decode cX6_then 12 = .ok (.ifCond .ne 13, 3) := by decide +kernel
theorem dX6_then_15 : decode cX6_then 15 = .ok (.iload_n 3, 1) := by decide +kernel
theorem dX6_then_16 : decode cX6_then 16 = .ok (.iconst 0, 1) := by decide +kernel
theorem dX6_then_17 : decode cX6_then 17 = .ok (.bipush 60, 2) := by decide +kernel
theorem dX6_then_19 : decode cX6_then 19 = .ok (.invokestatic 115, 3) := by decide +kernel
theorem dX6_then_22 : decode cX6_then 22 = .ok (.ifCond .eq 9, 3) := by decide +kernel
theorem dX6_then_25 : decode cX6_then 25 = .ok (.aload_n 0, 1) := by decide +kernel
theorem dX6_then_26 : decode cX6_then 26 = .ok (.iconst 1, 1) := by decide +kernel
theorem dX6_then_27 : decode cX6_then 27 = .ok (.invokevirtual 55, 3) := by decide +kernel
theorem dX6_then_30 : decode cX6_then 30 = .ok (.ireturn, 1) := by decide +kernel
theorem dX6_then_31 : decode cX6_then 31 = .ok (.aload_n 0, 1) := by decide +kernel
theorem dX6_then_32 : decode cX6_then 32 = .ok (.getfield 40, 3) := by decide +kernel
theorem dX6_then_35 : decode cX6_then 35 = .ok (.aload_n 0, 1) := by decide +kernel
theorem dX6_then_36 : decode cX6_then 36 = .ok (.getfield 12, 3) := by decide +kernel
theorem dX6_then_39 : decode cX6_then 39 = .ok (.iload_n 1, 1) := by decide +kernel
theorem dX6_then_40 : decode cX6_then 40 = .ok (.iload_n 2, 1) := by decide +kernel
theorem dX6_then_41 : decode cX6_then 41 = .ok (.iload_n 3, 1) := by decide +kernel
theorem dX6_then_42 : decode cX6_then 42 = .ok (.invokevirtual 191, 3) := by decide +kernel
theorem dX6_then_45 : decode cX6_then 45 = .ok (.ireturn, 1) := by decide +kernel
theorem dX6_clean_0 : decode cX6_clean 0 = .ok (.iload_n 1, 1) := by decide +kernel
theorem dX6_clean_1 : decode cX6_clean 1 = .ok (.iconst 0, 1) := by decide +kernel
theorem dX6_clean_2 : decode cX6_clean 2 = .ok (.sipush 500, 3) := by decide +kernel
theorem dX6_clean_5 : decode cX6_clean 5 = .ok (.invokestatic 115, 3) := by decide +kernel
theorem dX6_clean_8 : decode cX6_clean 8 = .ok (.ifCond .ne 12, 3) := by decide +kernel
theorem dX6_clean_11 : decode cX6_clean 11 = .ok (.iload_n 2, 1) := by decide +kernel
theorem dX6_clean_12 : decode cX6_clean 12 = .ok (.iconst 0, 1) := by decide +kernel
theorem dX6_clean_13 : decode cX6_clean 13 = .ok (.iconst 1, 1) := by decide +kernel
theorem dX6_clean_14 : decode cX6_clean 14 = .ok (.invokestatic 115, 3) := by decide +kernel
theorem dX6_clean_17 : decode cX6_clean 17 = .ok (.ifCond .eq 9, 3) := by decide +kernel
theorem dX6_clean_20 : decode cX6_clean 20 = .ok (.aload_n 0, 1) := by decide +kernel
theorem dX6_clean_21 : decode cX6_clean 21 = .ok (.iconst 1, 1) := by decide +kernel
theorem dX6_clean_22 : decode cX6_clean 22 = .ok (.invokevirtual 55, 3) := by decide +kernel
theorem dX6_clean_25 : decode cX6_clean 25 = .ok (.ireturn, 1) := by decide +kernel
theorem dX6_clean_26 : decode cX6_clean 26 = .ok (.aload_n 0, 1) := by decide +kernel
theorem dX6_clean_27 : decode cX6_clean 27 = .ok (.getfield 40, 3) := by decide +kernel
theorem dX6_clean_30 : decode cX6_clean 30 = .ok (.aload_n 0, 1) := by decide +kernel
theorem dX6_clean_31 : decode cX6_clean 31 = .ok (.getfield 12, 3) := by decide +kernel
theorem dX6_clean_34 : decode cX6_clean 34 = .ok (.iload_n 1, 1) := by decide +kernel
theorem dX6_clean_35 : decode cX6_clean 35 = .ok (.invokevirtual 195, 3) := by decide +kernel
theorem dX6_clean_38 : decode cX6_clean 38 = .ok (.istore_n 3, 1) := by decide +kernel
theorem dX6_clean_39 : decode cX6_clean 39 = .ok (.iload_n 3, 1) := by decide +kernel
theorem dX6_clean_40 : decode cX6_clean 40 = .ok (.ifCond .ge 9, 3) := by decide +kernel
theorem dX6_clean_43 : decode cX6_clean 43 = .ok (.aload_n 0, 1) := by decide +kernel
theorem dX6_clean_44 : decode cX6_clean 44 = .ok (.iconst 2, 1) := by decide +kernel
theorem dX6_clean_45 : decode cX6_clean 45 = .ok (.invokevirtual 55, 3) := by decide +kernel
theorem dX6_clean_48 : decode cX6_clean 48 = .ok (.ireturn, 1) := by decide +kernel
theorem dX6_clean_49 : decode cX6_clean 49 = .ok (.iload_n 2, 1) := by decide +kernel
theorem dX6_clean_50 : decode cX6_clean 50 = .ok (.ifCond .ne 10, 3) := by decide +kernel
theorem dX6_clean_53 : decode cX6_clean 53 = .ok (.iload_n 3, 1) := by decide +kernel
theorem dX6_clean_54 : decode cX6_clean 54 = .ok (.bipush 8, 2) := by decide +kernel
theorem dX6_clean_56 : decode cX6_clean 56 = .ok (.irem, 1) := by decide +kernel
theorem dX6_clean_57 : decode cX6_clean 57 = .ok (.goto 7, 3) := by decide +kernel
theorem dX6_clean_60 : decode cX6_clean 60 = .ok (.iload_n 3, 1) := by decide +kernel
theorem dX6_clean_61 : decode cX6_clean 61 = .ok (.bipush 8, 2) := by decide +kernel
theorem dX6_clean_63 : decode cX6_clean 63 = .ok (.idiv, 1) := by decide +kernel
theorem dX6_clean_64 : decode cX6_clean 64 = .ok (.ireturn, 1) := by decide +kernel
theorem dX6_parents_0 : decode cX6_parents 0 = .ok (.aload_n 0, 1) := by decide +kernel
theorem dX6_parents_1 : decode cX6_parents 1 = .ok (.iload_n 1, 1) := by decide +kernel
theorem dX6_parents_2 : decode cX6_parents 2 = .ok (.invokevirtual 74, 3) := by decide +kernel
theorem dX6_parents_5 : decode cX6_parents 5 = .ok (.ifCond .ne 12, 3) := by decide +kernel
theorem dX6_parents_8 : decode cX6_parents 8 = .ok (.iload_n 2, 1) := by decide +kernel
theorem dX6_parents_9 : decode cX6_parents 9 = .ok (.iconst 0, 1) := by decide +kernel
theorem dX6_parents_10 : decode cX6_parents 10 = .ok (.iconst 2, 1) := by decide +kernel
theorem dX6_parents_11 : decode cX6_parents 11 = .ok (.invokestatic 115, 3) := by decide +kernel
theorem dX6_parents_14 : decode cX6_parents 14 = .ok (.ifCond .eq 9, 3) := by decide +kernel
theorem dX6_parents_17 : decode cX6_parents 17 = .ok (.aload_n 0, 1) := by decide +kernel
theorem dX6_parents_18 : decode cX6_parents 18 = .ok (.iconst 1, 1) := by decide +kernel
theorem dX6_parents_19 : decode cX6_parents 19 = .ok (.invokevirtual 55, 3) := by decide +kernel
theorem dX6_parents_22 : decode cX6_parents 22 = .ok (.ireturn, 1) := by decide +kernel
theorem dX6_parents_23 : decode cX6_parents 23 = .ok (.iload_n 2, 1) := by decide +kernel
theorem dX6_parents_24 : decode cX6_parents 24 = .ok (.ifCond .ne 16, 3) := by decide +kernel
theorem dX6_parents_27 : decode cX6_parents 27 = .ok (.aload_n 0, 1) := by decide +kernel
theorem dX6_parents_28 : decode cX6_parents 28 = .ok (.getfield 40, 3) := by decide +kernel
theorem dX6_parents_31 : decode cX6_parents 31 = .ok (.aload_n 0, 1) := by decide +kernel
theorem dX6_parents_32 : decode cX6_parents 32 = .ok (.getfield 12, 3) := by decide +kernel
theorem dX6_parents_35 : decode cX6_parents 35 = .ok (.iload_n 1, 1) := by decide +kernel
theorem dX6_parents_36 : decode cX6_parents 36 = .ok (.invokevirtual 198, 3) := by decide +kernel
theorem dX6_parents_39 : decode cX6_parents 39 = .ok (.ireturn, 1) := by decide +kernel
theorem dX6_parents_40 : decode cX6_parents 40 = .ok (.aload_n 0, 1) := by decide +kernel
theorem dX6_parents_41 : decode cX6_parents 41 = .ok (.getfield 40, 3) := by decide +kernel
theorem dX6_parents_44 : decode cX6_parents 44 = .ok (.aload_n 0, 1) := by decide +kernel
theorem dX6_parents_45 : decode cX6_parents 45 = .ok (.getfield 12, 3) := by decide +kernel
theorem dX6_parents_48 : decode cX6_parents 48 = .ok (.iload_n 1, 1) := by decide +kernel
theorem dX6_parents_49 : decode cX6_parents 49 = .ok (.invokevirtual 201, 3) := by decide +kernel
theorem dX6_parents_52 : decode cX6_parents 52 = .ok (.istore_n 3, 1) := by decide +kernel
theorem dX6_parents_53 : decode cX6_parents 53 = .ok (.iload_n 3, 1) := by decide +kernel
theorem dX6_parents_54 : decode cX6_parents 54 = .ok (.ifCond .ge 9, 3) := by decide +kernel
theorem dX6_parents_57 : decode cX6_parents 57 = .ok (.aload_n 0, 1) := by decide +kernel
theorem dX6_parents_58 : decode cX6_parents 58 = .ok (.iconst 2, 1) := by decide +kernel
theorem dX6_parents_59 : decode cX6_parents 59 = .ok (.invokevirtual 55, 3) := by decide +kernel
theorem dX6_parents_62 : decode cX6_parents 62 = .ok (.ireturn, 1) := by decide +kernel
theorem dX6_parents_63 : decode cX6_parents 63 = .ok (.iload_n 2, 1) := by decide +kernel
theorem dX6_parents_64 : decode cX6_parents 64 = .ok (.iconst 1, 1) := by decide +kernel
theorem dX6_parents_65 : decode cX6_parents 65 = .ok (.if_icmp .ne 10, 3) := by decide +kernel
theorem dX6_parents_68 : decode cX6_parents 68 = .ok (.iload_n 3, 1) := by decide +kernel
theorem dX6_parents_69 : decode cX6_parents 69 = .ok (.bipush 8, 2) := by decide +kernel
theorem dX6_parents_71 : decode cX6_parents 71 = .ok (.idiv, 1) := by decide +kernel
theorem dX6_parents_72 : decode cX6_parents 72 = .ok (.goto 7, 3) := by decide +kernel
theorem dX6_parents_75 : decode cX6_parents 75 = .ok (.iload_n 3, 1) := by decide +kernel
theorem dX6_parents_76 : decode cX6_parents 76 = .ok (.bipush 8, 2) := by decide +kernel
theorem dX6_parents_78 : decode cX6_parents 78 = .ok (.irem, 1) := by decide +kernel
theorem dX6_parents_79 : decode cX6_parents 79 = .ok (.ireturn, 1) := by decide +kernel
theorem dX6_falseSorts_0 : decode cX6_falseSorts 0 = .ok (.aload_n 0, 1) := by decide +kernel
theorem dX6_falseSorts_1 : decode cX6_falseSorts 1 = .ok (.iload_n 1, 1) := by decide +kernel
theorem dX6_falseSorts_2 : decode cX6_falseSorts 2 = .ok (.invokevirtual 74, 3) := by decide +kernel
theorem dX6_falseSorts_5 : decode cX6_falseSorts 5 = .ok (.ifCond .eq 9, 3) := by decide +kernel
theorem dX6_falseSorts_8 : decode cX6_falseSorts 8 = .ok (.aload_n 0, 1) := by decide +kernel
theorem dX6_falseSorts_9 : decode cX6_falseSorts 9 = .ok (.iconst 1, 1) := by decide +kernel
theorem dX6_falseSorts_10 : decode cX6_falseSorts 10 = .ok (.invokevirtual 55, 3) := by decide +kernel
theorem dX6_falseSorts_13 : decode cX6_falseSorts 13 = .ok (.ireturn, 1) := by decide +kernel
theorem dX6_falseSorts_14 : decode cX6_falseSorts 14 = .ok (.aload_n 0, 1) := by decide +kernel
theorem dX6_falseSorts_15 : decode cX6_falseSorts 15 = .ok (.getfield 12, 3) := by decide +kernel
theorem dX6_falseSorts_18 : decode cX6_falseSorts 18 = .ok (.getfield 83, 3) := by decide +kernel
theorem dX6_falseSorts_21 : decode cX6_falseSorts 21 = .ok (.iload_n 1, 1) := by decide +kernel
theorem dX6_falseSorts_22 : decode cX6_falseSorts 22 = .ok (.iaload, 1) := by decide +kernel
theorem dX6_falseSorts_23 : decode cX6_falseSorts 23 = .ok (.istore_n 2, 1) := by decide +kernel
theorem dX6_falseSorts_24 : decode cX6_falseSorts 24 = .ok (.aload_n 0, 1) := by decide +kernel
theorem dX6_falseSorts_25 : decode cX6_falseSorts 25 = .ok (.getfield 12, 3) := by decide +kernel
theorem dX6_falseSorts_28 : decode cX6_falseSorts 28 = .ok (.getfield 86, 3) := by decide +kernel
theorem dX6_falseSorts_31 : decode cX6_falseSorts 31 = .ok (.iload_n 1, 1) := by decide +kernel
theorem dX6_falseSorts_32 : decode cX6_falseSorts 32 = .ok (.iaload, 1) := by decide +kernel
theorem dX6_falseSorts_33 : decode cX6_falseSorts 33 = .ok (.istore_n 3, 1) := by decide +kernel
theorem dX6_falseSorts_34 : decode cX6_falseSorts 34 = .ok (.aload_n 0, 1) := by decide +kernel
theorem dX6_falseSorts_35 : decode cX6_falseSorts 35 = .ok (.iload_n 2, 1) := by decide +kernel
theorem dX6_falseSorts_36 : decode cX6_falseSorts 36 = .ok (.iload_n 3, 1) := by decide +kernel
theorem dX6_falseSorts_37 : decode cX6_falseSorts 37 = .ok (.invokevirtual 66, 3) := by decide +kernel
theorem dX6_falseSorts_40 : decode cX6_falseSorts 40 = .ok (.ifCond .eq 9, 3) := by decide +kernel
theorem dX6_falseSorts_43 : decode cX6_falseSorts 43 = .ok (.aload_n 0, 1) := by decide +kernel
theorem dX6_falseSorts_44 : decode cX6_falseSorts 44 = .ok (.iconst 3, 1) := by decide +kernel
theorem dX6_falseSorts_45 : decode cX6_falseSorts 45 = .ok (.invokevirtual 55, 3) := by decide +kernel
theorem dX6_falseSorts_48 : decode cX6_falseSorts 48 = .ok (.ireturn, 1) := by decide +kernel
theorem dX6_falseSorts_49 : decode cX6_falseSorts 49 = .ok (.iconst 0, 1) := by decide +kernel
theorem dX6_falseSorts_50 : decode cX6_falseSorts 50 = .ok (.istore 4, 2) := by decide +kernel
theorem dX6_falseSorts_52 : decode cX6_falseSorts 52 = .ok (.iconst 0, 1) := by decide +kernel
theorem dX6_falseSorts_53 : decode cX6_falseSorts 53 = .ok (.istore 5, 2) := by decide +kernel
theorem dX6_falseSorts_55 : decode cX6_falseSorts 55 = .ok (.iload 5, 2) := by decide +kernel
theorem dX6_falseSorts_57 : decode cX6_falseSorts 57 = .ok (.iconst 5, 1) := by decide +kernel
theorem dX6_falseSorts_58 : decode cX6_falseSorts 58 = .ok (.if_icmp .ge 81, 3) := by decide +kernel
theorem dX6_falseSorts_61 : decode cX6_falseSorts 61 = .ok (.aload_n 0, 1) := by decide +kernel
theorem dX6_falseSorts_62 : decode cX6_falseSorts 62 = .ok (.getfield 12, 3) := by decide +kernel
theorem dX6_falseSorts_65 : decode cX6_falseSorts 65 = .ok (.getfield 89, 3) := by decide +kernel
theorem dX6_falseSorts_68 : decode cX6_falseSorts 68 = .ok (.iload_n 1, 1) := by decide +kernel
theorem dX6_falseSorts_69 : decode cX6_falseSorts 69 = .ok (.iload 5, 2) := by decide +kernel
theorem dX6_falseSorts_71 : decode cX6_falseSorts 71 = .ok (.invokestatic 111, 3) := by decide +kernel
theorem dX6_falseSorts_74 : decode cX6_falseSorts 74 = .ok (.iaload, 1) := by decide +kernel
theorem dX6_falseSorts_75 : decode cX6_falseSorts 75 = .ok (.ifCond .le 7, 3) := by decide +kernel
theorem dX6_falseSorts_78 : decode cX6_falseSorts 78 = .ok (.iconst 1, 1) := by decide +kernel
theorem dX6_falseSorts_79 : decode cX6_falseSorts 79 = .ok (.goto 4, 3) := by decide +kernel
theorem dX6_falseSorts_82 : decode cX6_falseSorts 82 = .ok (.iconst 0, 1) := by decide +kernel
theorem dX6_falseSorts_83 : decode cX6_falseSorts 83 = .ok (.istore 6, 2) := by decide +kernel
theorem dX6_falseSorts_85 : decode cX6_falseSorts 85 = .ok (.iload 6, 2) := by decide +kernel
theorem dX6_falseSorts_87 : decode cX6_falseSorts 87 = .ok (.ifCond .eq 46, 3) := by decide +kernel
theorem dX6_falseSorts_90 : decode cX6_falseSorts 90 = .ok (.aload_n 0, 1) := by decide +kernel
theorem dX6_falseSorts_91 : decode cX6_falseSorts 91 = .ok (.getfield 12, 3) := by decide +kernel
theorem dX6_falseSorts_94 : decode cX6_falseSorts 94 = .ok (.getfield 89, 3) := by decide +kernel
theorem dX6_falseSorts_97 : decode cX6_falseSorts 97 = .ok (.iload_n 2, 1) := by decide +kernel
theorem dX6_falseSorts_98 : decode cX6_falseSorts 98 = .ok (.iload 5, 2) := by decide +kernel
theorem dX6_falseSorts_100 : decode cX6_falseSorts 100 = .ok (.invokestatic 111, 3) := by decide +kernel
theorem dX6_falseSorts_103 : decode cX6_falseSorts 103 = .ok (.iaload, 1) := by decide +kernel
theorem dX6_falseSorts_104 : decode cX6_falseSorts 104 = .ok (.ifCond .ne 29, 3) := by decide +kernel
theorem dX6_falseSorts_107 : decode cX6_falseSorts 107 = .ok (.aload_n 0, 1) := by decide +kernel
theorem dX6_falseSorts_108 : decode cX6_falseSorts 108 = .ok (.getfield 12, 3) := by decide +kernel
theorem dX6_falseSorts_111 : decode cX6_falseSorts 111 = .ok (.getfield 89, 3) := by decide +kernel
theorem dX6_falseSorts_114 : decode cX6_falseSorts 114 = .ok (.iload_n 3, 1) := by decide +kernel
theorem dX6_falseSorts_115 : decode cX6_falseSorts 115 = .ok (.iload 5, 2) := by decide +kernel
theorem dX6_falseSorts_117 : decode cX6_falseSorts 117 = .ok (.invokestatic 111, 3) := by decide +kernel
theorem dX6_falseSorts_120 : decode cX6_falseSorts 120 = .ok (.iaload, 1) := by decide +kernel
theorem dX6_falseSorts_121 : decode cX6_falseSorts 121 = .ok (.ifCond .ne 12, 3) := by decide +kernel
theorem dX6_falseSorts_124 : decode cX6_falseSorts 124 = .ok (.iload 4, 2) := by decide +kernel
theorem dX6_falseSorts_126 : decode cX6_falseSorts 126 = .ok (.iconst 1, 1) := by decide +kernel
theorem dX6_falseSorts_127 : decode cX6_falseSorts 127 = .ok (.iload 5, 2) := by decide +kernel
theorem dX6_falseSorts_129 : decode cX6_falseSorts 129 = .ok (.ishl, 1) := by decide +kernel
theorem dX6_falseSorts_130 : decode cX6_falseSorts 130 = .ok (.ior, 1) := by decide +kernel
theorem dX6_falseSorts_131 : decode cX6_falseSorts 131 = .ok (.istore 4, 2) := by decide +kernel
theorem dX6_falseSorts_133 : decode cX6_falseSorts 133 = .ok (.iinc 5 1, 3) := by decide +kernel
theorem dX6_falseSorts_136 : decode cX6_falseSorts 136 = .ok (.goto (-81), 3) := by decide +kernel
theorem dX6_falseSorts_139 : decode cX6_falseSorts 139 = .ok (.iload 4, 2) := by decide +kernel
theorem dX6_falseSorts_141 : decode cX6_falseSorts 141 = .ok (.ireturn, 1) := by decide +kernel
theorem dX6_kin_0 : decode cX6_kin 0 = .ok (.aload_n 0, 1) := by decide +kernel
theorem dX6_kin_1 : decode cX6_kin 1 = .ok (.iload_n 1, 1) := by decide +kernel
theorem dX6_kin_2 : decode cX6_kin 2 = .ok (.iload_n 2, 1) := by decide +kernel
theorem dX6_kin_3 : decode cX6_kin 3 = .ok (.invokevirtual 66, 3) := by decide +kernel
theorem dX6_kin_6 : decode cX6_kin 6 = .ok (.ifCond .eq 9, 3) := by decide +kernel
theorem dX6_kin_9 : decode cX6_kin 9 = .ok (.aload_n 0, 1) := by decide +kernel
theorem dX6_kin_10 : decode cX6_kin 10 = .ok (.iconst 1, 1) := by decide +kernel
theorem dX6_kin_11 : decode cX6_kin 11 = .ok (.invokevirtual 55, 3) := by decide +kernel
theorem dX6_kin_14 : decode cX6_kin 14 = .ok (.ireturn, 1) := by decide +kernel
theorem dX6_kin_15 : decode cX6_kin 15 = .ok (.aload_n 0, 1) := by decide +kernel
theorem dX6_kin_16 : decode cX6_kin 16 = .ok (.getfield 12, 3) := by decide +kernel
theorem dX6_kin_19 : decode cX6_kin 19 = .ok (.iload_n 1, 1) := by decide +kernel
theorem dX6_kin_20 : decode cX6_kin 20 = .ok (.invokevirtual 204, 3) := by decide +kernel
theorem dX6_kin_23 : decode cX6_kin 23 = .ok (.aload_n 0, 1) := by decide +kernel
theorem dX6_kin_24 : decode cX6_kin 24 = .ok (.getfield 12, 3) := by decide +kernel
theorem dX6_kin_27 : decode cX6_kin 27 = .ok (.iload_n 2, 1) := by decide +kernel
theorem dX6_kin_28 : decode cX6_kin 28 = .ok (.invokevirtual 204, 3) := by decide +kernel
theorem dX6_kin_31 : decode cX6_kin 31 = .ok (.iand, 1) := by decide +kernel
theorem dX6_kin_32 : decode cX6_kin 32 = .ok (.ireturn, 1) := by decide +kernel
theorem dX6_nets_0 : decode cX6_nets 0 = .ok (.iload_n 1, 1) := by decide +kernel
theorem dX6_nets_1 : decode cX6_nets 1 = .ok (.iconst 0, 1) := by decide +kernel
theorem dX6_nets_2 : decode cX6_nets 2 = .ok (.iconst 1, 1) := by decide +kernel
theorem dX6_nets_3 : decode cX6_nets 3 = .ok (.invokestatic 115, 3) := by decide +kernel
theorem dX6_nets_6 : decode cX6_nets 6 = .ok (.ifCond .eq 9, 3) := by decide +kernel
theorem dX6_nets_9 : decode cX6_nets 9 = .ok (.aload_n 0, 1) := by decide +kernel
theorem dX6_nets_10 : decode cX6_nets 10 = .ok (.iconst 1, 1) := by decide +kernel
theorem dX6_nets_11 : decode cX6_nets 11 = .ok (.invokevirtual 55, 3) := by decide +kernel
theorem dX6_nets_14 : decode cX6_nets 14 = .ok (.ireturn, 1) := by decide +kernel
theorem dX6_nets_15 : decode cX6_nets 15 = .ok (.iload_n 1, 1) := by decide +kernel
theorem dX6_nets_16 : decode cX6_nets 16 = .ok (.ifCond .ne 15, 3) := by decide +kernel
theorem dX6_nets_19 : decode cX6_nets 19 = .ok (.aload_n 0, 1) := by decide +kernel
theorem dX6_nets_20 : decode cX6_nets 20 = .ok (.getfield 40, 3) := by decide +kernel
theorem dX6_nets_23 : decode cX6_nets 23 = .ok (.aload_n 0, 1) := by decide +kernel
theorem dX6_nets_24 : decode cX6_nets 24 = .ok (.getfield 12, 3) := by decide +kernel
theorem dX6_nets_27 : decode cX6_nets 27 = .ok (.invokevirtual 207, 3) := by decide +kernel
theorem dX6_nets_30 : decode cX6_nets 30 = .ok (.ireturn, 1) := by decide +kernel
theorem dX6_nets_31 : decode cX6_nets 31 = .ok (.iconst 0, 1) := by decide +kernel
theorem dX6_nets_32 : decode cX6_nets 32 = .ok (.istore_n 2, 1) := by decide +kernel
theorem dX6_nets_33 : decode cX6_nets 33 = .ok (.iconst 0, 1) := by decide +kernel
theorem dX6_nets_34 : decode cX6_nets 34 = .ok (.istore_n 3, 1) := by decide +kernel
theorem dX6_nets_35 : decode cX6_nets 35 = .ok (.iload_n 3, 1) := by decide +kernel
theorem dX6_nets_36 : decode cX6_nets 36 = .ok (.aload_n 0, 1) := by decide +kernel
theorem dX6_nets_37 : decode cX6_nets 37 = .ok (.getfield 12, 3) := by decide +kernel
theorem dX6_nets_40 : decode cX6_nets 40 = .ok (.getfield 59, 3) := by decide +kernel
theorem dX6_nets_43 : decode cX6_nets 43 = .ok (.if_icmp .ge 24, 3) := by decide +kernel
theorem dX6_nets_46 : decode cX6_nets 46 = .ok (.iload_n 2, 1) := by decide +kernel
theorem dX6_nets_47 : decode cX6_nets 47 = .ok (.iconst 0, 1) := by decide +kernel
theorem dX6_nets_48 : decode cX6_nets 48 = .ok (.aload_n 0, 1) := by decide +kernel
theorem dX6_nets_49 : decode cX6_nets 49 = .ok (.getfield 12, 3) := by decide +kernel
theorem dX6_nets_52 : decode cX6_nets 52 = .ok (.iload_n 3, 1) := by decide +kernel
theorem dX6_nets_53 : decode cX6_nets 53 = .ok (.invokevirtual 211, 3) := by decide +kernel
theorem dX6_nets_56 : decode cX6_nets 56 = .ok (.invokestatic 214, 3) := by decide +kernel
theorem dX6_nets_59 : decode cX6_nets 59 = .ok (.iadd, 1) := by decide +kernel
theorem dX6_nets_60 : decode cX6_nets 60 = .ok (.istore_n 2, 1) := by decide +kernel
theorem dX6_nets_61 : decode cX6_nets 61 = .ok (.iinc 3 1, 3) := by decide +kernel
theorem dX6_nets_64 : decode cX6_nets 64 = .ok (.goto (-29), 3) := by decide +kernel
theorem dX6_nets_67 : decode cX6_nets 67 = .ok (.iload_n 2, 1) := by decide +kernel
theorem dX6_nets_68 : decode cX6_nets 68 = .ok (.ireturn, 1) := by decide +kernel
theorem dX6_odds_0 : decode cX6_odds 0 = .ok (.iload_n 1, 1) := by decide +kernel
theorem dX6_odds_1 : decode cX6_odds 1 = .ok (.iconst 0, 1) := by decide +kernel
theorem dX6_odds_2 : decode cX6_odds 2 = .ok (.sipush 500, 3) := by decide +kernel
theorem dX6_odds_5 : decode cX6_odds 5 = .ok (.invokestatic 115, 3) := by decide +kernel
theorem dX6_odds_8 : decode cX6_odds 8 = .ok (.ifCond .ne 12, 3) := by decide +kernel
theorem dX6_odds_11 : decode cX6_odds 11 = .ok (.iload_n 2, 1) := by decide +kernel
theorem dX6_odds_12 : decode cX6_odds 12 = .ok (.iconst 0, 1) := by decide +kernel
theorem dX6_odds_13 : decode cX6_odds 13 = .ok (.iconst 1, 1) := by decide +kernel
theorem dX6_odds_14 : decode cX6_odds 14 = .ok (.invokestatic 115, 3) := by decide +kernel
theorem dX6_odds_17 : decode cX6_odds 17 = .ok (.ifCond .eq 9, 3) := by decide +kernel
theorem dX6_odds_20 : decode cX6_odds 20 = .ok (.aload_n 0, 1) := by decide +kernel
theorem dX6_odds_21 : decode cX6_odds 21 = .ok (.iconst 1, 1) := by decide +kernel
theorem dX6_odds_22 : decode cX6_odds 22 = .ok (.invokevirtual 55, 3) := by decide +kernel
theorem dX6_odds_25 : decode cX6_odds 25 = .ok (.ireturn, 1) := by decide +kernel
theorem dX6_odds_26 : decode cX6_odds 26 = .ok (.aload_n 0, 1) := by decide +kernel
theorem dX6_odds_27 : decode cX6_odds 27 = .ok (.getfield 12, 3) := by decide +kernel
theorem dX6_odds_30 : decode cX6_odds 30 = .ok (.getfield 59, 3) := by decide +kernel
theorem dX6_odds_33 : decode cX6_odds 33 = .ok (.iconst 2, 1) := by decide +kernel
theorem dX6_odds_34 : decode cX6_odds 34 = .ok (.if_icmp .ge 9, 3) := by decide +kernel
theorem dX6_odds_37 : decode cX6_odds 37 = .ok (.aload_n 0, 1) := by decide +kernel
theorem dX6_odds_38 : decode cX6_odds 38 = .ok (.iconst 3, 1) := by decide +kernel
