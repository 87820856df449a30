theorem dX7_arePoured_51 : decode cX7_arePoured 51 = .ok (.iinc 5 1, 3) := by decide +kernel
theorem dX7_arePoured_54 : decode cX7_arePoured 54 = .ok (.goto (-48), 3) := by decide +kernel
theorem dX7_arePoured_57 : decode cX7_arePoured 57 = .ok (.iload 4, 2) := by decide +kernel
theorem dX7_arePoured_59 : decode cX7_arePoured 59 = .ok (.ireturn, 1) := by decide +kernel
theorem dX7_parents_0 : decode cX7_parents 0 = .ok (.aload_n 0, 1) := by decide +kernel
theorem dX7_parents_1 : decode cX7_parents 1 = .ok (.iload_n 1, 1) := by decide +kernel
theorem dX7_parents_2 : decode cX7_parents 2 = .ok (.invokevirtual 156, 3) := by decide +kernel
theorem dX7_parents_5 : decode cX7_parents 5 = .ok (.ifCond .eq 12, 3) := by decide +kernel
theorem dX7_parents_8 : decode cX7_parents 8 = .ok (.iload_n 2, 1) := by decide +kernel
theorem dX7_parents_9 : decode cX7_parents 9 = .ok (.iconst 0, 1) := by decide +kernel
theorem dX7_parents_10 : decode cX7_parents 10 = .ok (.iconst 2, 1) := by decide +kernel
theorem dX7_parents_11 : decode cX7_parents 11 = .ok (.invokestatic 53, 3) := by decide +kernel
theorem dX7_parents_14 : decode cX7_parents 14 = .ok (.ifCond .ne 9, 3) := by decide +kernel
theorem dX7_parents_17 : decode cX7_parents 17 = .ok (.aload_n 0, 1) := by decide +kernel
theorem dX7_parents_18 : decode cX7_parents 18 = .ok (.iconst 1, 1) := by decide +kernel
theorem dX7_parents_19 : decode cX7_parents 19 = .ok (.invokevirtual 65, 3) := by decide +kernel
theorem dX7_parents_22 : decode cX7_parents 22 = .ok (.ireturn, 1) := by decide +kernel
theorem dX7_parents_23 : decode cX7_parents 23 = .ok (.iconst 0, 1) := by decide +kernel
theorem dX7_parents_24 : decode cX7_parents 24 = .ok (.istore_n 3, 1) := by decide +kernel
theorem dX7_parents_25 : decode cX7_parents 25 = .ok (.iconst (-1), 1) := by decide +kernel
theorem dX7_parents_26 : decode cX7_parents 26 = .ok (.istore 4, 2) := by decide +kernel
theorem dX7_parents_28 : decode cX7_parents 28 = .ok (.iconst (-1), 1) := by decide +kernel
theorem dX7_parents_29 : decode cX7_parents 29 = .ok (.istore 5, 2) := by decide +kernel
theorem dX7_parents_31 : decode cX7_parents 31 = .ok (.iconst 0, 1) := by decide +kernel
theorem dX7_parents_32 : decode cX7_parents 32 = .ok (.istore 6, 2) := by decide +kernel
theorem dX7_parents_34 : decode cX7_parents 34 = .ok (.iload 6, 2) := by decide +kernel
theorem dX7_parents_36 : decode cX7_parents 36 = .ok (.aload_n 0, 1) := by decide +kernel
theorem dX7_parents_37 : decode cX7_parents 37 = .ok (.getfield 7, 3) := by decide +kernel
theorem dX7_parents_40 : decode cX7_parents 40 = .ok (.iconst 4, 1) := by decide +kernel
theorem dX7_parents_41 : decode cX7_parents 41 = .ok (.iaload, 1) := by decide +kernel
theorem dX7_parents_42 : decode cX7_parents 42 = .ok (.if_icmp .ge 85, 3) := by decide +kernel
theorem dX7_parents_45 : decode cX7_parents 45 = .ok (.iload 6, 2) := by decide +kernel
theorem dX7_parents_47 : decode cX7_parents 47 = .ok (.iconst 1, 1) := by decide +kernel
theorem dX7_parents_48 : decode cX7_parents 48 = .ok (.iadd, 1) := by decide +kernel
theorem dX7_parents_49 : decode cX7_parents 49 = .ok (.istore 7, 2) := by decide +kernel
theorem dX7_parents_51 : decode cX7_parents 51 = .ok (.iload 7, 2) := by decide +kernel
theorem dX7_parents_53 : decode cX7_parents 53 = .ok (.aload_n 0, 1) := by decide +kernel
theorem dX7_parents_54 : decode cX7_parents 54 = .ok (.getfield 7, 3) := by decide +kernel
theorem dX7_parents_57 : decode cX7_parents 57 = .ok (.iconst 4, 1) := by decide +kernel
theorem dX7_parents_58 : decode cX7_parents 58 = .ok (.iaload, 1) := by decide +kernel
theorem dX7_parents_59 : decode cX7_parents 59 = .ok (.if_icmp .ge 62, 3) := by decide +kernel
theorem dX7_parents_62 : decode cX7_parents 62 = .ok (.iload 6, 2) := by decide +kernel
theorem dX7_parents_64 : decode cX7_parents 64 = .ok (.iload_n 1, 1) := by decide +kernel
theorem dX7_parents_65 : decode cX7_parents 65 = .ok (.if_icmp .eq 50, 3) := by decide +kernel
theorem dX7_parents_68 : decode cX7_parents 68 = .ok (.iload 7, 2) := by decide +kernel
theorem dX7_parents_70 : decode cX7_parents 70 = .ok (.iload_n 1, 1) := by decide +kernel
theorem dX7_parents_71 : decode cX7_parents 71 = .ok (.if_icmp .eq 44, 3) := by decide +kernel
theorem dX7_parents_74 : decode cX7_parents 74 = .ok (.aload_n 0, 1) := by decide +kernel
theorem dX7_parents_75 : decode cX7_parents 75 = .ok (.iload 6, 2) := by decide +kernel
theorem dX7_parents_77 : decode cX7_parents 77 = .ok (.iload 7, 2) := by decide +kernel
theorem dX7_parents_79 : decode cX7_parents 79 = .ok (.iload_n 1, 1) := by decide +kernel
theorem dX7_parents_80 : decode cX7_parents 80 = .ok (.invokevirtual 216, 3) := by decide +kernel
theorem dX7_parents_83 : decode cX7_parents 83 = .ok (.ifCond .eq 32, 3) := by decide +kernel
theorem dX7_parents_86 : decode cX7_parents 86 = .ok (.iload_n 3, 1) := by decide +kernel
theorem dX7_parents_87 : decode cX7_parents 87 = .ok (.ifCond .ne 8, 3) := by decide +kernel
theorem dX7_parents_90 : decode cX7_parents 90 = .ok (.iload 6, 2) := by decide +kernel
theorem dX7_parents_92 : decode cX7_parents 92 = .ok (.goto 5, 3) := by decide +kernel
theorem dX7_parents_95 : decode cX7_parents 95 = .ok (.iload 4, 2) := by decide +kernel
theorem dX7_parents_97 : decode cX7_parents 97 = .ok (.istore 4, 2) := by decide +kernel
theorem dX7_parents_99 : decode cX7_parents 99 = .ok (.iload_n 3, 1) := by decide +kernel
theorem dX7_parents_100 : decode cX7_parents 100 = .ok (.ifCond .ne 8, 3) := by decide +kernel
theorem dX7_parents_103 : decode cX7_parents 103 = .ok (.iload 7, 2) := by decide +kernel
theorem dX7_parents_105 : decode cX7_parents 105 = .ok (.goto 5, 3) := by decide +kernel
theorem dX7_parents_108 : decode cX7_parents 108 = .ok (.iload 5, 2) := by decide +kernel
theorem dX7_parents_110 : decode cX7_parents 110 = .ok (.istore 5, 2) := by decide +kernel
theorem dX7_parents_112 : decode cX7_parents 112 = .ok (.iinc 3 1, 3) := by decide +kernel
theorem dX7_parents_115 : decode cX7_parents 115 = .ok (.iinc 7 1, 3) := by decide +kernel
theorem dX7_parents_118 : decode cX7_parents 118 = .ok (.goto (-67), 3) := by decide +kernel
theorem dX7_parents_121 : decode cX7_parents 121 = .ok (.iinc 6 1, 3) := by decide +kernel
theorem dX7_parents_124 : decode cX7_parents 124 = .ok (.goto (-90), 3) := by decide +kernel
theorem dX7_parents_127 : decode cX7_parents 127 = .ok (.iload_n 2, 1) := by decide +kernel
theorem dX7_parents_128 : decode cX7_parents 128 = .ok (.ifCond .le 13, 3) := by decide +kernel
theorem dX7_parents_131 : decode cX7_parents 131 = .ok (.iload_n 3, 1) := by decide +kernel
theorem dX7_parents_132 : decode cX7_parents 132 = .ok (.ifCond .ne 9, 3) := by decide +kernel
theorem dX7_parents_135 : decode cX7_parents 135 = .ok (.aload_n 0, 1) := by decide +kernel
theorem dX7_parents_136 : decode cX7_parents 136 = .ok (.iconst 2, 1) := by decide +kernel
theorem dX7_parents_137 : decode cX7_parents 137 = .ok (.invokevirtual 65, 3) := by decide +kernel
theorem dX7_parents_140 : decode cX7_parents 140 = .ok (.ireturn, 1) := by decide +kernel
theorem dX7_parents_141 : decode cX7_parents 141 = .ok (.iload_n 2, 1) := by decide +kernel
theorem dX7_parents_142 : decode cX7_parents 142 = .ok (.ifCond .ne 7, 3) := by decide +kernel
theorem dX7_parents_145 : decode cX7_parents 145 = .ok (.iload_n 3, 1) := by decide +kernel
theorem dX7_parents_146 : decode cX7_parents 146 = .ok (.goto 15, 3) := by decide +kernel
theorem dX7_parents_149 : decode cX7_parents 149 = .ok (.iload_n 2, 1) := by decide +kernel
theorem dX7_parents_150 : decode cX7_parents 150 = .ok (.iconst 1, 1) := by decide +kernel
theorem dX7_parents_151 : decode cX7_parents 151 = .ok (.if_icmp .ne 8, 3) := by decide +kernel
theorem dX7_parents_154 : decode cX7_parents 154 = .ok (.iload 4, 2) := by decide +kernel
theorem dX7_parents_156 : decode cX7_parents 156 = .ok (.goto 5, 3) := by decide +kernel
theorem dX7_parents_159 : decode cX7_parents 159 = .ok (.iload 5, 2) := by decide +kernel
theorem dX7_parents_161 : decode cX7_parents 161 = .ok (.ireturn, 1) := by decide +kernel
theorem dX7_falseSorts_0 : decode cX7_falseSorts 0 = .ok (.aload_n 0, 1) := by decide +kernel
theorem dX7_falseSorts_1 : decode cX7_falseSorts 1 = .ok (.iload_n 1, 1) := by decide +kernel
theorem dX7_falseSorts_2 : decode cX7_falseSorts 2 = .ok (.invokevirtual 156, 3) := by decide +kernel
theorem dX7_falseSorts_5 : decode cX7_falseSorts 5 = .ok (.ifCond .ne 9, 3) := by decide +kernel
theorem dX7_falseSorts_8 : decode cX7_falseSorts 8 = .ok (.aload_n 0, 1) := by decide +kernel
theorem dX7_falseSorts_9 : decode cX7_falseSorts 9 = .ok (.iconst 1, 1) := by decide +kernel
theorem dX7_falseSorts_10 : decode cX7_falseSorts 10 = .ok (.invokevirtual 65, 3) := by decide +kernel
theorem dX7_falseSorts_13 : decode cX7_falseSorts 13 = .ok (.ireturn, 1) := by decide +kernel
theorem dX7_falseSorts_14 : decode cX7_falseSorts 14 = .ok (.aload_n 0, 1) := by decide +kernel
theorem dX7_falseSorts_15 : decode cX7_falseSorts 15 = .ok (.iload_n 1, 1) := by decide +kernel
theorem dX7_falseSorts_16 : decode cX7_falseSorts 16 = .ok (.iconst 2, 1) := by decide +kernel
theorem dX7_falseSorts_17 : decode cX7_falseSorts 17 = .ok (.invokevirtual 124, 3) := by decide +kernel
theorem dX7_falseSorts_20 : decode cX7_falseSorts 20 = .ok (.istore_n 2, 1) := by decide +kernel
theorem dX7_falseSorts_21 : decode cX7_falseSorts 21 = .ok (.aload_n 0, 1) := by decide +kernel
theorem dX7_falseSorts_22 : decode cX7_falseSorts 22 = .ok (.iload_n 1, 1) := by decide +kernel
theorem dX7_falseSorts_23 : decode cX7_falseSorts 23 = .ok (.iconst 3, 1) := by decide +kernel
theorem dX7_falseSorts_24 : decode cX7_falseSorts 24 = .ok (.invokevirtual 124, 3) := by decide +kernel
theorem dX7_falseSorts_27 : decode cX7_falseSorts 27 = .ok (.istore_n 3, 1) := by decide +kernel
theorem dX7_falseSorts_28 : decode cX7_falseSorts 28 = .ok (.iload_n 2, 1) := by decide +kernel
theorem dX7_falseSorts_29 : decode cX7_falseSorts 29 = .ok (.iconst (-1), 1) := by decide +kernel
theorem dX7_falseSorts_30 : decode cX7_falseSorts 30 = .ok (.if_icmp .ne 9, 3) := by decide +kernel
theorem dX7_falseSorts_33 : decode cX7_falseSorts 33 = .ok (.aload_n 0, 1) := by decide +kernel
theorem dX7_falseSorts_34 : decode cX7_falseSorts 34 = .ok (.iconst 3, 1) := by decide +kernel
theorem dX7_falseSorts_35 : decode cX7_falseSorts 35 = .ok (.invokevirtual 65, 3) := by decide +kernel
theorem dX7_falseSorts_38 : decode cX7_falseSorts 38 = .ok (.ireturn, 1) := by decide +kernel
theorem dX7_falseSorts_39 : decode cX7_falseSorts 39 = .ok (.iconst 0, 1) := by decide +kernel
theorem dX7_falseSorts_40 : decode cX7_falseSorts 40 = .ok (.istore 4, 2) := by decide +kernel
theorem dX7_falseSorts_42 : decode cX7_falseSorts 42 = .ok (.iconst 0, 1) := by decide +kernel
theorem dX7_falseSorts_43 : decode cX7_falseSorts 43 = .ok (.istore 5, 2) := by decide +kernel
theorem dX7_falseSorts_45 : decode cX7_falseSorts 45 = .ok (.iload 5, 2) := by decide +kernel
theorem dX7_falseSorts_47 : decode cX7_falseSorts 47 = .ok (.iconst 5, 1) := by decide +kernel
theorem dX7_falseSorts_48 : decode cX7_falseSorts 48 = .ok (.if_icmp .ge 52, 3) := by decide +kernel
theorem dX7_falseSorts_51 : decode cX7_falseSorts 51 = .ok (.iload 4, 2) := by decide +kernel
theorem dX7_falseSorts_53 : decode cX7_falseSorts 53 = .ok (.aload_n 0, 1) := by decide +kernel
theorem dX7_falseSorts_54 : decode cX7_falseSorts 54 = .ok (.iload_n 1, 1) := by decide +kernel
theorem dX7_falseSorts_55 : decode cX7_falseSorts 55 = .ok (.iload 5, 2) := by decide +kernel
theorem dX7_falseSorts_57 : decode cX7_falseSorts 57 = .ok (.invokevirtual 57, 3) := by decide +kernel
theorem dX7_falseSorts_60 : decode cX7_falseSorts 60 = .ok (.ifCond .le 30, 3) := by decide +kernel
theorem dX7_falseSorts_63 : decode cX7_falseSorts 63 = .ok (.aload_n 0, 1) := by decide +kernel
theorem dX7_falseSorts_64 : decode cX7_falseSorts 64 = .ok (.iload_n 2, 1) := by decide +kernel
theorem dX7_falseSorts_65 : decode cX7_falseSorts 65 = .ok (.iload 5, 2) := by decide +kernel
theorem dX7_falseSorts_67 : decode cX7_falseSorts 67 = .ok (.invokevirtual 57, 3) := by decide +kernel
theorem dX7_falseSorts_70 : decode cX7_falseSorts 70 = .ok (.ifCond .ne 20, 3) := by decide +kernel
theorem dX7_falseSorts_73 : decode cX7_falseSorts 73 = .ok (.aload_n 0, 1) := by decide +kernel
theorem dX7_falseSorts_74 : decode cX7_falseSorts 74 = .ok (.iload_n 3, 1) := by decide +kernel
theorem dX7_falseSorts_75 : decode cX7_falseSorts 75 = .ok (.iload 5, 2) := by decide +kernel
theorem dX7_falseSorts_77 : decode cX7_falseSorts 77 = .ok (.invokevirtual 57, 3) := by decide +kernel
theorem dX7_falseSorts_80 : decode cX7_falseSorts 80 = .ok (.ifCond .ne 10, 3) := by decide +kernel
theorem dX7_falseSorts_83 : decode cX7_falseSorts 83 = .ok (.iconst 1, 1) := by decide +kernel
theorem dX7_falseSorts_84 : decode cX7_falseSorts 84 = .ok (.iload 5, 2) := by decide +kernel
theorem dX7_falseSorts_86 : decode cX7_falseSorts 86 = .ok (.ishl, 1) := by decide +kernel
theorem dX7_falseSorts_87 : decode cX7_falseSorts 87 = .ok (.goto 4, 3) := by decide +kernel
theorem dX7_falseSorts_90 : decode cX7_falseSorts 90 = .ok (.iconst 0, 1) := by decide +kernel
theorem dX7_falseSorts_91 : decode cX7_falseSorts 91 = .ok (.ior, 1) := by decide +kernel
theorem dX7_falseSorts_92 : decode cX7_falseSorts 92 = .ok (.istore 4, 2) := by decide +kernel
theorem dX7_falseSorts_94 : decode cX7_falseSorts 94 = .ok (.iinc 5 1, 3) := by decide +kernel
theorem dX7_falseSorts_97 : decode cX7_falseSorts 97 = .ok (.goto (-52), 3) := by decide +kernel
theorem dX7_falseSorts_100 : decode cX7_falseSorts 100 = .ok (.iload 4, 2) := by decide +kernel
theorem dX7_falseSorts_102 : decode cX7_falseSorts 102 = .ok (.ireturn, 1) := by decide +kernel
theorem dX7_kin_0 : decode cX7_kin 0 = .ok (.aload_n 0, 1) := by decide +kernel
theorem dX7_kin_1 : decode cX7_kin 1 = .ok (.iload_n 1, 1) := by decide +kernel
theorem dX7_kin_2 : decode cX7_kin 2 = .ok (.iload_n 2, 1) := by decide +kernel
theorem dX7_kin_3 : decode cX7_kin 3 = .ok (.invokevirtual 159, 3) := by decide +kernel
theorem dX7_kin_6 : decode cX7_kin 6 = .ok (.ifCond .eq 25, 3) := by decide +kernel
theorem dX7_kin_9 : decode cX7_kin 9 = .ok (.aload_n 0, 1) := by decide +kernel
theorem dX7_kin_10 : decode cX7_kin 10 = .ok (.iload_n 1, 1) := by decide +kernel
theorem dX7_kin_11 : decode cX7_kin 11 = .ok (.invokevirtual 169, 3) := by decide +kernel
theorem dX7_kin_14 : decode cX7_kin 14 = .ok (.iconst 1, 1) := by decide +kernel
theorem dX7_kin_15 : decode cX7_kin 15 = .ok (.iload_n 1, 1) := by decide +kernel
theorem dX7_kin_16 : decode cX7_kin 16 = .ok (.ishl, 1) := by decide +kernel
theorem dX7_kin_17 : decode cX7_kin 17 = .ok (.ior, 1) := by decide +kernel
theorem dX7_kin_18 : decode cX7_kin 18 = .ok (.aload_n 0, 1) := by decide +kernel
theorem dX7_kin_19 : decode cX7_kin 19 = .ok (.iload_n 2, 1) := by decide +kernel
theorem dX7_kin_20 : decode cX7_kin 20 = .ok (.invokevirtual 169, 3) := by decide +kernel
theorem dX7_kin_23 : decode cX7_kin 23 = .ok (.iconst 1, 1) := by decide +kernel
theorem dX7_kin_24 : decode cX7_kin 24 = .ok (.iload_n 2, 1) := by decide +kernel
theorem dX7_kin_25 : decode cX7_kin 25 = .ok (.ishl, 1) := by decide +kernel
theorem dX7_kin_26 : decode cX7_kin 26 = .ok (.ior, 1) := by decide +kernel
theorem dX7_kin_27 : decode cX7_kin 27 = .ok (.iand, 1) := by decide +kernel
theorem dX7_kin_28 : decode cX7_kin 28 = .ok (.goto 8, 3) := by decide +kernel
theorem dX7_kin_31 : decode cX7_kin 31 = .ok (.aload_n 0, 1) := by decide +kernel
theorem dX7_kin_32 : decode cX7_kin 32 = .ok (.iconst 1, 1) := by decide +kernel
theorem dX7_kin_33 : decode cX7_kin 33 = .ok (.invokevirtual 65, 3) := by decide +kernel
theorem dX7_kin_36 : decode cX7_kin 36 = .ok (.ireturn, 1) := by decide +kernel
theorem dX7_balance_0 : decode cX7_balance 0 = .ok (.iconst 0, 1) := by decide +kernel
theorem dX7_balance_1 : decode cX7_balance 1 = .ok (.istore_n 2, 1) := by decide +kernel
theorem dX7_balance_2 : decode cX7_balance 2 = .ok (.iconst 0, 1) := by decide +kernel
theorem dX7_balance_3 : decode cX7_balance 3 = .ok (.istore_n 3, 1) := by decide +kernel
theorem dX7_balance_4 : decode cX7_balance 4 = .ok (.iload_n 3, 1) := by decide +kernel
theorem dX7_balance_5 : decode cX7_balance 5 = .ok (.aload_n 0, 1) := by decide +kernel
theorem dX7_balance_6 : decode cX7_balance 6 = .ok (.getfield 7, 3) := by decide +kernel
theorem dX7_balance_9 : decode cX7_balance 9 = .ok (.iconst 4, 1) := by decide +kernel
theorem dX7_balance_10 : decode cX7_balance 10 = .ok (.iaload, 1) := by decide +kernel
theorem dX7_balance_11 : decode cX7_balance 11 = .ok (.if_icmp .ge 25, 3) := by decide +kernel
theorem dX7_balance_14 : decode cX7_balance 14 = .ok (.iload_n 2, 1) := by decide +kernel
theorem dX7_balance_15 : decode cX7_balance 15 = .ok (.aload_n 0, 1) := by decide +kernel
theorem dX7_balance_16 : decode cX7_balance 16 = .ok (.iload_n 3, 1) := by decide +kernel
theorem dX7_balance_17 : decode cX7_balance 17 = .ok (.iload_n 1, 1) := by decide +kernel
theorem dX7_balance_18 : decode cX7_balance 18 = .ok (.invokevirtual 188, 3) := by decide +kernel
theorem dX7_balance_21 : decode cX7_balance 21 = .ok (.aload_n 0, 1) := by decide +kernel
theorem dX7_balance_22 : decode cX7_balance 22 = .ok (.iload_n 1, 1) := by decide +kernel
theorem dX7_balance_23 : decode cX7_balance 23 = .ok (.iload_n 3, 1) := by decide +kernel
theorem dX7_balance_24 : decode cX7_balance 24 = .ok (.invokevirtual 188, 3) := by decide +kernel
theorem dX7_balance_27 : decode cX7_balance 27 = .ok (.isub, 1) := by decide +kernel
theorem dX7_balance_28 : decode cX7_balance 28 = .ok (.iadd, 1) := by decide +kernel
theorem dX7_balance_29 : decode cX7_balance 29 = .ok (.istore_n 2, 1) := by decide +kernel
theorem dX7_balance_30 : decode cX7_balance 30 = .ok (.iinc 3 1, 3) := by decide +kernel
theorem dX7_balance_33 : decode cX7_balance 33 = .ok (.goto (-29), 3) := by decide +kernel
theorem dX7_balance_36 : decode cX7_balance 36 = .ok (.iload_n 2, 1) := by decide +kernel
theorem dX7_balance_37 : decode cX7_balance 37 = .ok (.ireturn, 1) := by decide +kernel
theorem dX7_fewestPayments_0 : decode cX7_fewestPayments 0 = .ok (.iconst 0, 1) := by decide +kernel
theorem dX7_fewestPayments_1 : decode cX7_fewestPayments 1 = .ok (.istore_n 1, 1) := by decide +kernel
theorem dX7_fewestPayments_2 : decode cX7_fewestPayments 2 = .ok (.iconst 0, 1) := by decide +kernel
theorem dX7_fewestPayments_3 : decode cX7_fewestPayments 3 = .ok (.istore_n 2, 1) := by decide +kernel
theorem dX7_fewestPayments_4 : decode cX7_fewestPayments 4 = .ok (.iconst 0, 1) := by decide +kernel
theorem dX7_fewestPayments_5 : decode cX7_fewestPayments 5 = .ok (.istore_n 3, 1) := by decide +kernel
theorem dX7_fewestPayments_6 : decode cX7_fewestPayments 6 = .ok (.iload_n 3, 1) := by decide +kernel
theorem dX7_fewestPayments_7 : decode cX7_fewestPayments 7 = .ok (.aload_n 0, 1) := by decide +kernel
theorem dX7_fewestPayments_8 : decode cX7_fewestPayments 8 = .ok (.getfield 7, 3) := by decide +kernel
theorem dX7_fewestPayments_11 : decode cX7_fewestPayments 11 = .ok (.iconst 4, 1) := by decide +kernel
theorem dX7_fewestPayments_12 : decode cX7_fewestPayments 12 = .ok (.iaload, 1) := by decide +kernel
theorem dX7_fewestPayments_13 : decode cX7_fewestPayments 13 = .ok (.if_icmp .ge 43, 3) := by decide +kernel
theorem dX7_fewestPayments_16 : decode cX7_fewestPayments 16 = .ok (.iload_n 1, 1) := by decide +kernel
theorem dX7_fewestPayments_17 : decode cX7_fewestPayments 17 = .ok (.aload_n 0, 1) := by decide +kernel
theorem dX7_fewestPayments_18 : decode cX7_fewestPayments 18 = .ok (.iload_n 3, 1) := by decide +kernel
theorem dX7_fewestPayments_19 : decode cX7_fewestPayments 19 = .ok (.invokevirtual 219, 3) := by decide +kernel
theorem dX7_fewestPayments_22 : decode cX7_fewestPayments 22 = .ok (.ifCond .eq 9, 3) := by decide +kernel
theorem dX7_fewestPayments_25 : decode cX7_fewestPayments 25 = .ok (.iconst 1, 1) := by decide +kernel
theorem dX7_fewestPayments_26 : decode cX7_fewestPayments 26 = .ok (.iload_n 3, 1) := by decide +kernel
theorem dX7_fewestPayments_27 : decode cX7_fewestPayments 27 = .ok (.ishl, 1) := by decide +kernel
theorem dX7_fewestPayments_28 : decode cX7_fewestPayments 28 = .ok (.goto 4, 3) := by decide +kernel
theorem dX7_fewestPayments_31 : decode cX7_fewestPayments 31 = .ok (.iconst 0, 1) := by decide +kernel
theorem dX7_fewestPayments_32 : decode cX7_fewestPayments 32 = .ok (.ior, 1) := by decide +kernel
theorem dX7_fewestPayments_33 : decode cX7_fewestPayments 33 = .ok (.istore_n 1, 1) := by decide +kernel
theorem dX7_fewestPayments_34 : decode cX7_fewestPayments 34 = .ok (.iload_n 2, 1) := by decide +kernel
theorem dX7_fewestPayments_35 : decode cX7_fewestPayments 35 = .ok (.aload_n 0, 1) := by decide +kernel
theorem dX7_fewestPayments_36 : decode cX7_fewestPayments 36 = .ok (.iload_n 3, 1) := by decide +kernel
theorem dX7_fewestPayments_37 : decode cX7_fewestPayments 37 = .ok (.invokevirtual 219, 3) := by decide +kernel
theorem dX7_fewestPayments_40 : decode cX7_fewestPayments 40 = .ok (.ifCond .eq 7, 3) := by decide +kernel
theorem dX7_fewestPayments_43 : decode cX7_fewestPayments 43 = .ok (.iconst 1, 1) := by decide +kernel
theorem dX7_fewestPayments_44 : decode cX7_fewestPayments 44 = .ok (.goto 4, 3) := by decide +kernel
theorem dX7_fewestPayments_47 : decode cX7_fewestPayments 47 = .ok (.iconst 0, 1) := by decide +kernel
theorem dX7_fewestPayments_48 : decode cX7_fewestPayments 48 = .ok (.iadd, 1) := by decide +kernel
theorem dX7_fewestPayments_49 : decode cX7_fewestPayments 49 = .ok (.istore_n 2, 1) := by decide +kernel
theorem dX7_fewestPayments_50 : decode cX7_fewestPayments 50 = .ok (.iinc 3 1, 3) := by decide +kernel
theorem dX7_fewestPayments_53 : decode cX7_fewestPayments 53 = .ok (.goto (-47), 3) := by decide +kernel
theorem dX7_fewestPayments_56 : decode cX7_fewestPayments 56 = .ok (.aload_n 0, 1) := by decide +kernel
theorem dX7_fewestPayments_57 : decode cX7_fewestPayments 57 = .ok (.getfield 31, 3) := by decide +kernel
theorem dX7_fewestPayments_60 : decode cX7_fewestPayments 60 = .ok (.iconst 0, 1) := by decide +kernel
theorem dX7_fewestPayments_61 : decode cX7_fewestPayments 61 = .ok (.iconst 0, 1) := by decide +kernel
theorem dX7_fewestPayments_62 : decode cX7_fewestPayments 62 = .ok (.iastore, 1) := by decide +kernel
theorem dX7_fewestPayments_63 : decode cX7_fewestPayments 63 = .ok (.aload_n 0, 1) := by decide +kernel
theorem dX7_fewestPayments_64 : decode cX7_fewestPayments 64 = .ok (.getfield 34, 3) := by decide +kernel
theorem dX7_fewestPayments_67 : decode cX7_fewestPayments 67 = .ok (.iconst 0, 1) := by decide +kernel
theorem dX7_fewestPayments_68 : decode cX7_fewestPayments 68 = .ok (.iconst 0, 1) := by decide +kernel
theorem dX7_fewestPayments_69 : decode cX7_fewestPayments 69 = .ok (.iastore, 1) := by decide +kernel
theorem dX7_fewestPayments_70 : decode cX7_fewestPayments 70 = .ok (.iconst 1, 1) := by decide +kernel
theorem dX7_fewestPayments_71 : decode cX7_fewestPayments 71 = .ok (.istore_n 3, 1) := by decide +kernel
theorem dX7_fewestPayments_72 : decode cX7_fewestPayments 72 = .ok (.iload_n 3, 1) := by decide +kernel
theorem dX7_fewestPayments_73 : decode cX7_fewestPayments 73 = .ok (.iload_n 1, 1) := by decide +kernel
theorem dX7_fewestPayments_74 : decode cX7_fewestPayments 74 = .ok (.if_icmp .gt 123, 3) := by decide +kernel
theorem dX7_fewestPayments_77 : decode cX7_fewestPayments 77 = .ok (.iload_n 3, 1) := by decide +kernel
theorem dX7_fewestPayments_78 : decode cX7_fewestPayments 78 = .ok (.iload_n 1, 1) := by decide +kernel
theorem dX7_fewestPayments_79 : decode cX7_fewestPayments 79 = .ok (.iconst (-1), 1) := by decide +kernel
theorem dX7_fewestPayments_80 : decode cX7_fewestPayments 80 = .ok (.ixor, 1) := by decide +kernel
theorem dX7_fewestPayments_81 : decode cX7_fewestPayments 81 = .ok (.iand, 1) := by decide +kernel
theorem dX7_fewestPayments_82 : decode cX7_fewestPayments 82 = .ok (.ifCond .ne 109, 3) := by decide +kernel
theorem dX7_fewestPayments_85 : decode cX7_fewestPayments 85 = .ok (.iconst 0, 1) := by decide +kernel
theorem dX7_fewestPayments_86 : decode cX7_fewestPayments 86 = .ok (.istore 4, 2) := by decide +kernel
theorem dX7_fewestPayments_88 : decode cX7_fewestPayments 88 = .ok (.iconst 0, 1) := by decide +kernel
theorem dX7_fewestPayments_89 : decode cX7_fewestPayments 89 = .ok (.istore 5, 2) := by decide +kernel
theorem dX7_fewestPayments_91 : decode cX7_fewestPayments 91 = .ok (.iconst 0, 1) := by decide +kernel
theorem dX7_fewestPayments_92 : decode cX7_fewestPayments 92 = .ok (.istore 6, 2) := by decide +kernel
theorem dX7_fewestPayments_94 : decode cX7_fewestPayments 94 = .ok (.iload 6, 2) := by decide +kernel
theorem dX7_fewestPayments_96 : decode cX7_fewestPayments 96 = .ok (.aload_n 0, 1) := by decide +kernel
theorem dX7_fewestPayments_97 : decode cX7_fewestPayments 97 = .ok (.getfield 7, 3) := by decide +kernel
theorem dX7_fewestPayments_100 : decode cX7_fewestPayments 100 = .ok (.iconst 4, 1) := by decide +kernel
theorem dX7_fewestPayments_101 : decode cX7_fewestPayments 101 = .ok (.iaload, 1) := by decide +kernel
theorem dX7_fewestPayments_102 : decode cX7_fewestPayments 102 = .ok (.if_icmp .ge 61, 3) := by decide +kernel
theorem dX7_fewestPayments_105 : decode cX7_fewestPayments 105 = .ok (.iload_n 3, 1) := by decide +kernel
theorem dX7_fewestPayments_106 : decode cX7_fewestPayments 106 = .ok (.iload 6, 2) := by decide +kernel
theorem dX7_fewestPayments_108 : decode cX7_fewestPayments 108 = .ok (.ishr, 1) := by decide +kernel
theorem dX7_fewestPayments_109 : decode cX7_fewestPayments 109 = .ok (.iconst 1, 1) := by decide +kernel
theorem dX7_fewestPayments_110 : decode cX7_fewestPayments 110 = .ok (.iand, 1) := by decide +kernel
theorem dX7_fewestPayments_111 : decode cX7_fewestPayments 111 = .ok (.iconst 1, 1) := by decide +kernel
theorem dX7_fewestPayments_112 : decode cX7_fewestPayments 112 = .ok (.if_icmp .ne 45, 3) := by decide +kernel
theorem dX7_fewestPayments_115 : decode cX7_fewestPayments 115 = .ok (.iload 4, 2) := by decide +kernel
theorem dX7_fewestPayments_117 : decode cX7_fewestPayments 117 = .ok (.aload_n 0, 1) := by decide +kernel
theorem dX7_fewestPayments_118 : decode cX7_fewestPayments 118 = .ok (.iload 6, 2) := by decide +kernel
theorem dX7_fewestPayments_120 : decode cX7_fewestPayments 120 = .ok (.invokevirtual 219, 3) := by decide +kernel
theorem dX7_fewestPayments_123 : decode cX7_fewestPayments 123 = .ok (.iadd, 1) := by decide +kernel
theorem dX7_fewestPayments_124 : decode cX7_fewestPayments 124 = .ok (.istore 4, 2) := by decide +kernel
theorem dX7_fewestPayments_126 : decode cX7_fewestPayments 126 = .ok (.aload_n 0, 1) := by decide +kernel
theorem dX7_fewestPayments_127 : decode cX7_fewestPayments 127 = .ok (.getfield 34, 3) := by decide +kernel
theorem dX7_fewestPayments_130 : decode cX7_fewestPayments 130 = .ok (.iload_n 3, 1) := by decide +kernel
theorem dX7_fewestPayments_131 : decode cX7_fewestPayments 131 = .ok (.iconst 1, 1) := by decide +kernel
theorem dX7_fewestPayments_132 : decode cX7_fewestPayments 132 = .ok (.iload 6, 2) := by decide +kernel
theorem dX7_fewestPayments_134 : decode cX7_fewestPayments 134 = .ok (.ishl, 1) := by decide +kernel
theorem dX7_fewestPayments_135 : decode cX7_fewestPayments 135 = .ok (.iconst (-1), 1) := by decide +kernel
theorem dX7_fewestPayments_136 : decode cX7_fewestPayments 136 = .ok (.ixor, 1) := by decide +kernel
theorem dX7_fewestPayments_137 : decode cX7_fewestPayments 137 = .ok (.iand, 1) := by decide +kernel
theorem dX7_fewestPayments_138 : decode cX7_fewestPayments 138 = .ok (.iaload, 1) := by decide +kernel
theorem dX7_fewestPayments_139 : decode cX7_fewestPayments 139 = .ok (.istore 7, 2) := by decide +kernel
theorem dX7_fewestPayments_141 : decode cX7_fewestPayments 141 = .ok (.iload 7, 2) := by decide +kernel
theorem dX7_fewestPayments_143 : decode cX7_fewestPayments 143 = .ok (.iload 5, 2) := by decide +kernel
theorem dX7_fewestPayments_145 : decode cX7_fewestPayments 145 = .ok (.if_icmp .le 8, 3) := by decide +kernel
theorem dX7_fewestPayments_148 : decode cX7_fewestPayments 148 = .ok (.iload 7, 2) := by decide +kernel
theorem dX7_fewestPayments_150 : decode cX7_fewestPayments 150 = .ok (.goto 5, 3) := by decide +kernel
theorem dX7_fewestPayments_153 : decode cX7_fewestPayments 153 = .ok (.iload 5, 2) := by decide +kernel
theorem dX7_fewestPayments_155 : decode cX7_fewestPayments 155 = .ok (.istore 5, 2) := by decide +kernel
theorem dX7_fewestPayments_157 : decode cX7_fewestPayments 157 = .ok (.iinc 6 1, 3) := by decide +kernel
theorem dX7_fewestPayments_160 : decode cX7_fewestPayments 160 = .ok (.goto (-66), 3) := by decide +kernel
theorem dX7_fewestPayments_163 : decode cX7_fewestPayments 163 = .ok (.aload_n 0, 1) := by decide +kernel
theorem dX7_fewestPayments_164 : decode cX7_fewestPayments 164 = .ok (.getfield 31, 3) := by decide +kernel
theorem dX7_fewestPayments_167 : decode cX7_fewestPayments 167 = .ok (.iload_n 3, 1) := by decide +kernel
theorem dX7_fewestPayments_168 : decode cX7_fewestPayments 168 = .ok (.iload 4, 2) := by decide +kernel
theorem dX7_fewestPayments_170 : decode cX7_fewestPayments 170 = .ok (.iastore, 1) := by decide +kernel
theorem dX7_fewestPayments_171 : decode cX7_fewestPayments 171 = .ok (.aload_n 0, 1) := by decide +kernel
theorem dX7_fewestPayments_172 : decode cX7_fewestPayments 172 = .ok (.getfield 34, 3) := by decide +kernel
theorem dX7_fewestPayments_175 : decode cX7_fewestPayments 175 = .ok (.iload_n 3, 1) := by decide +kernel
theorem dX7_fewestPayments_176 : decode cX7_fewestPayments 176 = .ok (.iload 4, 2) := by decide +kernel
theorem dX7_fewestPayments_178 : decode cX7_fewestPayments 178 = .ok (.ifCond .ne 10, 3) := by decide +kernel
theorem dX7_fewestPayments_181 : decode cX7_fewestPayments 181 = .ok (.iload 5, 2) := by decide +kernel
theorem dX7_fewestPayments_183 : decode cX7_fewestPayments 183 = .ok (.iconst 1, 1) := by decide +kernel
theorem dX7_fewestPayments_184 : decode cX7_fewestPayments 184 = .ok (.iadd, 1) := by decide +kernel
theorem dX7_fewestPayments_185 : decode cX7_fewestPayments 185 = .ok (.goto 5, 3) := by decide +kernel
theorem dX7_fewestPayments_188 : decode cX7_fewestPayments 188 = .ok (.iload 5, 2) := by decide +kernel
theorem dX7_fewestPayments_190 : decode cX7_fewestPayments 190 = .ok (.iastore, 1) := by decide +kernel
theorem dX7_fewestPayments_191 : decode cX7_fewestPayments 191 = .ok (.iinc 3 1, 3) := by decide +kernel
theorem dX7_fewestPayments_194 : decode cX7_fewestPayments 194 = .ok (.goto (-122), 3) := by decide +kernel
theorem dX7_fewestPayments_197 : decode cX7_fewestPayments 197 = .ok (.iload_n 2, 1) := by decide +kernel
theorem dX7_fewestPayments_198 : decode cX7_fewestPayments 198 = .ok (.aload_n 0, 1) := by decide +kernel
theorem dX7_fewestPayments_199 : decode cX7_fewestPayments 199 = .ok (.getfield 34, 3) := by decide +kernel
theorem dX7_fewestPayments_202 : decode cX7_fewestPayments 202 = .ok (.iload_n 1, 1) := by decide +kernel
theorem dX7_fewestPayments_203 : decode cX7_fewestPayments 203 = .ok (.iaload, 1) := by decide +kernel
theorem dX7_fewestPayments_204 : decode cX7_fewestPayments 204 = .ok (.isub, 1) := by decide +kernel
theorem dX7_fewestPayments_205 : decode cX7_fewestPayments 205 = .ok (.ireturn, 1) := by decide +kernel
theorem dX7_nets_0 : decode cX7_nets 0 = .ok (.iload_n 1, 1) := by decide +kernel
theorem dX7_nets_1 : decode cX7_nets 1 = .ok (.iconst 0, 1) := by decide +kernel
theorem dX7_nets_2 : decode cX7_nets 2 = .ok (.iconst 1, 1) := by decide +kernel
theorem dX7_nets_3 : decode cX7_nets 3 = .ok (.invokestatic 53, 3) := by decide +kernel
theorem dX7_nets_6 : decode cX7_nets 6 = .ok (.ifCond .ne 9, 3) := by decide +kernel
theorem dX7_nets_9 : decode cX7_nets 9 = .ok (.aload_n 0, 1) := by decide +kernel
theorem dX7_nets_10 : decode cX7_nets 10 = .ok (.iconst 1, 1) := by decide +kernel
theorem dX7_nets_11 : decode cX7_nets 11 = .ok (.invokevirtual 65, 3) := by decide +kernel
theorem dX7_nets_14 : decode cX7_nets 14 = .ok (.ireturn, 1) := by decide +kernel
theorem dX7_nets_15 : decode cX7_nets 15 = .ok (.iload_n 1, 1) := by decide +kernel
theorem dX7_nets_16 : decode cX7_nets 16 = .ok (.ifCond .ne 8, 3) := by decide +kernel
theorem dX7_nets_19 : decode cX7_nets 19 = .ok (.aload_n 0, 1) := by decide +kernel
theorem dX7_nets_20 : decode cX7_nets 20 = .ok (.invokevirtual 222, 3) := by decide +kernel
theorem dX7_nets_23 : decode cX7_nets 23 = .ok (.ireturn, 1) := by decide +kernel
theorem dX7_nets_24 : decode cX7_nets 24 = .ok (.iconst 0, 1) := by decide +kernel
theorem dX7_nets_25 : decode cX7_nets 25 = .ok (.istore_n 2, 1) := by decide +kernel
theorem dX7_nets_26 : decode cX7_nets 26 = .ok (.iconst 0, 1) := by decide +kernel
theorem dX7_nets_27 : decode cX7_nets 27 = .ok (.istore_n 3, 1) := by decide +kernel
theorem dX7_nets_28 : decode cX7_nets 28 = .ok (.iload_n 3, 1) := by decide +kernel
theorem dX7_nets_29 : decode cX7_nets 29 = .ok (.aload_n 0, 1) := by decide +kernel
theorem dX7_nets_30 : decode cX7_nets 30 = .ok (.getfield 7, 3) := by decide +kernel
theorem dX7_nets_33 : decode cX7_nets 33 = .ok (.iconst 4, 1) := by decide +kernel
theorem dX7_nets_34 : decode cX7_nets 34 = .ok (.iaload, 1) := by decide +kernel
theorem dX7_nets_35 : decode cX7_nets 35 = .ok (.if_icmp .ge 29, 3) := by decide +kernel
theorem dX7_nets_38 : decode cX7_nets 38 = .ok (.iload_n 2, 1) := by decide +kernel
theorem dX7_nets_39 : decode cX7_nets 39 = .ok (.aload_n 0, 1) := by decide +kernel
theorem dX7_nets_40 : decode cX7_nets 40 = .ok (.iload_n 3, 1) := by decide +kernel
theorem dX7_nets_41 : decode cX7_nets 41 = .ok (.invokevirtual 219, 3) := by decide +kernel
theorem dX7_nets_44 : decode cX7_nets 44 = .ok (.ifCond .le 11, 3) := by decide +kernel
theorem dX7_nets_47 : decode cX7_nets 47 = .ok (.aload_n 0, 1) := by decide +kernel
theorem dX7_nets_48 : decode cX7_nets 48 = .ok (.iload_n 3, 1) := by decide +kernel
theorem dX7_nets_49 : decode cX7_nets 49 = .ok (.invokevirtual 219, 3) := by decide +kernel
theorem dX7_nets_52 : decode cX7_nets 52 = .ok (.goto 4, 3) := by decide +kernel
theorem dX7_nets_55 : decode cX7_nets 55 = .ok (.iconst 0, 1) := by decide +kernel
theorem dX7_nets_56 : decode cX7_nets 56 = .ok (.iadd, 1) := by decide +kernel
theorem dX7_nets_57 : decode cX7_nets 57 = .ok (.istore_n 2, 1) := by decide +kernel
theorem dX7_nets_58 : decode cX7_nets 58 = .ok (.iinc 3 1, 3) := by decide +kernel
theorem dX7_nets_61 : decode cX7_nets 61 = .ok (.goto (-33), 3) := by decide +kernel
theorem dX7_nets_64 : decode cX7_nets 64 = .ok (.iload_n 2, 1) := by decide +kernel
theorem dX7_nets_65 : decode cX7_nets 65 = .ok (.ireturn, 1) := by decide +kernel
theorem dX7_divisor_0 : decode cX7_divisor 0 = .ok (.iload_n 0, 1) := by decide +kernel
theorem dX7_divisor_1 : decode cX7_divisor 1 = .ok (.istore_n 2, 1) := by decide +kernel
theorem dX7_divisor_2 : decode cX7_divisor 2 = .ok (.iload_n 1, 1) := by decide +kernel
theorem dX7_divisor_3 : decode cX7_divisor 3 = .ok (.istore_n 3, 1) := by decide +kernel
theorem dX7_divisor_4 : decode cX7_divisor 4 = .ok (.iload_n 3, 1) := by decide +kernel
theorem dX7_divisor_5 : decode cX7_divisor 5 = .ok (.ifCond .eq 16, 3) := by decide +kernel
theorem dX7_divisor_8 : decode cX7_divisor 8 = .ok (.iload_n 2, 1) := by decide +kernel
theorem dX7_divisor_9 : decode cX7_divisor 9 = .ok (.iload_n 3, 1) := by decide +kernel
theorem dX7_divisor_10 : decode cX7_divisor 10 = .ok (.irem, 1) := by decide +kernel
theorem dX7_divisor_11 : decode cX7_divisor 11 = .ok (.istore 4, 2) := by decide +kernel
theorem dX7_divisor_13 : decode cX7_divisor 13 = .ok (.iload_n 3, 1) := by decide +kernel
theorem dX7_divisor_14 : decode cX7_divisor 14 = .ok (.istore_n 2, 1) := by decide +kernel
theorem dX7_divisor_15 : decode cX7_divisor 15 = .ok (.iload 4, 2) := by decide +kernel
theorem dX7_divisor_17 : decode cX7_divisor 17 = .ok (.istore_n 3, 1) := by decide +kernel
theorem dX7_divisor_18 : decode cX7_divisor 18 = .ok (.goto (-14), 3) := by decide +kernel
theorem dX7_divisor_21 : decode cX7_divisor 21 = .ok (.iload_n 2, 1) := by decide +kernel
theorem dX7_divisor_22 : decode cX7_divisor 22 = .ok (.ireturn, 1) := by decide +kernel
theorem dX7_pouredHeap_0 : decode cX7_pouredHeap 0 = .ok (.iconst 0, 1) := by decide +kernel
theorem dX7_pouredHeap_1 : decode cX7_pouredHeap 1 = .ok (.istore_n 3, 1) := by decide +kernel
theorem dX7_pouredHeap_2 : decode cX7_pouredHeap 2 = .ok (.iconst 0, 1) := by decide +kernel
theorem dX7_pouredHeap_3 : decode cX7_pouredHeap 3 = .ok (.istore 4, 2) := by decide +kernel
theorem dX7_pouredHeap_5 : decode cX7_pouredHeap 5 = .ok (.iload 4, 2) := by decide +kernel
theorem dX7_pouredHeap_7 : decode cX7_pouredHeap 7 = .ok (.iconst 5, 1) := by decide +kernel
theorem dX7_pouredHeap_8 : decode cX7_pouredHeap 8 = .ok (.if_icmp .ge 29, 3) := by decide +kernel
theorem dX7_pouredHeap_11 : decode cX7_pouredHeap 11 = .ok (.iload_n 3, 1) := by decide +kernel
theorem dX7_pouredHeap_12 : decode cX7_pouredHeap 12 = .ok (.aload_n 0, 1) := by decide +kernel
theorem dX7_pouredHeap_13 : decode cX7_pouredHeap 13 = .ok (.iload_n 1, 1) := by decide +kernel
theorem dX7_pouredHeap_14 : decode cX7_pouredHeap 14 = .ok (.iload 4, 2) := by decide +kernel
theorem dX7_pouredHeap_16 : decode cX7_pouredHeap 16 = .ok (.invokevirtual 57, 3) := by decide +kernel
theorem dX7_pouredHeap_19 : decode cX7_pouredHeap 19 = .ok (.aload_n 0, 1) := by decide +kernel
theorem dX7_pouredHeap_20 : decode cX7_pouredHeap 20 = .ok (.iload_n 2, 1) := by decide +kernel
theorem dX7_pouredHeap_21 : decode cX7_pouredHeap 21 = .ok (.iload 4, 2) := by decide +kernel
theorem dX7_pouredHeap_23 : decode cX7_pouredHeap 23 = .ok (.invokevirtual 57, 3) := by decide +kernel
theorem dX7_pouredHeap_26 : decode cX7_pouredHeap 26 = .ok (.iadd, 1) := by decide +kernel
theorem dX7_pouredHeap_27 : decode cX7_pouredHeap 27 = .ok (.iconst 2, 1) := by decide +kernel
theorem dX7_pouredHeap_28 : decode cX7_pouredHeap 28 = .ok (.idiv, 1) := by decide +kernel
theorem dX7_pouredHeap_29 : decode cX7_pouredHeap 29 = .ok (.iadd, 1) := by decide +kernel
theorem dX7_pouredHeap_30 : decode cX7_pouredHeap 30 = .ok (.istore_n 3, 1) := by decide +kernel
theorem dX7_pouredHeap_31 : decode cX7_pouredHeap 31 = .ok (.iinc 4 1, 3) := by decide +kernel
theorem dX7_pouredHeap_34 : decode cX7_pouredHeap 34 = .ok (.goto (-29), 3) := by decide +kernel
theorem dX7_pouredHeap_37 : decode cX7_pouredHeap 37 = .ok (.iload_n 3, 1) := by decide +kernel
theorem dX7_pouredHeap_38 : decode cX7_pouredHeap 38 = .ok (.ireturn, 1) := by decide +kernel
theorem dX7_odds_0 : decode cX7_odds 0 = .ok (.iload_n 1, 1) := by decide +kernel
theorem dX7_odds_1 : decode cX7_odds 1 = .ok (.iconst 0, 1) := by decide +kernel
theorem dX7_odds_2 : decode cX7_odds 2 = .ok (.sipush 500, 3) := by decide +kernel
theorem dX7_odds_5 : decode cX7_odds 5 = .ok (.invokestatic 53, 3) := by decide +kernel
theorem dX7_odds_8 : decode cX7_odds 8 = .ok (.ifCond .eq 12, 3) := by decide +kernel
theorem dX7_odds_11 : decode cX7_odds 11 = .ok (.iload_n 2, 1) := by decide +kernel
theorem dX7_odds_12 : decode cX7_odds 12 = .ok (.iconst 0, 1) := by decide +kernel
theorem dX7_odds_13 : decode cX7_odds 13 = .ok (.iconst 1, 1) := by decide +kernel
theorem dX7_odds_14 : decode cX7_odds 14 = .ok (.invokestatic 53, 3) := by decide +kernel
theorem dX7_odds_17 : decode cX7_odds 17 = .ok (.ifCond .ne 9, 3) := by decide +kernel
theorem dX7_odds_20 : decode cX7_odds 20 = .ok (.aload_n 0, 1) := by decide +kernel
theorem dX7_odds_21 : decode cX7_odds 21 = .ok (.iconst 1, 1) := by decide +kernel
theorem dX7_odds_22 : decode cX7_odds 22 = .ok (.invokevirtual 65, 3) := by decide +kernel
theorem dX7_odds_25 : decode cX7_odds 25 = .ok (.ireturn, 1) := by decide +kernel
theorem dX7_odds_26 : decode cX7_odds 26 = .ok (.aload_n 0, 1) := by decide +kernel
theorem dX7_odds_27 : decode cX7_odds 27 = .ok (.getfield 7, 3) := by decide +kernel
theorem dX7_odds_30 : decode cX7_odds 30 = .ok (.iconst 4, 1) := by decide +kernel
theorem dX7_odds_31 : decode cX7_odds 31 = .ok (.iaload, 1) := by decide +kernel
theorem dX7_odds_32 : decode cX7_odds 32 = .ok (.iconst 2, 1) := by decide +kernel
theorem dX7_odds_33 : decode cX7_odds 33 = .ok (.if_icmp .ge 9, 3) := by decide +kernel
theorem dX7_odds_36 : decode cX7_odds 36 = .ok (.aload_n 0, 1) := by decide +kernel
theorem dX7_odds_37 : decode cX7_odds 37 = .ok (.iconst 3, 1) := by decide +kernel
theorem dX7_odds_38 : decode cX7_odds 38 = .ok (.invokevirtual 65, 3) := by decide +kernel
theorem dX7_odds_41 : decode cX7_odds 41 = .ok (.ireturn, 1) := by decide +kernel
theorem dX7_odds_42 : decode cX7_odds 42 = .ok (.iconst 0, 1) := by decide +kernel
theorem dX7_odds_43 : decode cX7_odds 43 = .ok (.istore_n 3, 1) := by decide +kernel
theorem dX7_odds_44 : decode cX7_odds 44 = .ok (.iconst 0, 1) := by decide +kernel
theorem dX7_odds_45 : decode cX7_odds 45 = .ok (.istore 4, 2) := by decide +kernel
theorem dX7_odds_47 : decode cX7_odds 47 = .ok (.iconst 0, 1) := by decide +kernel
theorem dX7_odds_48 : decode cX7_odds 48 = .ok (.istore 5, 2) := by decide +kernel
theorem dX7_odds_50 : decode cX7_odds 50 = .ok (.iload 5, 2) := by decide +kernel
theorem dX7_odds_52 : decode cX7_odds 52 = .ok (.aload_n 0, 1) := by decide +kernel
theorem dX7_odds_53 : decode cX7_odds 53 = .ok (.getfield 7, 3) := by decide +kernel
theorem dX7_odds_56 : decode cX7_odds 56 = .ok (.iconst 4, 1) := by decide +kernel
theorem dX7_odds_57 : decode cX7_odds 57 = .ok (.iaload, 1) := by decide +kernel
theorem dX7_odds_58 : decode cX7_odds 58 = .ok (.if_icmp .ge 57, 3) := by decide +kernel
theorem dX7_odds_61 : decode cX7_odds 61 = .ok (.iload 5, 2) := by decide +kernel
theorem dX7_odds_63 : decode cX7_odds 63 = .ok (.iconst 1, 1) := by decide +kernel
theorem dX7_odds_64 : decode cX7_odds 64 = .ok (.iadd, 1) := by decide +kernel
theorem dX7_odds_65 : decode cX7_odds 65 = .ok (.istore 6, 2) := by decide +kernel
theorem dX7_odds_67 : decode cX7_odds 67 = .ok (.iload 6, 2) := by decide +kernel
theorem dX7_odds_69 : decode cX7_odds 69 = .ok (.aload_n 0, 1) := by decide +kernel
theorem dX7_odds_70 : decode cX7_odds 70 = .ok (.getfield 7, 3) := by decide +kernel
theorem dX7_odds_73 : decode cX7_odds 73 = .ok (.iconst 4, 1) := by decide +kernel
theorem dX7_odds_74 : decode cX7_odds 74 = .ok (.iaload, 1) := by decide +kernel
theorem dX7_odds_75 : decode cX7_odds 75 = .ok (.if_icmp .ge 34, 3) := by decide +kernel
theorem dX7_odds_78 : decode cX7_odds 78 = .ok (.iinc 3 1, 3) := by decide +kernel
theorem dX7_odds_81 : decode cX7_odds 81 = .ok (.iload 4, 2) := by decide +kernel
theorem dX7_odds_83 : decode cX7_odds 83 = .ok (.aload_n 0, 1) := by decide +kernel
theorem dX7_odds_84 : decode cX7_odds 84 = .ok (.iload 5, 2) := by decide +kernel
theorem dX7_odds_86 : decode cX7_odds 86 = .ok (.iload 6, 2) := by decide +kernel
theorem dX7_odds_88 : decode cX7_odds 88 = .ok (.invokevirtual 225, 3) := by decide +kernel
theorem dX7_odds_91 : decode cX7_odds 91 = .ok (.iload_n 1, 1) := by decide +kernel
theorem dX7_odds_92 : decode cX7_odds 92 = .ok (.if_icmp .ge 7, 3) := by decide +kernel
theorem dX7_odds_95 : decode cX7_odds 95 = .ok (.iconst 1, 1) := by decide +kernel
theorem dX7_odds_96 : decode cX7_odds 96 = .ok (.goto 4, 3) := by decide +kernel
theorem dX7_odds_99 : decode cX7_odds 99 = .ok (.iconst 0, 1) := by decide +kernel
theorem dX7_odds_100 : decode cX7_odds 100 = .ok (.iadd, 1) := by decide +kernel
theorem dX7_odds_101 : decode cX7_odds 101 = .ok (.istore 4, 2) := by decide +kernel
theorem dX7_odds_103 : decode cX7_odds 103 = .ok (.iinc 6 1, 3) := by decide +kernel
theorem dX7_odds_106 : decode cX7_odds 106 = .ok (.goto (-39), 3) := by decide +kernel
theorem dX7_odds_109 : decode cX7_odds 109 = .ok (.iinc 5 1, 3) := by decide +kernel
theorem dX7_odds_112 : decode cX7_odds 112 = .ok (.goto (-62), 3) := by decide +kernel
theorem dX7_odds_115 : decode cX7_odds 115 = .ok (.iload 4, 2) := by decide +kernel
theorem dX7_odds_117 : decode cX7_odds 117 = .ok (.iload_n 3, 1) := by decide +kernel
theorem dX7_odds_118 : decode cX7_odds 118 = .ok (.invokestatic 228, 3) := by decide +kernel
theorem dX7_odds_121 : decode cX7_odds 121 = .ok (.istore 5, 2) := by decide +kernel
theorem dX7_odds_123 : decode cX7_odds 123 = .ok (.iload_n 2, 1) := by decide +kernel
theorem dX7_odds_124 : decode cX7_odds 124 = .ok (.ifCond .ne 11, 3) := by decide +kernel
theorem dX7_odds_127 : decode cX7_odds 127 = .ok (.iload 4, 2) := by decide +kernel
theorem dX7_odds_129 : decode cX7_odds 129 = .ok (.iload 5, 2) := by decide +kernel
theorem dX7_odds_131 : decode cX7_odds 131 = .ok (.idiv, 1) := by decide +kernel
theorem dX7_odds_132 : decode cX7_odds 132 = .ok (.goto 7, 3) := by decide +kernel
theorem dX7_odds_135 : decode cX7_odds 135 = .ok (.iload_n 3, 1) := by decide +kernel
theorem dX7_odds_136 : decode cX7_odds 136 = .ok (.iload 5, 2) := by decide +kernel
theorem dX7_odds_138 : decode cX7_odds 138 = .ok (.idiv, 1) := by decide +kernel
theorem dX7_odds_139 : decode cX7_odds 139 = .ok (.ireturn, 1) := by decide +kernel
theorem dX7_haveSo_0 : decode cX7_haveSo 0 = .ok (.iconst 1, 1) := by decide +kernel
theorem dX7_haveSo_1 : decode cX7_haveSo 1 = .ok (.istore_n 3, 1) := by decide +kernel
theorem dX7_haveSo_2 : decode cX7_haveSo 2 = .ok (.iconst 0, 1) := by decide +kernel
theorem dX7_haveSo_3 : decode cX7_haveSo 3 = .ok (.istore 4, 2) := by decide +kernel
theorem dX7_haveSo_5 : decode cX7_haveSo 5 = .ok (.iload 4, 2) := by decide +kernel
theorem dX7_haveSo_7 : decode cX7_haveSo 7 = .ok (.aload_n 0, 1) := by decide +kernel
theorem dX7_haveSo_8 : decode cX7_haveSo 8 = .ok (.getfield 43, 3) := by decide +kernel
theorem dX7_haveSo_11 : decode cX7_haveSo 11 = .ok (.iload_n 2, 1) := by decide +kernel
theorem dX7_haveSo_12 : decode cX7_haveSo 12 = .ok (.iaload, 1) := by decide +kernel
theorem dX7_haveSo_13 : decode cX7_haveSo 13 = .ok (.if_icmp .ge 86, 3) := by decide +kernel
theorem dX7_haveSo_16 : decode cX7_haveSo 16 = .ok (.iconst 0, 1) := by decide +kernel
theorem dX7_haveSo_17 : decode cX7_haveSo 17 = .ok (.istore 5, 2) := by decide +kernel
theorem dX7_haveSo_19 : decode cX7_haveSo 19 = .ok (.iconst 0, 1) := by decide +kernel
theorem dX7_haveSo_20 : decode cX7_haveSo 20 = .ok (.istore 6, 2) := by decide +kernel
theorem dX7_haveSo_22 : decode cX7_haveSo 22 = .ok (.iload 6, 2) := by decide +kernel
theorem dX7_haveSo_24 : decode cX7_haveSo 24 = .ok (.aload_n 0, 1) := by decide +kernel
theorem dX7_haveSo_25 : decode cX7_haveSo 25 = .ok (.getfield 7, 3) := by decide +kernel
theorem dX7_haveSo_28 : decode cX7_haveSo 28 = .ok (.iconst 4, 1) := by decide +kernel
theorem dX7_haveSo_29 : decode cX7_haveSo 29 = .ok (.iaload, 1) := by decide +kernel
theorem dX7_haveSo_30 : decode cX7_haveSo 30 = .ok (.if_icmp .ge 36, 3) := by decide +kernel
theorem dX7_haveSo_33 : decode cX7_haveSo 33 = .ok (.iload 5, 2) := by decide +kernel
theorem dX7_haveSo_35 : decode cX7_haveSo 35 = .ok (.iload_n 1, 1) := by decide +kernel
theorem dX7_haveSo_36 : decode cX7_haveSo 36 = .ok (.iload 6, 2) := by decide +kernel
theorem dX7_haveSo_38 : decode cX7_haveSo 38 = .ok (.ishr, 1) := by decide +kernel
theorem dX7_haveSo_39 : decode cX7_haveSo 39 = .ok (.iconst 1, 1) := by decide +kernel
theorem dX7_haveSo_40 : decode cX7_haveSo 40 = .ok (.iand, 1) := by decide +kernel
theorem dX7_haveSo_41 : decode cX7_haveSo 41 = .ok (.iconst 1, 1) := by decide +kernel
theorem dX7_haveSo_42 : decode cX7_haveSo 42 = .ok (.if_icmp .ne 14, 3) := by decide +kernel
theorem dX7_haveSo_45 : decode cX7_haveSo 45 = .ok (.aload_n 0, 1) := by decide +kernel
theorem dX7_haveSo_46 : decode cX7_haveSo 46 = .ok (.iload 6, 2) := by decide +kernel
theorem dX7_haveSo_48 : decode cX7_haveSo 48 = .ok (.iload 4, 2) := by decide +kernel
theorem dX7_haveSo_50 : decode cX7_haveSo 50 = .ok (.invokevirtual 57, 3) := by decide +kernel
theorem dX7_haveSo_53 : decode cX7_haveSo 53 = .ok (.goto 4, 3) := by decide +kernel
theorem dX7_haveSo_56 : decode cX7_haveSo 56 = .ok (.iconst 0, 1) := by decide +kernel
theorem dX7_haveSo_57 : decode cX7_haveSo 57 = .ok (.iadd, 1) := by decide +kernel
theorem dX7_haveSo_58 : decode cX7_haveSo 58 = .ok (.istore 5, 2) := by decide +kernel
theorem dX7_haveSo_60 : decode cX7_haveSo 60 = .ok (.iinc 6 1, 3) := by decide +kernel
theorem dX7_haveSo_63 : decode cX7_haveSo 63 = .ok (.goto (-41), 3) := by decide +kernel
theorem dX7_haveSo_66 : decode cX7_haveSo 66 = .ok (.iload_n 3, 1) := by decide +kernel
theorem dX7_haveSo_67 : decode cX7_haveSo 67 = .ok (.ifCond .eq 24, 3) := by decide +kernel
theorem dX7_haveSo_70 : decode cX7_haveSo 70 = .ok (.iload 5, 2) := by decide +kernel
theorem dX7_haveSo_72 : decode cX7_haveSo 72 = .ok (.aload_n 0, 1) := by decide +kernel
theorem dX7_haveSo_73 : decode cX7_haveSo 73 = .ok (.getfield 46, 3) := by decide +kernel
theorem dX7_haveSo_76 : decode cX7_haveSo 76 = .ok (.bipush 24, 2) := by decide +kernel
theorem dX7_haveSo_78 : decode cX7_haveSo 78 = .ok (.iload_n 2, 1) := by decide +kernel
theorem dX7_haveSo_79 : decode cX7_haveSo 79 = .ok (.imul, 1) := by decide +kernel
theorem dX7_haveSo_80 : decode cX7_haveSo 80 = .ok (.iload 4, 2) := by decide +kernel
theorem dX7_haveSo_82 : decode cX7_haveSo 82 = .ok (.iadd, 1) := by decide +kernel
theorem dX7_haveSo_83 : decode cX7_haveSo 83 = .ok (.iaload, 1) := by decide +kernel
theorem dX7_haveSo_84 : decode cX7_haveSo 84 = .ok (.if_icmp .ne 7, 3) := by decide +kernel
theorem dX7_haveSo_87 : decode cX7_haveSo 87 = .ok (.iconst 1, 1) := by decide +kernel
theorem dX7_haveSo_88 : decode cX7_haveSo 88 = .ok (.goto 4, 3) := by decide +kernel
theorem dX7_haveSo_91 : decode cX7_haveSo 91 = .ok (.iconst 0, 1) := by decide +kernel
theorem dX7_haveSo_92 : decode cX7_haveSo 92 = .ok (.istore_n 3, 1) := by decide +kernel
theorem dX7_haveSo_93 : decode cX7_haveSo 93 = .ok (.iinc 4 1, 3) := by decide +kernel
theorem dX7_haveSo_96 : decode cX7_haveSo 96 = .ok (.goto (-91), 3) := by decide +kernel
theorem dX7_haveSo_99 : decode cX7_haveSo 99 = .ok (.iload_n 3, 1) := by decide +kernel
theorem dX7_haveSo_100 : decode cX7_haveSo 100 = .ok (.ireturn, 1) := by decide +kernel
theorem dX7_fits_0 : decode cX7_fits 0 = .ok (.iload_n 2, 1) := by decide +kernel
theorem dX7_fits_1 : decode cX7_fits 1 = .ok (.iconst 0, 1) := by decide +kernel
theorem dX7_fits_2 : decode cX7_fits 2 = .ok (.iconst 1, 1) := by decide +kernel
theorem dX7_fits_3 : decode cX7_fits 3 = .ok (.invokestatic 53, 3) := by decide +kernel
theorem dX7_fits_6 : decode cX7_fits 6 = .ok (.ifCond .eq 11, 3) := by decide +kernel
theorem dX7_fits_9 : decode cX7_fits 9 = .ok (.aload_n 0, 1) := by decide +kernel
theorem dX7_fits_10 : decode cX7_fits 10 = .ok (.iload_n 1, 1) := by decide +kernel
theorem dX7_fits_11 : decode cX7_fits 11 = .ok (.invokevirtual 231, 3) := by decide +kernel
theorem dX7_fits_14 : decode cX7_fits 14 = .ok (.goto 4, 3) := by decide +kernel
theorem dX7_fits_17 : decode cX7_fits 17 = .ok (.iconst 1, 1) := by decide +kernel
theorem dX7_fits_18 : decode cX7_fits 18 = .ok (.istore_n 3, 1) := by decide +kernel
theorem dX7_fits_19 : decode cX7_fits 19 = .ok (.iload_n 3, 1) := by decide +kernel
theorem dX7_fits_20 : decode cX7_fits 20 = .ok (.ifCond .eq 9, 3) := by decide +kernel
theorem dX7_fits_23 : decode cX7_fits 23 = .ok (.aload_n 0, 1) := by decide +kernel
theorem dX7_fits_24 : decode cX7_fits 24 = .ok (.iload_n 3, 1) := by decide +kernel
theorem dX7_fits_25 : decode cX7_fits 25 = .ok (.invokevirtual 65, 3) := by decide +kernel
theorem dX7_fits_28 : decode cX7_fits 28 = .ok (.ireturn, 1) := by decide +kernel
theorem dX7_fits_29 : decode cX7_fits 29 = .ok (.aload_n 0, 1) := by decide +kernel
theorem dX7_fits_30 : decode cX7_fits 30 = .ok (.getfield 43, 3) := by decide +kernel
theorem dX7_fits_33 : decode cX7_fits 33 = .ok (.iload_n 1, 1) := by decide +kernel
theorem dX7_fits_34 : decode cX7_fits 34 = .ok (.iaload, 1) := by decide +kernel
theorem dX7_fits_35 : decode cX7_fits 35 = .ok (.iconst 5, 1) := by decide +kernel
theorem dX7_fits_36 : decode cX7_fits 36 = .ok (.if_icmp .le 9, 3) := by decide +kernel
theorem dX7_fits_39 : decode cX7_fits 39 = .ok (.aload_n 0, 1) := by decide +kernel
theorem dX7_fits_40 : decode cX7_fits 40 = .ok (.iconst 2, 1) := by decide +kernel
theorem dX7_fits_41 : decode cX7_fits 41 = .ok (.invokevirtual 65, 3) := by decide +kernel
theorem dX7_fits_44 : decode cX7_fits 44 = .ok (.ireturn, 1) := by decide +kernel
theorem dX7_fits_45 : decode cX7_fits 45 = .ok (.iconst 0, 1) := by decide +kernel
theorem dX7_fits_46 : decode cX7_fits 46 = .ok (.istore 4, 2) := by decide +kernel
theorem dX7_fits_48 : decode cX7_fits 48 = .ok (.iconst (-1), 1) := by decide +kernel
theorem dX7_fits_49 : decode cX7_fits 49 = .ok (.istore 5, 2) := by decide +kernel
theorem dX7_fits_51 : decode cX7_fits 51 = .ok (.iconst 1, 1) := by decide +kernel
theorem dX7_fits_52 : decode cX7_fits 52 = .ok (.aload_n 0, 1) := by decide +kernel
theorem dX7_fits_53 : decode cX7_fits 53 = .ok (.getfield 7, 3) := by decide +kernel
theorem dX7_fits_56 : decode cX7_fits 56 = .ok (.iconst 4, 1) := by decide +kernel
theorem dX7_fits_57 : decode cX7_fits 57 = .ok (.iaload, 1) := by decide +kernel
theorem dX7_fits_58 : decode cX7_fits 58 = .ok (.ishl, 1) := by decide +kernel
theorem dX7_fits_59 : decode cX7_fits 59 = .ok (.iconst 1, 1) := by decide +kernel
theorem dX7_fits_60 : decode cX7_fits 60 = .ok (.isub, 1) := by decide +kernel
theorem dX7_fits_61 : decode cX7_fits 61 = .ok (.istore 6, 2) := by decide +kernel
theorem dX7_fits_63 : decode cX7_fits 63 = .ok (.iload 6, 2) := by decide +kernel
theorem dX7_fits_65 : decode cX7_fits 65 = .ok (.ifCond .le 47, 3) := by decide +kernel
theorem dX7_fits_68 : decode cX7_fits 68 = .ok (.aload_n 0, 1) := by decide +kernel
theorem dX7_fits_69 : decode cX7_fits 69 = .ok (.iload 6, 2) := by decide +kernel
theorem dX7_fits_71 : decode cX7_fits 71 = .ok (.iload_n 1, 1) := by decide +kernel
theorem dX7_fits_72 : decode cX7_fits 72 = .ok (.invokevirtual 234, 3) := by decide +kernel
theorem dX7_fits_75 : decode cX7_fits 75 = .ok (.istore 7, 2) := by decide +kernel
theorem dX7_fits_77 : decode cX7_fits 77 = .ok (.iload 4, 2) := by decide +kernel
theorem dX7_fits_79 : decode cX7_fits 79 = .ok (.iload 7, 2) := by decide +kernel
theorem dX7_fits_81 : decode cX7_fits 81 = .ok (.ifCond .eq 7, 3) := by decide +kernel
theorem dX7_fits_84 : decode cX7_fits 84 = .ok (.iconst 1, 1) := by decide +kernel
theorem dX7_fits_85 : decode cX7_fits 85 = .ok (.goto 4, 3) := by decide +kernel
theorem dX7_fits_88 : decode cX7_fits 88 = .ok (.iconst 0, 1) := by decide +kernel
theorem dX7_fits_89 : decode cX7_fits 89 = .ok (.iadd, 1) := by decide +kernel
theorem dX7_fits_90 : decode cX7_fits 90 = .ok (.istore 4, 2) := by decide +kernel
theorem dX7_fits_92 : decode cX7_fits 92 = .ok (.iload 7, 2) := by decide +kernel
theorem dX7_fits_94 : decode cX7_fits 94 = .ok (.ifCond .eq 8, 3) := by decide +kernel
theorem dX7_fits_97 : decode cX7_fits 97 = .ok (.iload 6, 2) := by decide +kernel
theorem dX7_fits_99 : decode cX7_fits 99 = .ok (.goto 5, 3) := by decide +kernel
theorem dX7_fits_102 : decode cX7_fits 102 = .ok (.iload 5, 2) := by decide +kernel
theorem dX7_fits_104 : decode cX7_fits 104 = .ok (.istore 5, 2) := by decide +kernel
theorem dX7_fits_106 : decode cX7_fits 106 = .ok (.iinc 6 (-1), 3) := by decide +kernel
theorem dX7_fits_109 : decode cX7_fits 109 = .ok (.goto (-46), 3) := by decide +kernel
theorem dX7_fits_112 : decode cX7_fits 112 = .ok (.iload_n 2, 1) := by decide +kernel
theorem dX7_fits_113 : decode cX7_fits 113 = .ok (.ifCond .ne 8, 3) := by decide +kernel
theorem dX7_fits_116 : decode cX7_fits 116 = .ok (.iload 4, 2) := by decide +kernel
theorem dX7_fits_118 : decode cX7_fits 118 = .ok (.goto 19, 3) := by decide +kernel
theorem dX7_fits_121 : decode cX7_fits 121 = .ok (.iload 5, 2) := by decide +kernel
theorem dX7_fits_123 : decode cX7_fits 123 = .ok (.iconst (-1), 1) := by decide +kernel
theorem dX7_fits_124 : decode cX7_fits 124 = .ok (.if_icmp .ne 11, 3) := by decide +kernel
theorem dX7_fits_127 : decode cX7_fits 127 = .ok (.aload_n 0, 1) := by decide +kernel
theorem dX7_fits_128 : decode cX7_fits 128 = .ok (.iconst 2, 1) := by decide +kernel
theorem dX7_fits_129 : decode cX7_fits 129 = .ok (.invokevirtual 65, 3) := by decide +kernel
theorem dX7_fits_132 : decode cX7_fits 132 = .ok (.goto 5, 3) := by decide +kernel
theorem dX7_fits_135 : decode cX7_fits 135 = .ok (.iload 5, 2) := by decide +kernel
theorem dX7_fits_137 : decode cX7_fits 137 = .ok (.ireturn, 1) := by decide +kernel
theorem dX7_starts_0 : decode cX7_starts 0 = .ok (.aload_n 0, 1) := by decide +kernel
theorem dX7_starts_1 : decode cX7_starts 1 = .ok (.getfield 237, 3) := by decide +kernel
theorem dX7_starts_4 : decode cX7_starts 4 = .ok (.bipush 30, 2) := by decide +kernel
theorem dX7_starts_6 : decode cX7_starts 6 = .ok (.if_icmp .ge 23, 3) := by decide +kernel
theorem dX7_starts_9 : decode cX7_starts 9 = .ok (.aload_n 0, 1) := by decide +kernel
theorem dX7_starts_10 : decode cX7_starts 10 = .ok (.getfield 37, 3) := by decide +kernel
theorem dX7_starts_13 : decode cX7_starts 13 = .ok (.aload_n 0, 1) := by decide +kernel
theorem dX7_starts_14 : decode cX7_starts 14 = .ok (.getfield 237, 3) := by decide +kernel
theorem dX7_starts_17 : decode cX7_starts 17 = .ok (.iload_n 1, 1) := by decide +kernel
theorem dX7_starts_18 : decode cX7_starts 18 = .ok (.iastore, 1) := by decide +kernel
theorem dX7_starts_19 : decode cX7_starts 19 = .ok (.aload_n 0, 1) := by decide +kernel
theorem dX7_starts_20 : decode cX7_starts 20 = .ok (.dup, 1) := by decide +kernel
theorem dX7_starts_21 : decode cX7_starts 21 = .ok (.getfield 237, 3) := by decide +kernel
theorem dX7_starts_24 : decode cX7_starts 24 = .ok (.iconst 1, 1) := by decide +kernel
theorem dX7_starts_25 : decode cX7_starts 25 = .ok (.iadd, 1) := by decide +kernel
theorem dX7_starts_26 : decode cX7_starts 26 = .ok (.putfield 237, 3) := by decide +kernel
theorem dX7_starts_29 : decode cX7_starts 29 = .ok (.return_, 1) := by decide +kernel
theorem dX7_above_0 : decode cX7_above 0 = .ok (.iload_n 0, 1) := by decide +kernel
theorem dX7_above_1 : decode cX7_above 1 = .ok (.iconst 4, 1) := by decide +kernel
theorem dX7_above_2 : decode cX7_above 2 = .ok (.if_icmp .ne 7, 3) := by decide +kernel
theorem dX7_above_5 : decode cX7_above 5 = .ok (.iconst 1, 1) := by decide +kernel
theorem dX7_above_6 : decode cX7_above 6 = .ok (.goto 13, 3) := by decide +kernel
theorem dX7_above_9 : decode cX7_above 9 = .ok (.iload_n 0, 1) := by decide +kernel
theorem dX7_above_10 : decode cX7_above 10 = .ok (.iconst 5, 1) := by decide +kernel
theorem dX7_above_11 : decode cX7_above 11 = .ok (.if_icmp .ne 7, 3) := by decide +kernel
theorem dX7_above_14 : decode cX7_above 14 = .ok (.iconst 2, 1) := by decide +kernel
theorem dX7_above_15 : decode cX7_above 15 = .ok (.goto 4, 3) := by decide +kernel
theorem dX7_above_18 : decode cX7_above 18 = .ok (.iconst 0, 1) := by decide +kernel
theorem dX7_above_19 : decode cX7_above 19 = .ok (.ireturn, 1) := by decide +kernel
theorem dX7_kindNow_0 : decode cX7_kindNow 0 = .ok (.aload_n 0, 1) := by decide +kernel
theorem dX7_kindNow_1 : decode cX7_kindNow 1 = .ok (.aload_n 0, 1) := by decide +kernel
theorem dX7_kindNow_2 : decode cX7_kindNow 2 = .ok (.getfield 240, 3) := by decide +kernel
theorem dX7_kindNow_5 : decode cX7_kindNow 5 = .ok (.iconst 0, 1) := by decide +kernel
theorem dX7_kindNow_6 : decode cX7_kindNow 6 = .ok (.invokevirtual 124, 3) := by decide +kernel
theorem dX7_kindNow_9 : decode cX7_kindNow 9 = .ok (.ireturn, 1) := by decide +kernel
theorem dX7_mNow_0 : decode cX7_mNow 0 = .ok (.aload_n 0, 1) := by decide +kernel
theorem dX7_mNow_1 : decode cX7_mNow 1 = .ok (.aload_n 0, 1) := by decide +kernel
theorem dX7_mNow_2 : decode cX7_mNow 2 = .ok (.getfield 240, 3) := by decide +kernel
theorem dX7_mNow_5 : decode cX7_mNow 5 = .ok (.iconst 1, 1) := by decide +kernel
theorem dX7_mNow_6 : decode cX7_mNow 6 = .ok (.invokevirtual 124, 3) := by decide +kernel
theorem dX7_mNow_9 : decode cX7_mNow 9 = .ok (.ireturn, 1) := by decide +kernel
theorem dX7_washesAs_0 : decode cX7_washesAs 0 = .ok (.iload_n 1, 1) := by decide +kernel
theorem dX7_washesAs_1 : decode cX7_washesAs 1 = .ok (.tableswitch 101 0 6 #[43, 56, 101, 101, 74, 101, 92], 43) := by decide +kernel
theorem dX7_washesAs_44 : decode cX7_washesAs 44 = .ok (.aload_n 0, 1) := by decide +kernel
theorem dX7_washesAs_45 : decode cX7_washesAs 45 = .ok (.bipush 10, 2) := by decide +kernel
theorem dX7_washesAs_47 : decode cX7_washesAs 47 = .ok (.invokevirtual 243, 3) := by decide +kernel
theorem dX7_washesAs_50 : decode cX7_washesAs 50 = .ok (.iload_n 2, 1) := by decide +kernel
theorem dX7_washesAs_51 : decode cX7_washesAs 51 = .ok (.aload_n 0, 1) := by decide +kernel
theorem dX7_washesAs_52 : decode cX7_washesAs 52 = .ok (.getfield 240, 3) := by decide +kernel
theorem dX7_washesAs_55 : decode cX7_washesAs 55 = .ok (.iadd, 1) := by decide +kernel
theorem dX7_washesAs_56 : decode cX7_washesAs 56 = .ok (.ireturn, 1) := by decide +kernel
theorem dX7_washesAs_57 : decode cX7_washesAs 57 = .ok (.aload_n 0, 1) := by decide +kernel
theorem dX7_washesAs_58 : decode cX7_washesAs 58 = .ok (.bipush 20, 2) := by decide +kernel
theorem dX7_washesAs_60 : decode cX7_washesAs 60 = .ok (.invokevirtual 243, 3) := by decide +kernel
theorem dX7_washesAs_63 : decode cX7_washesAs 63 = .ok (.aload_n 0, 1) := by decide +kernel
theorem dX7_washesAs_64 : decode cX7_washesAs 64 = .ok (.iconst 1, 1) := by decide +kernel
theorem dX7_washesAs_65 : decode cX7_washesAs 65 = .ok (.invokestatic 175, 3) := by decide +kernel
theorem dX7_washesAs_68 : decode cX7_washesAs 68 = .ok (.iload_n 2, 1) := by decide +kernel
theorem dX7_washesAs_69 : decode cX7_washesAs 69 = .ok (.invokevirtual 247, 3) := by decide +kernel
theorem dX7_washesAs_72 : decode cX7_washesAs 72 = .ok (.iconst 4, 1) := by decide +kernel
theorem dX7_washesAs_73 : decode cX7_washesAs 73 = .ok (.isub, 1) := by decide +kernel
theorem dX7_washesAs_74 : decode cX7_washesAs 74 = .ok (.ireturn, 1) := by decide +kernel
theorem dX7_washesAs_75 : decode cX7_washesAs 75 = .ok (.aload_n 0, 1) := by decide +kernel
theorem dX7_washesAs_76 : decode cX7_washesAs 76 = .ok (.bipush 50, 2) := by decide +kernel
theorem dX7_washesAs_78 : decode cX7_washesAs 78 = .ok (.invokevirtual 243, 3) := by decide +kernel
theorem dX7_washesAs_81 : decode cX7_washesAs 81 = .ok (.aload_n 0, 1) := by decide +kernel
theorem dX7_washesAs_82 : decode cX7_washesAs 82 = .ok (.iconst 4, 1) := by decide +kernel
theorem dX7_washesAs_83 : decode cX7_washesAs 83 = .ok (.invokestatic 175, 3) := by decide +kernel
theorem dX7_washesAs_86 : decode cX7_washesAs 86 = .ok (.iload_n 2, 1) := by decide +kernel
theorem dX7_washesAs_87 : decode cX7_washesAs 87 = .ok (.invokevirtual 247, 3) := by decide +kernel
theorem dX7_washesAs_90 : decode cX7_washesAs 90 = .ok (.iconst 3, 1) := by decide +kernel
theorem dX7_washesAs_91 : decode cX7_washesAs 91 = .ok (.imul, 1) := by decide +kernel
theorem dX7_washesAs_92 : decode cX7_washesAs 92 = .ok (.ireturn, 1) := by decide +kernel
theorem dX7_washesAs_93 : decode cX7_washesAs 93 = .ok (.aload_n 0, 1) := by decide +kernel
theorem dX7_washesAs_94 : decode cX7_washesAs 94 = .ok (.bipush 70, 2) := by decide +kernel
theorem dX7_washesAs_96 : decode cX7_washesAs 96 = .ok (.invokevirtual 243, 3) := by decide +kernel
theorem dX7_washesAs_99 : decode cX7_washesAs 99 = .ok (.bipush 9, 2) := by decide +kernel
theorem dX7_washesAs_101 : decode cX7_washesAs 101 = .ok (.ireturn, 1) := by decide +kernel
theorem dX7_washesAs_102 : decode cX7_washesAs 102 = .ok (.aload_n 0, 1) := by decide +kernel
theorem dX7_washesAs_103 : decode cX7_washesAs 103 = .ok (.iload_n 1, 1) := by decide +kernel
theorem dX7_washesAs_104 : decode cX7_washesAs 104 = .ok (.invokestatic 175, 3) := by decide +kernel
theorem dX7_washesAs_107 : decode cX7_washesAs 107 = .ok (.iload_n 2, 1) := by decide +kernel
theorem dX7_washesAs_108 : decode cX7_washesAs 108 = .ok (.invokevirtual 247, 3) := by decide +kernel
theorem dX7_washesAs_111 : decode cX7_washesAs 111 = .ok (.ireturn, 1) := by decide +kernel
theorem dX7_wringsAs_0 : decode cX7_wringsAs 0 = .ok (.iload_n 1, 1) := by decide +kernel
theorem dX7_wringsAs_1 : decode cX7_wringsAs 1 = .ok (.tableswitch 119 0 6 #[43, 119, 61, 119, 119, 79, 97], 43) := by decide +kernel
theorem dX7_wringsAs_44 : decode cX7_wringsAs 44 = .ok (.aload_n 0, 1) := by decide +kernel
theorem dX7_wringsAs_45 : decode cX7_wringsAs 45 = .ok (.bipush 11, 2) := by decide +kernel
theorem dX7_wringsAs_47 : decode cX7_wringsAs 47 = .ok (.invokevirtual 243, 3) := by decide +kernel
theorem dX7_wringsAs_50 : decode cX7_wringsAs 50 = .ok (.aload_n 0, 1) := by decide +kernel
theorem dX7_wringsAs_51 : decode cX7_wringsAs 51 = .ok (.aload_n 0, 1) := by decide +kernel
theorem dX7_wringsAs_52 : decode cX7_wringsAs 52 = .ok (.invokevirtual 250, 3) := by decide +kernel
theorem dX7_wringsAs_55 : decode cX7_wringsAs 55 = .ok (.iload_n 2, 1) := by decide +kernel
theorem dX7_wringsAs_56 : decode cX7_wringsAs 56 = .ok (.invokevirtual 247, 3) := by decide +kernel
theorem dX7_wringsAs_59 : decode cX7_wringsAs 59 = .ok (.iconst 2, 1) := by decide +kernel
theorem dX7_wringsAs_60 : decode cX7_wringsAs 60 = .ok (.imul, 1) := by decide +kernel
theorem dX7_wringsAs_61 : decode cX7_wringsAs 61 = .ok (.ireturn, 1) := by decide +kernel
theorem dX7_wringsAs_62 : decode cX7_wringsAs 62 = .ok (.aload_n 0, 1) := by decide +kernel
theorem dX7_wringsAs_63 : decode cX7_wringsAs 63 = .ok (.bipush 30, 2) := by decide +kernel
theorem dX7_wringsAs_65 : decode cX7_wringsAs 65 = .ok (.invokevirtual 243, 3) := by decide +kernel
theorem dX7_wringsAs_68 : decode cX7_wringsAs 68 = .ok (.iconst 0, 1) := by decide +kernel
theorem dX7_wringsAs_69 : decode cX7_wringsAs 69 = .ok (.aload_n 0, 1) := by decide +kernel
theorem dX7_wringsAs_70 : decode cX7_wringsAs 70 = .ok (.iconst 2, 1) := by decide +kernel
theorem dX7_wringsAs_71 : decode cX7_wringsAs 71 = .ok (.invokestatic 175, 3) := by decide +kernel
theorem dX7_wringsAs_74 : decode cX7_wringsAs 74 = .ok (.iload_n 2, 1) := by decide +kernel
theorem dX7_wringsAs_75 : decode cX7_wringsAs 75 = .ok (.invokevirtual 253, 3) := by decide +kernel
theorem dX7_wringsAs_78 : decode cX7_wringsAs 78 = .ok (.isub, 1) := by decide +kernel
theorem dX7_wringsAs_79 : decode cX7_wringsAs 79 = .ok (.ireturn, 1) := by decide +kernel
theorem dX7_wringsAs_80 : decode cX7_wringsAs 80 = .ok (.aload_n 0, 1) := by decide +kernel
theorem dX7_wringsAs_81 : decode cX7_wringsAs 81 = .ok (.bipush 60, 2) := by decide +kernel
theorem dX7_wringsAs_83 : decode cX7_wringsAs 83 = .ok (.invokevirtual 243, 3) := by decide +kernel
theorem dX7_wringsAs_86 : decode cX7_wringsAs 86 = .ok (.aload_n 0, 1) := by decide +kernel
theorem dX7_wringsAs_87 : decode cX7_wringsAs 87 = .ok (.iconst 5, 1) := by decide +kernel
theorem dX7_wringsAs_88 : decode cX7_wringsAs 88 = .ok (.invokestatic 175, 3) := by decide +kernel
theorem dX7_wringsAs_91 : decode cX7_wringsAs 91 = .ok (.iload_n 2, 1) := by decide +kernel
theorem dX7_wringsAs_92 : decode cX7_wringsAs 92 = .ok (.iconst 1, 1) := by decide +kernel
theorem dX7_wringsAs_93 : decode cX7_wringsAs 93 = .ok (.iadd, 1) := by decide +kernel
theorem dX7_wringsAs_94 : decode cX7_wringsAs 94 = .ok (.invokevirtual 253, 3) := by decide +kernel
theorem dX7_wringsAs_97 : decode cX7_wringsAs 97 = .ok (.ireturn, 1) := by decide +kernel
theorem dX7_wringsAs_98 : decode cX7_wringsAs 98 = .ok (.aload_n 0, 1) := by decide +kernel
theorem dX7_wringsAs_99 : decode cX7_wringsAs 99 = .ok (.bipush 71, 2) := by decide +kernel
theorem dX7_wringsAs_101 : decode cX7_wringsAs 101 = .ok (.invokevirtual 243, 3) := by decide +kernel
theorem dX7_wringsAs_104 : decode cX7_wringsAs 104 = .ok (.aload_n 0, 1) := by decide +kernel
theorem dX7_wringsAs_105 : decode cX7_wringsAs 105 = .ok (.bipush 6, 2) := by decide +kernel
theorem dX7_wringsAs_107 : decode cX7_wringsAs 107 = .ok (.invokestatic 175, 3) := by decide +kernel
theorem dX7_wringsAs_110 : decode cX7_wringsAs 110 = .ok (.iload_n 2, 1) := by decide +kernel
theorem dX7_wringsAs_111 : decode cX7_wringsAs 111 = .ok (.invokevirtual 253, 3) := by decide +kernel
theorem dX7_wringsAs_114 : decode cX7_wringsAs 114 = .ok (.aload_n 0, 1) := by decide +kernel
theorem dX7_wringsAs_115 : decode cX7_wringsAs 115 = .ok (.invokevirtual 256, 3) := by decide +kernel
theorem dX7_wringsAs_118 : decode cX7_wringsAs 118 = .ok (.iadd, 1) := by decide +kernel
theorem dX7_wringsAs_119 : decode cX7_wringsAs 119 = .ok (.ireturn, 1) := by decide +kernel
theorem dX7_wringsAs_120 : decode cX7_wringsAs 120 = .ok (.aload_n 0, 1) := by decide +kernel
theorem dX7_wringsAs_121 : decode cX7_wringsAs 121 = .ok (.iload_n 1, 1) := by decide +kernel
theorem dX7_wringsAs_122 : decode cX7_wringsAs 122 = .ok (.invokestatic 175, 3) := by decide +kernel
theorem dX7_wringsAs_125 : decode cX7_wringsAs 125 = .ok (.iload_n 2, 1) := by decide +kernel
theorem dX7_wringsAs_126 : decode cX7_wringsAs 126 = .ok (.invokevirtual 253, 3) := by decide +kernel
theorem dX7_wringsAs_129 : decode cX7_wringsAs 129 = .ok (.ireturn, 1) := by decide +kernel
theorem dX7_airsAs_0 : decode cX7_airsAs 0 = .ok (.iload_n 1, 1) := by decide +kernel
theorem dX7_airsAs_1 : decode cX7_airsAs 1 = .ok (.tableswitch 95 0 4 #[35, 95, 95, 56, 74], 35) := by decide +kernel
theorem dX7_airsAs_36 : decode cX7_airsAs 36 = .ok (.aload_n 0, 1) := by decide +kernel
theorem dX7_airsAs_37 : decode cX7_airsAs 37 = .ok (.bipush 12, 2) := by decide +kernel
theorem dX7_airsAs_39 : decode cX7_airsAs 39 = .ok (.invokevirtual 243, 3) := by decide +kernel
theorem dX7_airsAs_42 : decode cX7_airsAs 42 = .ok (.aload_n 0, 1) := by decide +kernel
theorem dX7_airsAs_43 : decode cX7_airsAs 43 = .ok (.aload_n 0, 1) := by decide +kernel
theorem dX7_airsAs_44 : decode cX7_airsAs 44 = .ok (.invokevirtual 250, 3) := by decide +kernel
theorem dX7_airsAs_47 : decode cX7_airsAs 47 = .ok (.iload_n 2, 1) := by decide +kernel
theorem dX7_airsAs_48 : decode cX7_airsAs 48 = .ok (.invokevirtual 253, 3) := by decide +kernel
theorem dX7_airsAs_51 : decode cX7_airsAs 51 = .ok (.aload_n 0, 1) := by decide +kernel
theorem dX7_airsAs_52 : decode cX7_airsAs 52 = .ok (.invokevirtual 256, 3) := by decide +kernel
theorem dX7_airsAs_55 : decode cX7_airsAs 55 = .ok (.isub, 1) := by decide +kernel
theorem dX7_airsAs_56 : decode cX7_airsAs 56 = .ok (.ireturn, 1) := by decide +kernel
theorem dX7_airsAs_57 : decode cX7_airsAs 57 = .ok (.aload_n 0, 1) := by decide +kernel
theorem dX7_airsAs_58 : decode cX7_airsAs 58 = .ok (.bipush 40, 2) := by decide +kernel
theorem dX7_airsAs_60 : decode cX7_airsAs 60 = .ok (.invokevirtual 243, 3) := by decide +kernel
theorem dX7_airsAs_63 : decode cX7_airsAs 63 = .ok (.aload_n 0, 1) := by decide +kernel
theorem dX7_airsAs_64 : decode cX7_airsAs 64 = .ok (.iconst 3, 1) := by decide +kernel
theorem dX7_airsAs_65 : decode cX7_airsAs 65 = .ok (.invokestatic 175, 3) := by decide +kernel
theorem dX7_airsAs_68 : decode cX7_airsAs 68 = .ok (.iload_n 2, 1) := by decide +kernel
theorem dX7_airsAs_69 : decode cX7_airsAs 69 = .ok (.iconst 2, 1) := by decide +kernel
theorem dX7_airsAs_70 : decode cX7_airsAs 70 = .ok (.idiv, 1) := by decide +kernel
theorem dX7_airsAs_71 : decode cX7_airsAs 71 = .ok (.invokevirtual 259, 3) := by decide +kernel
theorem dX7_airsAs_74 : decode cX7_airsAs 74 = .ok (.ireturn, 1) := by decide +kernel
theorem dX7_airsAs_75 : decode cX7_airsAs 75 = .ok (.aload_n 0, 1) := by decide +kernel
theorem dX7_airsAs_76 : decode cX7_airsAs 76 = .ok (.bipush 51, 2) := by decide +kernel
theorem dX7_airsAs_78 : decode cX7_airsAs 78 = .ok (.invokevirtual 243, 3) := by decide +kernel
theorem dX7_airsAs_81 : decode cX7_airsAs 81 = .ok (.aload_n 0, 1) := by decide +kernel
theorem dX7_airsAs_82 : decode cX7_airsAs 82 = .ok (.iconst 4, 1) := by decide +kernel
theorem dX7_airsAs_83 : decode cX7_airsAs 83 = .ok (.invokestatic 175, 3) := by decide +kernel
theorem dX7_airsAs_86 : decode cX7_airsAs 86 = .ok (.iload_n 2, 1) := by decide +kernel
theorem dX7_airsAs_87 : decode cX7_airsAs 87 = .ok (.invokevirtual 259, 3) := by decide +kernel
theorem dX7_airsAs_90 : decode cX7_airsAs 90 = .ok (.aload_n 0, 1) := by decide +kernel
theorem dX7_airsAs_91 : decode cX7_airsAs 91 = .ok (.getfield 240, 3) := by decide +kernel
theorem dX7_airsAs_94 : decode cX7_airsAs 94 = .ok (.ixor, 1) := by decide +kernel
theorem dX7_airsAs_95 : decode cX7_airsAs 95 = .ok (.ireturn, 1) := by decide +kernel
theorem dX7_airsAs_96 : decode cX7_airsAs 96 = .ok (.aload_n 0, 1) := by decide +kernel
theorem dX7_airsAs_97 : decode cX7_airsAs 97 = .ok (.iload_n 1, 1) := by decide +kernel
theorem dX7_airsAs_98 : decode cX7_airsAs 98 = .ok (.invokestatic 175, 3) := by decide +kernel
theorem dX7_airsAs_101 : decode cX7_airsAs 101 = .ok (.iload_n 2, 1) := by decide +kernel
theorem dX7_airsAs_102 : decode cX7_airsAs 102 = .ok (.invokevirtual 259, 3) := by decide +kernel
theorem dX7_airsAs_105 : decode cX7_airsAs 105 = .ok (.ireturn, 1) := by decide +kernel
theorem dX7_partsAs_0 : decode cX7_partsAs 0 = .ok (.iload_n 1, 1) := by decide +kernel
theorem dX7_partsAs_1 : decode cX7_partsAs 1 = .ok (.lookupswitch 119 #[(0, 27), (1, 78)], 27) := by decide +kernel
theorem dX7_partsAs_28 : decode cX7_partsAs 28 = .ok (.aload_n 0, 1) := by decide +kernel
theorem dX7_partsAs_29 : decode cX7_partsAs 29 = .ok (.bipush 13, 2) := by decide +kernel
theorem dX7_partsAs_31 : decode cX7_partsAs 31 = .ok (.invokevirtual 243, 3) := by decide +kernel
theorem dX7_partsAs_34 : decode cX7_partsAs 34 = .ok (.aload_n 0, 1) := by decide +kernel
theorem dX7_partsAs_35 : decode cX7_partsAs 35 = .ok (.invokevirtual 256, 3) := by decide +kernel
theorem dX7_partsAs_38 : decode cX7_partsAs 38 = .ok (.aload_n 0, 1) := by decide +kernel
theorem dX7_partsAs_39 : decode cX7_partsAs 39 = .ok (.getfield 240, 3) := by decide +kernel
theorem dX7_partsAs_42 : decode cX7_partsAs 42 = .ok (.isub, 1) := by decide +kernel
theorem dX7_partsAs_43 : decode cX7_partsAs 43 = .ok (.istore_n 3, 1) := by decide +kernel
theorem dX7_partsAs_44 : decode cX7_partsAs 44 = .ok (.aload_n 0, 1) := by decide +kernel
theorem dX7_partsAs_45 : decode cX7_partsAs 45 = .ok (.iload_n 3, 1) := by decide +kernel
theorem dX7_partsAs_46 : decode cX7_partsAs 46 = .ok (.ifCond .ne 7, 3) := by decide +kernel
theorem dX7_partsAs_49 : decode cX7_partsAs 49 = .ok (.iconst 1, 1) := by decide +kernel
theorem dX7_partsAs_50 : decode cX7_partsAs 50 = .ok (.goto 4, 3) := by decide +kernel
theorem dX7_partsAs_53 : decode cX7_partsAs 53 = .ok (.iconst 0, 1) := by decide +kernel
theorem dX7_partsAs_54 : decode cX7_partsAs 54 = .ok (.putfield 262, 3) := by decide +kernel
theorem dX7_partsAs_57 : decode cX7_partsAs 57 = .ok (.iload_n 3, 1) := by decide +kernel
theorem dX7_partsAs_58 : decode cX7_partsAs 58 = .ok (.ifCond .ne 7, 3) := by decide +kernel
theorem dX7_partsAs_61 : decode cX7_partsAs 61 = .ok (.iconst 0, 1) := by decide +kernel
theorem dX7_partsAs_62 : decode cX7_partsAs 62 = .ok (.goto 16, 3) := by decide +kernel
theorem dX7_partsAs_65 : decode cX7_partsAs 65 = .ok (.iload_n 3, 1) := by decide +kernel
theorem dX7_partsAs_66 : decode cX7_partsAs 66 = .ok (.iconst (-1), 1) := by decide +kernel
theorem dX7_partsAs_67 : decode cX7_partsAs 67 = .ok (.if_icmp .ne 8, 3) := by decide +kernel
theorem dX7_partsAs_70 : decode cX7_partsAs 70 = .ok (.iload_n 2, 1) := by decide +kernel
theorem dX7_partsAs_71 : decode cX7_partsAs 71 = .ok (.ineg, 1) := by decide +kernel
theorem dX7_partsAs_72 : decode cX7_partsAs 72 = .ok (.goto 6, 3) := by decide +kernel
theorem dX7_partsAs_75 : decode cX7_partsAs 75 = .ok (.iload_n 2, 1) := by decide +kernel
theorem dX7_partsAs_76 : decode cX7_partsAs 76 = .ok (.iload_n 3, 1) := by decide +kernel
theorem dX7_partsAs_77 : decode cX7_partsAs 77 = .ok (.idiv, 1) := by decide +kernel
theorem dX7_partsAs_78 : decode cX7_partsAs 78 = .ok (.ireturn, 1) := by decide +kernel
theorem dX7_partsAs_79 : decode cX7_partsAs 79 = .ok (.aload_n 0, 1) := by decide +kernel
theorem dX7_partsAs_80 : decode cX7_partsAs 80 = .ok (.bipush 21, 2) := by decide +kernel
theorem dX7_partsAs_82 : decode cX7_partsAs 82 = .ok (.invokevirtual 243, 3) := by decide +kernel
theorem dX7_partsAs_85 : decode cX7_partsAs 85 = .ok (.aload_n 0, 1) := by decide +kernel
theorem dX7_partsAs_86 : decode cX7_partsAs 86 = .ok (.iconst 1, 1) := by decide +kernel
theorem dX7_partsAs_87 : decode cX7_partsAs 87 = .ok (.invokestatic 175, 3) := by decide +kernel
theorem dX7_partsAs_90 : decode cX7_partsAs 90 = .ok (.iload_n 2, 1) := by decide +kernel
theorem dX7_partsAs_91 : decode cX7_partsAs 91 = .ok (.invokevirtual 266, 3) := by decide +kernel
theorem dX7_partsAs_94 : decode cX7_partsAs 94 = .ok (.istore 4, 2) := by decide +kernel
theorem dX7_partsAs_96 : decode cX7_partsAs 96 = .ok (.aload_n 0, 1) := by decide +kernel
theorem dX7_partsAs_97 : decode cX7_partsAs 97 = .ok (.getfield 262, 3) := by decide +kernel
theorem dX7_partsAs_100 : decode cX7_partsAs 100 = .ok (.ifCond .eq 7, 3) := by decide +kernel
theorem dX7_partsAs_103 : decode cX7_partsAs 103 = .ok (.iconst 0, 1) := by decide +kernel
theorem dX7_partsAs_104 : decode cX7_partsAs 104 = .ok (.goto 15, 3) := by decide +kernel
theorem dX7_partsAs_107 : decode cX7_partsAs 107 = .ok (.iload 4, 2) := by decide +kernel
theorem dX7_partsAs_109 : decode cX7_partsAs 109 = .ok (.aload_n 0, 1) := by decide +kernel
theorem dX7_partsAs_110 : decode cX7_partsAs 110 = .ok (.aload_n 0, 1) := by decide +kernel
theorem dX7_partsAs_111 : decode cX7_partsAs 111 = .ok (.invokevirtual 250, 3) := by decide +kernel
theorem dX7_partsAs_114 : decode cX7_partsAs 114 = .ok (.iconst 1, 1) := by decide +kernel
theorem dX7_partsAs_115 : decode cX7_partsAs 115 = .ok (.invokevirtual 253, 3) := by decide +kernel
theorem dX7_partsAs_118 : decode cX7_partsAs 118 = .ok (.iadd, 1) := by decide +kernel
theorem dX7_partsAs_119 : decode cX7_partsAs 119 = .ok (.ireturn, 1) := by decide +kernel
theorem dX7_partsAs_120 : decode cX7_partsAs 120 = .ok (.aload_n 0, 1) := by decide +kernel
theorem dX7_partsAs_121 : decode cX7_partsAs 121 = .ok (.iload_n 1, 1) := by decide +kernel
theorem dX7_partsAs_122 : decode cX7_partsAs 122 = .ok (.invokestatic 175, 3) := by decide +kernel
theorem dX7_partsAs_125 : decode cX7_partsAs 125 = .ok (.iload_n 2, 1) := by decide +kernel
theorem dX7_partsAs_126 : decode cX7_partsAs 126 = .ok (.invokevirtual 266, 3) := by decide +kernel
theorem dX7_partsAs_129 : decode cX7_partsAs 129 = .ok (.ireturn, 1) := by decide +kernel
theorem dX7_voice_0 : decode cX7_voice 0 = .ok (.aload_n 0, 1) := by decide +kernel
theorem dX7_voice_1 : decode cX7_voice 1 = .ok (.iload_n 1, 1) := by decide +kernel
theorem dX7_voice_2 : decode cX7_voice 2 = .ok (.invokevirtual 156, 3) := by decide +kernel
theorem dX7_voice_5 : decode cX7_voice 5 = .ok (.ifCond .eq 12, 3) := by decide +kernel
theorem dX7_voice_8 : decode cX7_voice 8 = .ok (.iload_n 2, 1) := by decide +kernel
theorem dX7_voice_9 : decode cX7_voice 9 = .ok (.iconst 0, 1) := by decide +kernel
theorem dX7_voice_10 : decode cX7_voice 10 = .ok (.iconst 3, 1) := by decide +kernel
theorem dX7_voice_11 : decode cX7_voice 11 = .ok (.invokestatic 53, 3) := by decide +kernel
theorem dX7_voice_14 : decode cX7_voice 14 = .ok (.ifCond .ne 9, 3) := by decide +kernel
theorem dX7_voice_17 : decode cX7_voice 17 = .ok (.aload_n 0, 1) := by decide +kernel
theorem dX7_voice_18 : decode cX7_voice 18 = .ok (.iconst 1, 1) := by decide +kernel
theorem dX7_voice_19 : decode cX7_voice 19 = .ok (.invokevirtual 65, 3) := by decide +kernel
theorem dX7_voice_22 : decode cX7_voice 22 = .ok (.ireturn, 1) := by decide +kernel
theorem dX7_voice_23 : decode cX7_voice 23 = .ok (.aload_n 0, 1) := by decide +kernel
theorem dX7_voice_24 : decode cX7_voice 24 = .ok (.iconst 0, 1) := by decide +kernel
theorem dX7_voice_25 : decode cX7_voice 25 = .ok (.putfield 237, 3) := by decide +kernel
theorem dX7_voice_28 : decode cX7_voice 28 = .ok (.aload_n 0, 1) := by decide +kernel
theorem dX7_voice_29 : decode cX7_voice 29 = .ok (.iload_n 1, 1) := by decide +kernel
theorem dX7_voice_30 : decode cX7_voice 30 = .ok (.putfield 240, 3) := by decide +kernel
theorem dX7_voice_33 : decode cX7_voice 33 = .ok (.aload_n 0, 1) := by decide +kernel
theorem dX7_voice_34 : decode cX7_voice 34 = .ok (.iconst 0, 1) := by decide +kernel
theorem dX7_voice_35 : decode cX7_voice 35 = .ok (.putfield 262, 3) := by decide +kernel
theorem dX7_voice_38 : decode cX7_voice 38 = .ok (.aload_n 0, 1) := by decide +kernel
theorem dX7_voice_39 : decode cX7_voice 39 = .ok (.invokevirtual 250, 3) := by decide +kernel
theorem dX7_voice_42 : decode cX7_voice 42 = .ok (.istore 4, 2) := by decide +kernel
theorem dX7_voice_44 : decode cX7_voice 44 = .ok (.iload_n 2, 1) := by decide +kernel
theorem dX7_voice_45 : decode cX7_voice 45 = .ok (.ifCond .ne 13, 3) := by decide +kernel
theorem dX7_voice_48 : decode cX7_voice 48 = .ok (.aload_n 0, 1) := by decide +kernel
theorem dX7_voice_49 : decode cX7_voice 49 = .ok (.iload 4, 2) := by decide +kernel
theorem dX7_voice_51 : decode cX7_voice 51 = .ok (.iload_n 3, 1) := by decide +kernel
theorem dX7_voice_52 : decode cX7_voice 52 = .ok (.invokevirtual 247, 3) := by decide +kernel
theorem dX7_voice_55 : decode cX7_voice 55 = .ok (.goto 40, 3) := by decide +kernel
theorem dX7_voice_58 : decode cX7_voice 58 = .ok (.iload_n 2, 1) := by decide +kernel
theorem dX7_voice_59 : decode cX7_voice 59 = .ok (.iconst 1, 1) := by decide +kernel
theorem dX7_voice_60 : decode cX7_voice 60 = .ok (.if_icmp .ne 13, 3) := by decide +kernel
theorem dX7_voice_63 : decode cX7_voice 63 = .ok (.aload_n 0, 1) := by decide +kernel
theorem dX7_voice_64 : decode cX7_voice 64 = .ok (.iload 4, 2) := by decide +kernel
theorem dX7_voice_66 : decode cX7_voice 66 = .ok (.iload_n 3, 1) := by decide +kernel
theorem dX7_voice_67 : decode cX7_voice 67 = .ok (.invokevirtual 253, 3) := by decide +kernel
theorem dX7_voice_70 : decode cX7_voice 70 = .ok (.goto 25, 3) := by decide +kernel
theorem dX7_voice_73 : decode cX7_voice 73 = .ok (.iload_n 2, 1) := by decide +kernel
theorem dX7_voice_74 : decode cX7_voice 74 = .ok (.iconst 2, 1) := by decide +kernel
theorem dX7_voice_75 : decode cX7_voice 75 = .ok (.if_icmp .ne 13, 3) := by decide +kernel
theorem dX7_voice_78 : decode cX7_voice 78 = .ok (.aload_n 0, 1) := by decide +kernel
theorem dX7_voice_79 : decode cX7_voice 79 = .ok (.iload 4, 2) := by decide +kernel
theorem dX7_voice_81 : decode cX7_voice 81 = .ok (.iload_n 3, 1) := by decide +kernel
theorem dX7_voice_82 : decode cX7_voice 82 = .ok (.invokevirtual 259, 3) := by decide +kernel
theorem dX7_voice_85 : decode cX7_voice 85 = .ok (.goto 10, 3) := by decide +kernel
theorem dX7_voice_88 : decode cX7_voice 88 = .ok (.aload_n 0, 1) := by decide +kernel
theorem dX7_voice_89 : decode cX7_voice 89 = .ok (.iload 4, 2) := by decide +kernel
theorem dX7_voice_91 : decode cX7_voice 91 = .ok (.iload_n 3, 1) := by decide +kernel
theorem dX7_voice_92 : decode cX7_voice 92 = .ok (.invokevirtual 266, 3) := by decide +kernel
theorem dX7_voice_95 : decode cX7_voice 95 = .ok (.istore 5, 2) := by decide +kernel
theorem dX7_voice_97 : decode cX7_voice 97 = .ok (.aload_n 0, 1) := by decide +kernel
theorem dX7_voice_98 : decode cX7_voice 98 = .ok (.getfield 262, 3) := by decide +kernel
theorem dX7_voice_101 : decode cX7_voice 101 = .ok (.ifCond .eq 12, 3) := by decide +kernel
theorem dX7_voice_104 : decode cX7_voice 104 = .ok (.aload_n 0, 1) := by decide +kernel
theorem dX7_voice_105 : decode cX7_voice 105 = .ok (.bipush 6, 2) := by decide +kernel
theorem dX7_voice_107 : decode cX7_voice 107 = .ok (.invokevirtual 65, 3) := by decide +kernel
theorem dX7_voice_110 : decode cX7_voice 110 = .ok (.goto 5, 3) := by decide +kernel
theorem dX7_voice_113 : decode cX7_voice 113 = .ok (.iload 5, 2) := by decide +kernel
theorem dX7_voice_115 : decode cX7_voice 115 = .ok (.ireturn, 1) := by decide +kernel
theorem dX7_body_0 : decode cX7_body 0 = .ok (.iload_n 1, 1) := by decide +kernel
theorem dX7_body_1 : decode cX7_body 1 = .ok (.iconst 0, 1) := by decide +kernel
theorem dX7_body_2 : decode cX7_body 2 = .ok (.aload_n 0, 1) := by decide +kernel
theorem dX7_body_3 : decode cX7_body 3 = .ok (.getfield 237, 3) := by decide +kernel
theorem dX7_body_6 : decode cX7_body 6 = .ok (.iconst 1, 1) := by decide +kernel
theorem dX7_body_7 : decode cX7_body 7 = .ok (.isub, 1) := by decide +kernel
theorem dX7_body_8 : decode cX7_body 8 = .ok (.invokestatic 53, 3) := by decide +kernel
theorem dX7_body_11 : decode cX7_body 11 = .ok (.ifCond .eq 12, 3) := by decide +kernel
theorem dX7_body_14 : decode cX7_body 14 = .ok (.aload_n 0, 1) := by decide +kernel
theorem dX7_body_15 : decode cX7_body 15 = .ok (.getfield 37, 3) := by decide +kernel
theorem dX7_body_18 : decode cX7_body 18 = .ok (.iload_n 1, 1) := by decide +kernel
theorem dX7_body_19 : decode cX7_body 19 = .ok (.iaload, 1) := by decide +kernel
theorem dX7_body_20 : decode cX7_body 20 = .ok (.goto 8, 3) := by decide +kernel
theorem dX7_body_23 : decode cX7_body 23 = .ok (.aload_n 0, 1) := by decide +kernel
theorem dX7_body_24 : decode cX7_body 24 = .ok (.iconst 2, 1) := by decide +kernel
theorem dX7_body_25 : decode cX7_body 25 = .ok (.invokevirtual 65, 3) := by decide +kernel
theorem dX7_body_28 : decode cX7_body 28 = .ok (.ireturn, 1) := by decide +kernel
theorem dX7_isSheet_0 : decode cX7_isSheet 0 = .ok (.iload_n 0, 1) := by decide +kernel
theorem dX7_isSheet_1 : decode cX7_isSheet 1 = .ok (.iconst 0, 1) := by decide +kernel
theorem dX7_isSheet_2 : decode cX7_isSheet 2 = .ok (.iconst 3, 1) := by decide +kernel
theorem dX7_isSheet_3 : decode cX7_isSheet 3 = .ok (.invokestatic 53, 3) := by decide +kernel
theorem dX7_isSheet_6 : decode cX7_isSheet 6 = .ok (.ireturn, 1) := by decide +kernel
theorem dX7_sheet_0 : decode cX7_sheet 0 = .ok (.iload_n 1, 1) := by decide +kernel
theorem dX7_sheet_1 : decode cX7_sheet 1 = .ok (.invokestatic 269, 3) := by decide +kernel
theorem dX7_sheet_4 : decode cX7_sheet 4 = .ok (.ifCond .eq 25, 3) := by decide +kernel
theorem dX7_sheet_7 : decode cX7_sheet 7 = .ok (.iload_n 2, 1) := by decide +kernel
theorem dX7_sheet_8 : decode cX7_sheet 8 = .ok (.ifCond .eq 27, 3) := by decide +kernel
theorem dX7_sheet_11 : decode cX7_sheet 11 = .ok (.iload_n 2, 1) := by decide +kernel
theorem dX7_sheet_12 : decode cX7_sheet 12 = .ok (.bipush 8, 2) := by decide +kernel
theorem dX7_sheet_14 : decode cX7_sheet 14 = .ok (.if_icmp .eq 21, 3) := by decide +kernel
theorem dX7_sheet_17 : decode cX7_sheet 17 = .ok (.iload_n 2, 1) := by decide +kernel
theorem dX7_sheet_18 : decode cX7_sheet 18 = .ok (.bipush 16, 2) := by decide +kernel
theorem dX7_sheet_20 : decode cX7_sheet 20 = .ok (.if_icmp .eq 15, 3) := by decide +kernel
theorem dX7_sheet_23 : decode cX7_sheet 23 = .ok (.iload_n 2, 1) := by decide +kernel
theorem dX7_sheet_24 : decode cX7_sheet 24 = .ok (.bipush 32, 2) := by decide +kernel
theorem dX7_sheet_26 : decode cX7_sheet 26 = .ok (.if_icmp .eq 9, 3) := by decide +kernel
theorem dX7_sheet_29 : decode cX7_sheet 29 = .ok (.aload_n 0, 1) := by decide +kernel
theorem dX7_sheet_30 : decode cX7_sheet 30 = .ok (.iconst 1, 1) := by decide +kernel
theorem dX7_sheet_31 : decode cX7_sheet 31 = .ok (.invokevirtual 65, 3) := by decide +kernel
theorem dX7_sheet_34 : decode cX7_sheet 34 = .ok (.ireturn, 1) := by decide +kernel
theorem dX7_sheet_35 : decode cX7_sheet 35 = .ok (.iload_n 2, 1) := by decide +kernel
theorem dX7_sheet_36 : decode cX7_sheet 36 = .ok (.ifCond .eq 13, 3) := by decide +kernel
theorem dX7_sheet_39 : decode cX7_sheet 39 = .ok (.iload_n 3, 1) := by decide +kernel
theorem dX7_sheet_40 : decode cX7_sheet 40 = .ok (.ifCond .ge 9, 3) := by decide +kernel
theorem dX7_sheet_43 : decode cX7_sheet 43 = .ok (.aload_n 0, 1) := by decide +kernel
theorem dX7_sheet_44 : decode cX7_sheet 44 = .ok (.iconst 3, 1) := by decide +kernel
theorem dX7_sheet_45 : decode cX7_sheet 45 = .ok (.invokevirtual 65, 3) := by decide +kernel
theorem dX7_sheet_48 : decode cX7_sheet 48 = .ok (.ireturn, 1) := by decide +kernel
theorem dX7_sheet_49 : decode cX7_sheet 49 = .ok (.iload_n 2, 1) := by decide +kernel
theorem dX7_sheet_50 : decode cX7_sheet 50 = .ok (.ifCond .eq 15, 3) := by decide +kernel
theorem dX7_sheet_53 : decode cX7_sheet 53 = .ok (.iload_n 3, 1) := by decide +kernel
theorem dX7_sheet_54 : decode cX7_sheet 54 = .ok (.bipush 24, 2) := by decide +kernel
theorem dX7_sheet_56 : decode cX7_sheet 56 = .ok (.if_icmp .le 9, 3) := by decide +kernel
theorem dX7_sheet_59 : decode cX7_sheet 59 = .ok (.aload_n 0, 1) := by decide +kernel
theorem dX7_sheet_60 : decode cX7_sheet 60 = .ok (.iconst 1, 1) := by decide +kernel
theorem dX7_sheet_61 : decode cX7_sheet 61 = .ok (.invokevirtual 65, 3) := by decide +kernel
theorem dX7_sheet_64 : decode cX7_sheet 64 = .ok (.ireturn, 1) := by decide +kernel
theorem dX7_sheet_65 : decode cX7_sheet 65 = .ok (.aload_n 0, 1) := by decide +kernel
theorem dX7_sheet_66 : decode cX7_sheet 66 = .ok (.getfield 40, 3) := by decide +kernel
theorem dX7_sheet_69 : decode cX7_sheet 69 = .ok (.iload_n 1, 1) := by decide +kernel
theorem dX7_sheet_70 : decode cX7_sheet 70 = .ok (.iload_n 2, 1) := by decide +kernel
theorem dX7_sheet_71 : decode cX7_sheet 71 = .ok (.iastore, 1) := by decide +kernel
theorem dX7_sheet_72 : decode cX7_sheet 72 = .ok (.aload_n 0, 1) := by decide +kernel
theorem dX7_sheet_73 : decode cX7_sheet 73 = .ok (.getfield 43, 3) := by decide +kernel
theorem dX7_sheet_76 : decode cX7_sheet 76 = .ok (.iload_n 1, 1) := by decide +kernel
theorem dX7_sheet_77 : decode cX7_sheet 77 = .ok (.iload_n 2, 1) := by decide +kernel
theorem dX7_sheet_78 : decode cX7_sheet 78 = .ok (.ifCond .ne 7, 3) := by decide +kernel
theorem dX7_sheet_81 : decode cX7_sheet 81 = .ok (.iconst 0, 1) := by decide +kernel
theorem dX7_sheet_82 : decode cX7_sheet 82 = .ok (.goto 4, 3) := by decide +kernel
theorem dX7_sheet_85 : decode cX7_sheet 85 = .ok (.iload_n 3, 1) := by decide +kernel
theorem dX7_sheet_86 : decode cX7_sheet 86 = .ok (.iastore, 1) := by decide +kernel
theorem dX7_sheet_87 : decode cX7_sheet 87 = .ok (.iconst 0, 1) := by decide +kernel
theorem dX7_sheet_88 : decode cX7_sheet 88 = .ok (.istore 4, 2) := by decide +kernel
theorem dX7_sheet_90 : decode cX7_sheet 90 = .ok (.iload 4, 2) := by decide +kernel
theorem dX7_sheet_92 : decode cX7_sheet 92 = .ok (.bipush 24, 2) := by decide +kernel
theorem dX7_sheet_94 : decode cX7_sheet 94 = .ok (.if_icmp .ge 22, 3) := by decide +kernel
theorem dX7_sheet_97 : decode cX7_sheet 97 = .ok (.aload_n 0, 1) := by decide +kernel
theorem dX7_sheet_98 : decode cX7_sheet 98 = .ok (.getfield 46, 3) := by decide +kernel
theorem dX7_sheet_101 : decode cX7_sheet 101 = .ok (.bipush 24, 2) := by decide +kernel
theorem dX7_sheet_103 : decode cX7_sheet 103 = .ok (.iload_n 1, 1) := by decide +kernel
theorem dX7_sheet_104 : decode cX7_sheet 104 = .ok (.imul, 1) := by decide +kernel
theorem dX7_sheet_105 : decode cX7_sheet 105 = .ok (.iload 4, 2) := by decide +kernel
theorem dX7_sheet_107 : decode cX7_sheet 107 = .ok (.iadd, 1) := by decide +kernel
theorem dX7_sheet_108 : decode cX7_sheet 108 = .ok (.iconst 0, 1) := by decide +kernel
theorem dX7_sheet_109 : decode cX7_sheet 109 = .ok (.iastore, 1) := by decide +kernel
theorem dX7_sheet_110 : decode cX7_sheet 110 = .ok (.iinc 4 1, 3) := by decide +kernel
theorem dX7_sheet_113 : decode cX7_sheet 113 = .ok (.goto (-23), 3) := by decide +kernel
theorem dX7_sheet_116 : decode cX7_sheet 116 = .ok (.iconst 1, 1) := by decide +kernel
theorem dX7_sheet_117 : decode cX7_sheet 117 = .ok (.ireturn, 1) := by decide +kernel
theorem dX7_put_0 : decode cX7_put 0 = .ok (.iload_n 1, 1) := by decide +kernel
theorem dX7_put_1 : decode cX7_put 1 = .ok (.invokestatic 269, 3) := by decide +kernel
theorem dX7_put_4 : decode cX7_put 4 = .ok (.ifCond .ne 9, 3) := by decide +kernel
theorem dX7_put_7 : decode cX7_put 7 = .ok (.aload_n 0, 1) := by decide +kernel
theorem dX7_put_8 : decode cX7_put 8 = .ok (.iconst 1, 1) := by decide +kernel
theorem dX7_put_9 : decode cX7_put 9 = .ok (.invokevirtual 65, 3) := by decide +kernel
theorem dX7_put_12 : decode cX7_put 12 = .ok (.ireturn, 1) := by decide +kernel
theorem dX7_put_13 : decode cX7_put 13 = .ok (.aload_n 0, 1) := by decide +kernel
theorem dX7_put_14 : decode cX7_put 14 = .ok (.getfield 40, 3) := by decide +kernel
theorem dX7_put_17 : decode cX7_put 17 = .ok (.iload_n 1, 1) := by decide +kernel
theorem dX7_put_18 : decode cX7_put 18 = .ok (.iaload, 1) := by decide +kernel
theorem dX7_put_19 : decode cX7_put 19 = .ok (.ifCond .ne 9, 3) := by decide +kernel
theorem dX7_put_22 : decode cX7_put 22 = .ok (.aload_n 0, 1) := by decide +kernel
theorem dX7_put_23 : decode cX7_put 23 = .ok (.iconst 2, 1) := by decide +kernel
theorem dX7_put_24 : decode cX7_put 24 = .ok (.invokevirtual 65, 3) := by decide +kernel
theorem dX7_put_27 : decode cX7_put 27 = .ok (.ireturn, 1) := by decide +kernel
theorem dX7_put_28 : decode cX7_put 28 = .ok (.iload_n 2, 1) := by decide +kernel
theorem dX7_put_29 : decode cX7_put 29 = .ok (.iconst 0, 1) := by decide +kernel
theorem dX7_put_30 : decode cX7_put 30 = .ok (.aload_n 0, 1) := by decide +kernel
theorem dX7_put_31 : decode cX7_put 31 = .ok (.getfield 43, 3) := by decide +kernel
theorem dX7_put_34 : decode cX7_put 34 = .ok (.iload_n 1, 1) := by decide +kernel
theorem dX7_put_35 : decode cX7_put 35 = .ok (.iaload, 1) := by decide +kernel
theorem dX7_put_36 : decode cX7_put 36 = .ok (.iconst 1, 1) := by decide +kernel
theorem dX7_put_37 : decode cX7_put 37 = .ok (.isub, 1) := by decide +kernel
theorem dX7_put_38 : decode cX7_put 38 = .ok (.invokestatic 53, 3) := by decide +kernel
theorem dX7_put_41 : decode cX7_put 41 = .ok (.ifCond .ne 9, 3) := by decide +kernel
theorem dX7_put_44 : decode cX7_put 44 = .ok (.aload_n 0, 1) := by decide +kernel
theorem dX7_put_45 : decode cX7_put 45 = .ok (.iconst 1, 1) := by decide +kernel
theorem dX7_put_46 : decode cX7_put 46 = .ok (.invokevirtual 65, 3) := by decide +kernel
theorem dX7_put_49 : decode cX7_put 49 = .ok (.ireturn, 1) := by decide +kernel
theorem dX7_put_50 : decode cX7_put 50 = .ok (.bipush 32, 2) := by decide +kernel
theorem dX7_put_52 : decode cX7_put 52 = .ok (.aload_n 0, 1) := by decide +kernel
theorem dX7_put_53 : decode cX7_put 53 = .ok (.getfield 40, 3) := by decide +kernel
theorem dX7_put_56 : decode cX7_put 56 = .ok (.iload_n 1, 1) := by decide +kernel
theorem dX7_put_57 : decode cX7_put 57 = .ok (.iaload, 1) := by decide +kernel
theorem dX7_put_58 : decode cX7_put 58 = .ok (.isub, 1) := by decide +kernel
theorem dX7_put_59 : decode cX7_put 59 = .ok (.istore 4, 2) := by decide +kernel
theorem dX7_put_61 : decode cX7_put 61 = .ok (.aload_n 0, 1) := by decide +kernel
theorem dX7_put_62 : decode cX7_put 62 = .ok (.getfield 46, 3) := by decide +kernel
theorem dX7_put_65 : decode cX7_put 65 = .ok (.bipush 24, 2) := by decide +kernel
theorem dX7_put_67 : decode cX7_put 67 = .ok (.iload_n 1, 1) := by decide +kernel
theorem dX7_put_68 : decode cX7_put 68 = .ok (.imul, 1) := by decide +kernel
theorem dX7_put_69 : decode cX7_put 69 = .ok (.iload_n 2, 1) := by decide +kernel
theorem dX7_put_70 : decode cX7_put 70 = .ok (.iadd, 1) := by decide +kernel
theorem dX7_put_71 : decode cX7_put 71 = .ok (.iload_n 3, 1) := by decide +kernel
theorem dX7_put_72 : decode cX7_put 72 = .ok (.iload 4, 2) := by decide +kernel
theorem dX7_put_74 : decode cX7_put 74 = .ok (.ishl, 1) := by decide +kernel
theorem dX7_put_75 : decode cX7_put 75 = .ok (.iload 4, 2) := by decide +kernel
theorem dX7_put_77 : decode cX7_put 77 = .ok (.ishr, 1) := by decide +kernel
theorem dX7_put_78 : decode cX7_put 78 = .ok (.iastore, 1) := by decide +kernel
theorem dX7_put_79 : decode cX7_put 79 = .ok (.iconst 1, 1) := by decide +kernel
theorem dX7_put_80 : decode cX7_put 80 = .ok (.ireturn, 1) := by decide +kernel
theorem dX7_move_0 : decode cX7_move 0 = .ok (.iload_n 1, 1) := by decide +kernel
theorem dX7_move_1 : decode cX7_move 1 = .ok (.invokestatic 269, 3) := by decide +kernel
theorem dX7_move_4 : decode cX7_move 4 = .ok (.ifCond .eq 10, 3) := by decide +kernel
theorem dX7_move_7 : decode cX7_move 7 = .ok (.iload_n 3, 1) := by decide +kernel
theorem dX7_move_8 : decode cX7_move 8 = .ok (.invokestatic 269, 3) := by decide +kernel
theorem dX7_move_11 : decode cX7_move 11 = .ok (.ifCond .ne 9, 3) := by decide +kernel
theorem dX7_move_14 : decode cX7_move 14 = .ok (.aload_n 0, 1) := by decide +kernel
theorem dX7_move_15 : decode cX7_move 15 = .ok (.iconst 1, 1) := by decide +kernel
theorem dX7_move_16 : decode cX7_move 16 = .ok (.invokevirtual 65, 3) := by decide +kernel
theorem dX7_move_19 : decode cX7_move 19 = .ok (.ireturn, 1) := by decide +kernel
theorem dX7_move_20 : decode cX7_move 20 = .ok (.aload_n 0, 1) := by decide +kernel
theorem dX7_move_21 : decode cX7_move 21 = .ok (.getfield 40, 3) := by decide +kernel
theorem dX7_move_24 : decode cX7_move 24 = .ok (.iload_n 1, 1) := by decide +kernel
theorem dX7_move_25 : decode cX7_move 25 = .ok (.iaload, 1) := by decide +kernel
theorem dX7_move_26 : decode cX7_move 26 = .ok (.ifCond .eq 12, 3) := by decide +kernel
theorem dX7_move_29 : decode cX7_move 29 = .ok (.aload_n 0, 1) := by decide +kernel
theorem dX7_move_30 : decode cX7_move 30 = .ok (.getfield 40, 3) := by decide +kernel
theorem dX7_move_33 : decode cX7_move 33 = .ok (.iload_n 3, 1) := by decide +kernel
theorem dX7_move_34 : decode cX7_move 34 = .ok (.iaload, 1) := by decide +kernel
theorem dX7_move_35 : decode cX7_move 35 = .ok (.ifCond .ne 9, 3) := by decide +kernel
theorem dX7_move_38 : decode cX7_move 38 = .ok (.aload_n 0, 1) := by decide +kernel
theorem dX7_move_39 : decode cX7_move 39 = .ok (.iconst 2, 1) := by decide +kernel
theorem dX7_move_40 : decode cX7_move 40 = .ok (.invokevirtual 65, 3) := by decide +kernel
theorem dX7_move_43 : decode cX7_move 43 = .ok (.ireturn, 1) := by decide +kernel
theorem dX7_move_44 : decode cX7_move 44 = .ok (.aload_n 0, 1) := by decide +kernel
theorem dX7_move_45 : decode cX7_move 45 = .ok (.getfield 40, 3) := by decide +kernel
theorem dX7_move_48 : decode cX7_move 48 = .ok (.iload_n 1, 1) := by decide +kernel
theorem dX7_move_49 : decode cX7_move 49 = .ok (.iaload, 1) := by decide +kernel
theorem dX7_move_50 : decode cX7_move 50 = .ok (.aload_n 0, 1) := by decide +kernel
theorem dX7_move_51 : decode cX7_move 51 = .ok (.getfield 40, 3) := by decide +kernel
theorem dX7_move_54 : decode cX7_move 54 = .ok (.iload_n 3, 1) := by decide +kernel
theorem dX7_move_55 : decode cX7_move 55 = .ok (.iaload, 1) := by decide +kernel
theorem dX7_move_56 : decode cX7_move 56 = .ok (.if_icmp .eq 9, 3) := by decide +kernel
theorem dX7_move_59 : decode cX7_move 59 = .ok (.aload_n 0, 1) := by decide +kernel
theorem dX7_move_60 : decode cX7_move 60 = .ok (.iconst 5, 1) := by decide +kernel
theorem dX7_move_61 : decode cX7_move 61 = .ok (.invokevirtual 65, 3) := by decide +kernel
theorem dX7_move_64 : decode cX7_move 64 = .ok (.ireturn, 1) := by decide +kernel
theorem dX7_move_65 : decode cX7_move 65 = .ok (.iload 5, 2) := by decide +kernel
theorem dX7_move_67 : decode cX7_move 67 = .ok (.ifCond .lt 39, 3) := by decide +kernel
theorem dX7_move_70 : decode cX7_move 70 = .ok (.iload_n 2, 1) := by decide +kernel
theorem dX7_move_71 : decode cX7_move 71 = .ok (.ifCond .lt 35, 3) := by decide +kernel
theorem dX7_move_74 : decode cX7_move 74 = .ok (.iload 4, 2) := by decide +kernel
theorem dX7_move_76 : decode cX7_move 76 = .ok (.ifCond .lt 30, 3) := by decide +kernel
theorem dX7_move_79 : decode cX7_move 79 = .ok (.iload_n 2, 1) := by decide +kernel
theorem dX7_move_80 : decode cX7_move 80 = .ok (.aload_n 0, 1) := by decide +kernel
theorem dX7_move_81 : decode cX7_move 81 = .ok (.getfield 43, 3) := by decide +kernel
theorem dX7_move_84 : decode cX7_move 84 = .ok (.iload_n 1, 1) := by decide +kernel
theorem dX7_move_85 : decode cX7_move 85 = .ok (.iaload, 1) := by decide +kernel
theorem dX7_move_86 : decode cX7_move 86 = .ok (.iload 5, 2) := by decide +kernel
theorem dX7_move_88 : decode cX7_move 88 = .ok (.isub, 1) := by decide +kernel
theorem dX7_move_89 : decode cX7_move 89 = .ok (.if_icmp .gt 17, 3) := by decide +kernel
theorem dX7_move_92 : decode cX7_move 92 = .ok (.iload 4, 2) := by decide +kernel
theorem dX7_move_94 : decode cX7_move 94 = .ok (.aload_n 0, 1) := by decide +kernel
theorem dX7_move_95 : decode cX7_move 95 = .ok (.getfield 43, 3) := by decide +kernel
theorem dX7_move_98 : decode cX7_move 98 = .ok (.iload_n 3, 1) := by decide +kernel
theorem dX7_move_99 : decode cX7_move 99 = .ok (.iaload, 1) := by decide +kernel
theorem dX7_move_100 : decode cX7_move 100 = .ok (.iload 5, 2) := by decide +kernel
theorem dX7_move_102 : decode cX7_move 102 = .ok (.isub, 1) := by decide +kernel
theorem dX7_move_103 : decode cX7_move 103 = .ok (.if_icmp .le 9, 3) := by decide +kernel
theorem dX7_move_106 : decode cX7_move 106 = .ok (.aload_n 0, 1) := by decide +kernel
theorem dX7_move_107 : decode cX7_move 107 = .ok (.iconst 1, 1) := by decide +kernel
theorem dX7_move_108 : decode cX7_move 108 = .ok (.invokevirtual 65, 3) := by decide +kernel
theorem dX7_move_111 : decode cX7_move 111 = .ok (.ireturn, 1) := by decide +kernel
theorem dX7_move_112 : decode cX7_move 112 = .ok (.iconst 0, 1) := by decide +kernel
theorem dX7_move_113 : decode cX7_move 113 = .ok (.istore 6, 2) := by decide +kernel
theorem dX7_move_115 : decode cX7_move 115 = .ok (.iload 6, 2) := by decide +kernel
theorem dX7_move_117 : decode cX7_move 117 = .ok (.iload 5, 2) := by decide +kernel
theorem dX7_move_119 : decode cX7_move 119 = .ok (.if_icmp .ge 30, 3) := by decide +kernel
theorem dX7_move_122 : decode cX7_move 122 = .ok (.aload_n 0, 1) := by decide +kernel
theorem dX7_move_123 : decode cX7_move 123 = .ok (.getfield 49, 3) := by decide +kernel
theorem dX7_move_126 : decode cX7_move 126 = .ok (.iload 6, 2) := by decide +kernel
theorem dX7_move_128 : decode cX7_move 128 = .ok (.aload_n 0, 1) := by decide +kernel
theorem dX7_move_129 : decode cX7_move 129 = .ok (.getfield 46, 3) := by decide +kernel
theorem dX7_move_132 : decode cX7_move 132 = .ok (.bipush 24, 2) := by decide +kernel
theorem dX7_move_134 : decode cX7_move 134 = .ok (.iload_n 1, 1) := by decide +kernel
theorem dX7_move_135 : decode cX7_move 135 = .ok (.imul, 1) := by decide +kernel
theorem dX7_move_136 : decode cX7_move 136 = .ok (.iload_n 2, 1) := by decide +kernel
theorem dX7_move_137 : decode cX7_move 137 = .ok (.iadd, 1) := by decide +kernel
theorem dX7_move_138 : decode cX7_move 138 = .ok (.iload 6, 2) := by decide +kernel
theorem dX7_move_140 : decode cX7_move 140 = .ok (.iadd, 1) := by decide +kernel
theorem dX7_move_141 : decode cX7_move 141 = .ok (.iaload, 1) := by decide +kernel
theorem dX7_move_142 : decode cX7_move 142 = .ok (.iastore, 1) := by decide +kernel
theorem dX7_move_143 : decode cX7_move 143 = .ok (.iinc 6 1, 3) := by decide +kernel
theorem dX7_move_146 : decode cX7_move 146 = .ok (.goto (-31), 3) := by decide +kernel
theorem dX7_move_149 : decode cX7_move 149 = .ok (.iconst 0, 1) := by decide +kernel
theorem dX7_move_150 : decode cX7_move 150 = .ok (.istore 6, 2) := by decide +kernel
theorem dX7_move_152 : decode cX7_move 152 = .ok (.iload 6, 2) := by decide +kernel
theorem dX7_move_154 : decode cX7_move 154 = .ok (.iload 5, 2) := by decide +kernel
theorem dX7_move_156 : decode cX7_move 156 = .ok (.if_icmp .ge 31, 3) := by decide +kernel
theorem dX7_move_159 : decode cX7_move 159 = .ok (.aload_n 0, 1) := by decide +kernel
theorem dX7_move_160 : decode cX7_move 160 = .ok (.getfield 46, 3) := by decide +kernel
theorem dX7_move_163 : decode cX7_move 163 = .ok (.bipush 24, 2) := by decide +kernel
theorem dX7_move_165 : decode cX7_move 165 = .ok (.iload_n 3, 1) := by decide +kernel
theorem dX7_move_166 : decode cX7_move 166 = .ok (.imul, 1) := by decide +kernel
theorem dX7_move_167 : decode cX7_move 167 = .ok (.iload 4, 2) := by decide +kernel
theorem dX7_move_169 : decode cX7_move 169 = .ok (.iadd, 1) := by decide +kernel
theorem dX7_move_170 : decode cX7_move 170 = .ok (.iload 6, 2) := by decide +kernel
theorem dX7_move_172 : decode cX7_move 172 = .ok (.iadd, 1) := by decide +kernel
theorem dX7_move_173 : decode cX7_move 173 = .ok (.aload_n 0, 1) := by decide +kernel
theorem dX7_move_174 : decode cX7_move 174 = .ok (.getfield 49, 3) := by decide +kernel
theorem dX7_move_177 : decode cX7_move 177 = .ok (.iload 6, 2) := by decide +kernel
theorem dX7_move_179 : decode cX7_move 179 = .ok (.iaload, 1) := by decide +kernel
theorem dX7_move_180 : decode cX7_move 180 = .ok (.iastore, 1) := by decide +kernel
theorem dX7_move_181 : decode cX7_move 181 = .ok (.iinc 6 1, 3) := by decide +kernel
theorem dX7_move_184 : decode cX7_move 184 = .ok (.goto (-32), 3) := by decide +kernel
theorem dX7_move_187 : decode cX7_move 187 = .ok (.iload 5, 2) := by decide +kernel
theorem dX7_move_189 : decode cX7_move 189 = .ok (.ireturn, 1) := by decide +kernel
theorem dX7_lacks_0 : decode cX7_lacks 0 = .ok (.iload_n 1, 1) := by decide +kernel
theorem dX7_lacks_1 : decode cX7_lacks 1 = .ok (.invokestatic 269, 3) := by decide +kernel
theorem dX7_lacks_4 : decode cX7_lacks 4 = .ok (.ifCond .ne 7, 3) := by decide +kernel
theorem dX7_lacks_7 : decode cX7_lacks 7 = .ok (.iconst 1, 1) := by decide +kernel
theorem dX7_lacks_8 : decode cX7_lacks 8 = .ok (.goto 17, 3) := by decide +kernel
theorem dX7_lacks_11 : decode cX7_lacks 11 = .ok (.aload_n 0, 1) := by decide +kernel
theorem dX7_lacks_12 : decode cX7_lacks 12 = .ok (.getfield 40, 3) := by decide +kernel
theorem dX7_lacks_15 : decode cX7_lacks 15 = .ok (.iload_n 1, 1) := by decide +kernel
theorem dX7_lacks_16 : decode cX7_lacks 16 = .ok (.iaload, 1) := by decide +kernel
theorem dX7_lacks_17 : decode cX7_lacks 17 = .ok (.ifCond .ne 7, 3) := by decide +kernel
theorem dX7_lacks_20 : decode cX7_lacks 20 = .ok (.iconst 2, 1) := by decide +kernel
theorem dX7_lacks_21 : decode cX7_lacks 21 = .ok (.goto 4, 3) := by decide +kernel
theorem dX7_lacks_24 : decode cX7_lacks 24 = .ok (.iconst 0, 1) := by decide +kernel
theorem dX7_lacks_25 : decode cX7_lacks 25 = .ok (.ireturn, 1) := by decide +kernel
theorem dX7_spoons_0 : decode cX7_spoons 0 = .ok (.aload_n 0, 1) := by decide +kernel
theorem dX7_spoons_1 : decode cX7_spoons 1 = .ok (.iload_n 1, 1) := by decide +kernel
theorem dX7_spoons_2 : decode cX7_spoons 2 = .ok (.invokevirtual 156, 3) := by decide +kernel
theorem dX7_spoons_5 : decode cX7_spoons 5 = .ok (.ifCond .eq 11, 3) := by decide +kernel
theorem dX7_spoons_8 : decode cX7_spoons 8 = .ok (.aload_n 0, 1) := by decide +kernel
theorem dX7_spoons_9 : decode cX7_spoons 9 = .ok (.iload_n 2, 1) := by decide +kernel
theorem dX7_spoons_10 : decode cX7_spoons 10 = .ok (.invokevirtual 231, 3) := by decide +kernel
theorem dX7_spoons_13 : decode cX7_spoons 13 = .ok (.goto 4, 3) := by decide +kernel
theorem dX7_spoons_16 : decode cX7_spoons 16 = .ok (.iconst 1, 1) := by decide +kernel
theorem dX7_spoons_17 : decode cX7_spoons 17 = .ok (.istore_n 3, 1) := by decide +kernel
theorem dX7_spoons_18 : decode cX7_spoons 18 = .ok (.iload_n 3, 1) := by decide +kernel
theorem dX7_spoons_19 : decode cX7_spoons 19 = .ok (.ifCond .eq 9, 3) := by decide +kernel
theorem dX7_spoons_22 : decode cX7_spoons 22 = .ok (.aload_n 0, 1) := by decide +kernel
theorem dX7_spoons_23 : decode cX7_spoons 23 = .ok (.iload_n 3, 1) := by decide +kernel
theorem dX7_spoons_24 : decode cX7_spoons 24 = .ok (.invokevirtual 65, 3) := by decide +kernel
theorem dX7_spoons_27 : decode cX7_spoons 27 = .ok (.ireturn, 1) := by decide +kernel
theorem dX7_spoons_28 : decode cX7_spoons 28 = .ok (.iconst 0, 1) := by decide +kernel
theorem dX7_spoons_29 : decode cX7_spoons 29 = .ok (.istore 4, 2) := by decide +kernel
theorem dX7_spoons_31 : decode cX7_spoons 31 = .ok (.iload 4, 2) := by decide +kernel
theorem dX7_spoons_33 : decode cX7_spoons 33 = .ok (.aload_n 0, 1) := by decide +kernel
theorem dX7_spoons_34 : decode cX7_spoons 34 = .ok (.getfield 43, 3) := by decide +kernel
theorem dX7_spoons_37 : decode cX7_spoons 37 = .ok (.iload_n 2, 1) := by decide +kernel
theorem dX7_spoons_38 : decode cX7_spoons 38 = .ok (.iaload, 1) := by decide +kernel
theorem dX7_spoons_39 : decode cX7_spoons 39 = .ok (.if_icmp .ge 64, 3) := by decide +kernel
theorem dX7_spoons_42 : decode cX7_spoons 42 = .ok (.iload 4, 2) := by decide +kernel
theorem dX7_spoons_44 : decode cX7_spoons 44 = .ok (.invokestatic 178, 3) := by decide +kernel
theorem dX7_spoons_47 : decode cX7_spoons 47 = .ok (.ifCond .eq 56, 3) := by decide +kernel
theorem dX7_spoons_50 : decode cX7_spoons 50 = .ok (.aload_n 0, 1) := by decide +kernel
theorem dX7_spoons_51 : decode cX7_spoons 51 = .ok (.getfield 46, 3) := by decide +kernel
theorem dX7_spoons_54 : decode cX7_spoons 54 = .ok (.bipush 24, 2) := by decide +kernel
theorem dX7_spoons_56 : decode cX7_spoons 56 = .ok (.iload_n 2, 1) := by decide +kernel
theorem dX7_spoons_57 : decode cX7_spoons 57 = .ok (.imul, 1) := by decide +kernel
theorem dX7_spoons_58 : decode cX7_spoons 58 = .ok (.iload 4, 2) := by decide +kernel
theorem dX7_spoons_60 : decode cX7_spoons 60 = .ok (.iadd, 1) := by decide +kernel
theorem dX7_spoons_61 : decode cX7_spoons 61 = .ok (.iaload, 1) := by decide +kernel
theorem dX7_spoons_62 : decode cX7_spoons 62 = .ok (.iconst 0, 1) := by decide +kernel
theorem dX7_spoons_63 : decode cX7_spoons 63 = .ok (.bipush 99, 2) := by decide +kernel
theorem dX7_spoons_65 : decode cX7_spoons 65 = .ok (.invokestatic 53, 3) := by decide +kernel
theorem dX7_spoons_68 : decode cX7_spoons 68 = .ok (.ifCond .eq 35, 3) := by decide +kernel
theorem dX7_spoons_71 : decode cX7_spoons 71 = .ok (.aload_n 0, 1) := by decide +kernel
theorem dX7_spoons_72 : decode cX7_spoons 72 = .ok (.getfield 7, 3) := by decide +kernel
theorem dX7_spoons_75 : decode cX7_spoons 75 = .ok (.bipush 38, 2) := by decide +kernel
theorem dX7_spoons_77 : decode cX7_spoons 77 = .ok (.iconst 5, 1) := by decide +kernel
theorem dX7_spoons_78 : decode cX7_spoons 78 = .ok (.iload_n 1, 1) := by decide +kernel
theorem dX7_spoons_79 : decode cX7_spoons 79 = .ok (.imul, 1) := by decide +kernel
theorem dX7_spoons_80 : decode cX7_spoons 80 = .ok (.iadd, 1) := by decide +kernel
theorem dX7_spoons_81 : decode cX7_spoons 81 = .ok (.iload 4, 2) := by decide +kernel
theorem dX7_spoons_83 : decode cX7_spoons 83 = .ok (.iadd, 1) := by decide +kernel
theorem dX7_spoons_84 : decode cX7_spoons 84 = .ok (.aload_n 0, 1) := by decide +kernel
theorem dX7_spoons_85 : decode cX7_spoons 85 = .ok (.getfield 46, 3) := by decide +kernel
theorem dX7_spoons_88 : decode cX7_spoons 88 = .ok (.bipush 24, 2) := by decide +kernel
theorem dX7_spoons_90 : decode cX7_spoons 90 = .ok (.iload_n 2, 1) := by decide +kernel
theorem dX7_spoons_91 : decode cX7_spoons 91 = .ok (.imul, 1) := by decide +kernel
theorem dX7_spoons_92 : decode cX7_spoons 92 = .ok (.iload 4, 2) := by decide +kernel
theorem dX7_spoons_94 : decode cX7_spoons 94 = .ok (.iadd, 1) := by decide +kernel
theorem dX7_spoons_95 : decode cX7_spoons 95 = .ok (.iaload, 1) := by decide +kernel
theorem dX7_spoons_96 : decode cX7_spoons 96 = .ok (.iastore, 1) := by decide +kernel
theorem dX7_spoons_97 : decode cX7_spoons 97 = .ok (.iinc 4 1, 3) := by decide +kernel
theorem dX7_spoons_100 : decode cX7_spoons 100 = .ok (.goto (-69), 3) := by decide +kernel
theorem dX7_spoons_103 : decode cX7_spoons 103 = .ok (.iload 4, 2) := by decide +kernel
theorem dX7_spoons_105 : decode cX7_spoons 105 = .ok (.ireturn, 1) := by decide +kernel
theorem dX7_judge_0 : decode cX7_judge 0 = .ok (.aload_n 0, 1) := by decide +kernel
theorem dX7_judge_1 : decode cX7_judge 1 = .ok (.iload_n 1, 1) := by decide +kernel
theorem dX7_judge_2 : decode cX7_judge 2 = .ok (.invokevirtual 231, 3) := by decide +kernel
theorem dX7_judge_5 : decode cX7_judge 5 = .ok (.istore_n 2, 1) := by decide +kernel
theorem dX7_judge_6 : decode cX7_judge 6 = .ok (.iload_n 2, 1) := by decide +kernel
theorem dX7_judge_7 : decode cX7_judge 7 = .ok (.ifCond .eq 9, 3) := by decide +kernel
theorem dX7_judge_10 : decode cX7_judge 10 = .ok (.aload_n 0, 1) := by decide +kernel
theorem dX7_judge_11 : decode cX7_judge 11 = .ok (.iload_n 2, 1) := by decide +kernel
theorem dX7_judge_12 : decode cX7_judge 12 = .ok (.invokevirtual 65, 3) := by decide +kernel
theorem dX7_judge_15 : decode cX7_judge 15 = .ok (.ireturn, 1) := by decide +kernel
theorem dX7_judge_16 : decode cX7_judge 16 = .ok (.iconst 0, 1) := by decide +kernel
theorem dX7_judge_17 : decode cX7_judge 17 = .ok (.istore_n 3, 1) := by decide +kernel
theorem dX7_judge_18 : decode cX7_judge 18 = .ok (.iload_n 3, 1) := by decide +kernel
theorem dX7_judge_19 : decode cX7_judge 19 = .ok (.aload_n 0, 1) := by decide +kernel
theorem dX7_judge_20 : decode cX7_judge 20 = .ok (.getfield 43, 3) := by decide +kernel
theorem dX7_judge_23 : decode cX7_judge 23 = .ok (.iload_n 1, 1) := by decide +kernel
theorem dX7_judge_24 : decode cX7_judge 24 = .ok (.iaload, 1) := by decide +kernel
theorem dX7_judge_25 : decode cX7_judge 25 = .ok (.if_icmp .ge 36, 3) := by decide +kernel
theorem dX7_judge_28 : decode cX7_judge 28 = .ok (.aload_n 0, 1) := by decide +kernel
theorem dX7_judge_29 : decode cX7_judge 29 = .ok (.iload_n 3, 1) := by decide +kernel
theorem dX7_judge_30 : decode cX7_judge 30 = .ok (.invokevirtual 156, 3) := by decide +kernel
theorem dX7_judge_33 : decode cX7_judge 33 = .ok (.ifCond .eq 28, 3) := by decide +kernel
theorem dX7_judge_36 : decode cX7_judge 36 = .ok (.aload_n 0, 1) := by decide +kernel
theorem dX7_judge_37 : decode cX7_judge 37 = .ok (.iload_n 3, 1) := by decide +kernel
theorem dX7_judge_38 : decode cX7_judge 38 = .ok (.invokevirtual 163, 3) := by decide +kernel
theorem dX7_judge_41 : decode cX7_judge 41 = .ok (.aload_n 0, 1) := by decide +kernel
theorem dX7_judge_42 : decode cX7_judge 42 = .ok (.getfield 46, 3) := by decide +kernel
theorem dX7_judge_45 : decode cX7_judge 45 = .ok (.bipush 24, 2) := by decide +kernel
theorem dX7_judge_47 : decode cX7_judge 47 = .ok (.iload_n 1, 1) := by decide +kernel
theorem dX7_judge_48 : decode cX7_judge 48 = .ok (.imul, 1) := by decide +kernel
theorem dX7_judge_49 : decode cX7_judge 49 = .ok (.iload_n 3, 1) := by decide +kernel
theorem dX7_judge_50 : decode cX7_judge 50 = .ok (.iadd, 1) := by decide +kernel
theorem dX7_judge_51 : decode cX7_judge 51 = .ok (.iaload, 1) := by decide +kernel
theorem dX7_judge_52 : decode cX7_judge 52 = .ok (.if_icmp .ne 9, 3) := by decide +kernel
theorem dX7_judge_55 : decode cX7_judge 55 = .ok (.iinc 3 1, 3) := by decide +kernel
theorem dX7_judge_58 : decode cX7_judge 58 = .ok (.goto (-40), 3) := by decide +kernel
theorem dX7_judge_61 : decode cX7_judge 61 = .ok (.iload_n 3, 1) := by decide +kernel
theorem dX7_judge_62 : decode cX7_judge 62 = .ok (.ireturn, 1) := by decide +kernel
theorem dX7_image_0 : decode cX7_image 0 = .ok (.aload_n 0, 1) := by decide +kernel
theorem dX7_image_1 : decode cX7_image 1 = .ok (.getfield 7, 3) := by decide +kernel
theorem dX7_image_4 : decode cX7_image 4 = .ok (.aload_n 0, 1) := by decide +kernel
theorem dX7_image_5 : decode cX7_image 5 = .ok (.getfield 13, 3) := by decide +kernel
theorem dX7_image_8 : decode cX7_image 8 = .ok (.invokestatic 272, 3) := by decide +kernel
theorem dX7_image_11 : decode cX7_image 11 = .ok (.aload_n 0, 1) := by decide +kernel
theorem dX7_image_12 : decode cX7_image 12 = .ok (.dup, 1) := by decide +kernel
theorem dX7_image_13 : decode cX7_image 13 = .ok (.getfield 276, 3) := by decide +kernel
theorem dX7_image_16 : decode cX7_image 16 = .ok (.iconst 1, 1) := by decide +kernel
theorem dX7_image_17 : decode cX7_image 17 = .ok (.iadd, 1) := by decide +kernel
theorem dX7_image_18 : decode cX7_image 18 = .ok (.putfield 276, 3) := by decide +kernel
theorem dX7_image_21 : decode cX7_image 21 = .ok (.aload_n 0, 1) := by decide +kernel
theorem dX7_image_22 : decode cX7_image 22 = .ok (.getfield 276, 3) := by decide +kernel
theorem dX7_image_25 : decode cX7_image 25 = .ok (.ireturn, 1) := by decide +kernel
theorem dX7_restore_0 : decode cX7_restore 0 = .ok (.aload_n 0, 1) := by decide +kernel
theorem dX7_restore_1 : decode cX7_restore 1 = .ok (.getfield 276, 3) := by decide +kernel
theorem dX7_restore_4 : decode cX7_restore 4 = .ok (.ifCond .ne 9, 3) := by decide +kernel
theorem dX7_restore_7 : decode cX7_restore 7 = .ok (.aload_n 0, 1) := by decide +kernel
theorem dX7_restore_8 : decode cX7_restore 8 = .ok (.iconst 2, 1) := by decide +kernel
theorem dX7_restore_9 : decode cX7_restore 9 = .ok (.invokevirtual 65, 3) := by decide +kernel
theorem dX7_restore_12 : decode cX7_restore 12 = .ok (.ireturn, 1) := by decide +kernel
theorem dX7_restore_13 : decode cX7_restore 13 = .ok (.aload_n 0, 1) := by decide +kernel
theorem dX7_restore_14 : decode cX7_restore 14 = .ok (.getfield 13, 3) := by decide +kernel
theorem dX7_restore_17 : decode cX7_restore 17 = .ok (.aload_n 0, 1) := by decide +kernel
theorem dX7_restore_18 : decode cX7_restore 18 = .ok (.getfield 7, 3) := by decide +kernel
theorem dX7_restore_21 : decode cX7_restore 21 = .ok (.invokestatic 272, 3) := by decide +kernel
theorem dX7_restore_24 : decode cX7_restore 24 = .ok (.aload_n 0, 1) := by decide +kernel
theorem dX7_restore_25 : decode cX7_restore 25 = .ok (.getfield 7, 3) := by decide +kernel
theorem dX7_restore_28 : decode cX7_restore 28 = .ok (.iconst 0, 1) := by decide +kernel
theorem dX7_restore_29 : decode cX7_restore 29 = .ok (.iaload, 1) := by decide +kernel
theorem dX7_restore_30 : decode cX7_restore 30 = .ok (.ireturn, 1) := by decide +kernel
theorem dX7_tell_0 : decode cX7_tell 0 = .ok (.aload_n 0, 1) := by decide +kernel
theorem dX7_tell_1 : decode cX7_tell 1 = .ok (.getfield 7, 3) := by decide +kernel
theorem dX7_tell_4 : decode cX7_tell 4 = .ok (.iconst 3, 1) := by decide +kernel
theorem dX7_tell_5 : decode cX7_tell 5 = .ok (.iaload, 1) := by decide +kernel
theorem dX7_tell_6 : decode cX7_tell 6 = .ok (.bipush 24, 2) := by decide +kernel
theorem dX7_tell_8 : decode cX7_tell 8 = .ok (.if_icmp .ne 9, 3) := by decide +kernel
theorem dX7_tell_11 : decode cX7_tell 11 = .ok (.aload_n 0, 1) := by decide +kernel
theorem dX7_tell_12 : decode cX7_tell 12 = .ok (.iconst 4, 1) := by decide +kernel
theorem dX7_tell_13 : decode cX7_tell 13 = .ok (.invokevirtual 65, 3) := by decide +kernel
theorem dX7_tell_16 : decode cX7_tell 16 = .ok (.ireturn, 1) := by decide +kernel
theorem dX7_tell_17 : decode cX7_tell 17 = .ok (.aload_n 0, 1) := by decide +kernel
theorem dX7_tell_18 : decode cX7_tell 18 = .ok (.getfield 7, 3) := by decide +kernel
theorem dX7_tell_21 : decode cX7_tell 21 = .ok (.sipush 452, 3) := by decide +kernel
theorem dX7_tell_24 : decode cX7_tell 24 = .ok (.aload_n 0, 1) := by decide +kernel
theorem dX7_tell_25 : decode cX7_tell 25 = .ok (.getfield 7, 3) := by decide +kernel
theorem dX7_tell_28 : decode cX7_tell 28 = .ok (.iconst 3, 1) := by decide +kernel
theorem dX7_tell_29 : decode cX7_tell 29 = .ok (.iaload, 1) := by decide +kernel
theorem dX7_tell_30 : decode cX7_tell 30 = .ok (.iadd, 1) := by decide +kernel
theorem dX7_tell_31 : decode cX7_tell 31 = .ok (.iload_n 1, 1) := by decide +kernel
theorem dX7_tell_32 : decode cX7_tell 32 = .ok (.iastore, 1) := by decide +kernel
theorem dX7_tell_33 : decode cX7_tell 33 = .ok (.aload_n 0, 1) := by decide +kernel
theorem dX7_tell_34 : decode cX7_tell 34 = .ok (.getfield 7, 3) := by decide +kernel
theorem dX7_tell_37 : decode cX7_tell 37 = .ok (.iconst 3, 1) := by decide +kernel
theorem dX7_tell_38 : decode cX7_tell 38 = .ok (.dup2, 1) := by decide +kernel
theorem dX7_tell_39 : decode cX7_tell 39 = .ok (.iaload, 1) := by decide +kernel
theorem dX7_tell_40 : decode cX7_tell 40 = .ok (.iconst 1, 1) := by decide +kernel
theorem dX7_tell_41 : decode cX7_tell 41 = .ok (.iadd, 1) := by decide +kernel
theorem dX7_tell_42 : decode cX7_tell 42 = .ok (.iastore, 1) := by decide +kernel
theorem dX7_tell_43 : decode cX7_tell 43 = .ok (.aload_n 0, 1) := by decide +kernel
theorem dX7_tell_44 : decode cX7_tell 44 = .ok (.getfield 7, 3) := by decide +kernel
theorem dX7_tell_47 : decode cX7_tell 47 = .ok (.iconst 3, 1) := by decide +kernel
theorem dX7_tell_48 : decode cX7_tell 48 = .ok (.iaload, 1) := by decide +kernel
theorem dX7_tell_49 : decode cX7_tell 49 = .ok (.ireturn, 1) := by decide +kernel
theorem dX7_check_0 : decode cX7_check 0 = .ok (.aload_n 0, 1) := by decide +kernel
theorem dX7_check_1 : decode cX7_check 1 = .ok (.getfield 7, 3) := by decide +kernel
theorem dX7_check_4 : decode cX7_check 4 = .ok (.iconst 3, 1) := by decide +kernel
theorem dX7_check_5 : decode cX7_check 5 = .ok (.iaload, 1) := by decide +kernel
theorem dX7_check_6 : decode cX7_check 6 = .ok (.istore_n 1, 1) := by decide +kernel
theorem dX7_check_7 : decode cX7_check 7 = .ok (.aload_n 0, 1) := by decide +kernel
theorem dX7_check_8 : decode cX7_check 8 = .ok (.getfield 7, 3) := by decide +kernel
theorem dX7_check_11 : decode cX7_check 11 = .ok (.iconst 3, 1) := by decide +kernel
theorem dX7_check_12 : decode cX7_check 12 = .ok (.iconst 0, 1) := by decide +kernel
theorem dX7_check_13 : decode cX7_check 13 = .ok (.iastore, 1) := by decide +kernel
theorem dX7_check_14 : decode cX7_check 14 = .ok (.iconst 0, 1) := by decide +kernel
theorem dX7_check_15 : decode cX7_check 15 = .ok (.istore_n 2, 1) := by decide +kernel
theorem dX7_check_16 : decode cX7_check 16 = .ok (.iload_n 2, 1) := by decide +kernel
theorem dX7_check_17 : decode cX7_check 17 = .ok (.iload_n 1, 1) := by decide +kernel
theorem dX7_check_18 : decode cX7_check 18 = .ok (.if_icmp .ge 39, 3) := by decide +kernel
theorem dX7_check_21 : decode cX7_check 21 = .ok (.aload_n 0, 1) := by decide +kernel
theorem dX7_check_22 : decode cX7_check 22 = .ok (.iload_n 2, 1) := by decide +kernel
theorem dX7_check_23 : decode cX7_check 23 = .ok (.invokevirtual 156, 3) := by decide +kernel
theorem dX7_check_26 : decode cX7_check 26 = .ok (.ifCond .eq 21, 3) := by decide +kernel
theorem dX7_check_29 : decode cX7_check 29 = .ok (.aload_n 0, 1) := by decide +kernel
theorem dX7_check_30 : decode cX7_check 30 = .ok (.getfield 7, 3) := by decide +kernel
theorem dX7_check_33 : decode cX7_check 33 = .ok (.sipush 452, 3) := by decide +kernel
theorem dX7_check_36 : decode cX7_check 36 = .ok (.iload_n 2, 1) := by decide +kernel
theorem dX7_check_37 : decode cX7_check 37 = .ok (.iadd, 1) := by decide +kernel
theorem dX7_check_38 : decode cX7_check 38 = .ok (.iaload, 1) := by decide +kernel
theorem dX7_check_39 : decode cX7_check 39 = .ok (.aload_n 0, 1) := by decide +kernel
theorem dX7_check_40 : decode cX7_check 40 = .ok (.iload_n 2, 1) := by decide +kernel
theorem dX7_check_41 : decode cX7_check 41 = .ok (.invokevirtual 166, 3) := by decide +kernel
theorem dX7_check_44 : decode cX7_check 44 = .ok (.if_icmp .eq 7, 3) := by decide +kernel
theorem dX7_check_47 : decode cX7_check 47 = .ok (.iconst 1, 1) := by decide +kernel
theorem dX7_check_48 : decode cX7_check 48 = .ok (.iload_n 2, 1) := by decide +kernel
theorem dX7_check_49 : decode cX7_check 49 = .ok (.iadd, 1) := by decide +kernel
theorem dX7_check_50 : decode cX7_check 50 = .ok (.ireturn, 1) := by decide +kernel
theorem dX7_check_51 : decode cX7_check 51 = .ok (.iinc 2 1, 3) := by decide +kernel
theorem dX7_check_54 : decode cX7_check 54 = .ok (.goto (-38), 3) := by decide +kernel
theorem dX7_check_57 : decode cX7_check 57 = .ok (.iconst 0, 1) := by decide +kernel
theorem dX7_check_58 : decode cX7_check 58 = .ok (.ireturn, 1) := by decide +kernel
theorem dX7_count_0 : decode cX7_count 0 = .ok (.iload_n 1, 1) := by decide +kernel
theorem dX7_count_1 : decode cX7_count 1 = .ok (.tableswitch 79 0 5 #[39, 46, 53, 60, 67, 72], 39) := by decide +kernel
theorem dX7_count_40 : decode cX7_count 40 = .ok (.aload_n 0, 1) := by decide +kernel
theorem dX7_count_41 : decode cX7_count 41 = .ok (.getfield 7, 3) := by decide +kernel
theorem dX7_count_44 : decode cX7_count 44 = .ok (.iconst 4, 1) := by decide +kernel
theorem dX7_count_45 : decode cX7_count 45 = .ok (.iaload, 1) := by decide +kernel
theorem dX7_count_46 : decode cX7_count 46 = .ok (.ireturn, 1) := by decide +kernel
theorem dX7_count_47 : decode cX7_count 47 = .ok (.aload_n 0, 1) := by decide +kernel
theorem dX7_count_48 : decode cX7_count 48 = .ok (.getfield 7, 3) := by decide +kernel
theorem dX7_count_51 : decode cX7_count 51 = .ok (.iconst 0, 1) := by decide +kernel
theorem dX7_count_52 : decode cX7_count 52 = .ok (.iaload, 1) := by decide +kernel
theorem dX7_count_53 : decode cX7_count 53 = .ok (.ireturn, 1) := by decide +kernel
theorem dX7_count_54 : decode cX7_count 54 = .ok (.aload_n 0, 1) := by decide +kernel
theorem dX7_count_55 : decode cX7_count 55 = .ok (.getfield 7, 3) := by decide +kernel
theorem dX7_count_58 : decode cX7_count 58 = .ok (.iconst 2, 1) := by decide +kernel
theorem dX7_count_59 : decode cX7_count 59 = .ok (.iaload, 1) := by decide +kernel
theorem dX7_count_60 : decode cX7_count 60 = .ok (.ireturn, 1) := by decide +kernel
theorem dX7_count_61 : decode cX7_count 61 = .ok (.aload_n 0, 1) := by decide +kernel
theorem dX7_count_62 : decode cX7_count 62 = .ok (.getfield 7, 3) := by decide +kernel
theorem dX7_count_65 : decode cX7_count 65 = .ok (.iconst 3, 1) := by decide +kernel
theorem dX7_count_66 : decode cX7_count 66 = .ok (.iaload, 1) := by decide +kernel
theorem dX7_count_67 : decode cX7_count 67 = .ok (.ireturn, 1) := by decide +kernel
theorem dX7_count_68 : decode cX7_count 68 = .ok (.aload_n 0, 1) := by decide +kernel
theorem dX7_count_69 : decode cX7_count 69 = .ok (.getfield 237, 3) := by decide +kernel
theorem dX7_count_72 : decode cX7_count 72 = .ok (.ireturn, 1) := by decide +kernel
theorem dX7_count_73 : decode cX7_count 73 = .ok (.aload_n 0, 1) := by decide +kernel
theorem dX7_count_74 : decode cX7_count 74 = .ok (.getfield 7, 3) := by decide +kernel
theorem dX7_count_77 : decode cX7_count 77 = .ok (.iconst 1, 1) := by decide +kernel
theorem dX7_count_78 : decode cX7_count 78 = .ok (.iaload, 1) := by decide +kernel
theorem dX7_count_79 : decode cX7_count 79 = .ok (.ireturn, 1) := by decide +kernel
theorem dX7_count_80 : decode cX7_count 80 = .ok (.aload_n 0, 1) := by decide +kernel
theorem dX7_count_81 : decode cX7_count 81 = .ok (.iconst 1, 1) := by decide +kernel
theorem dX7_count_82 : decode cX7_count 82 = .ok (.invokevirtual 65, 3) := by decide +kernel
theorem dX7_count_85 : decode cX7_count 85 = .ok (.ireturn, 1) := by decide +kernel
theorem dX7_told_0 : decode cX7_told 0 = .ok (.iload_n 1, 1) := by decide +kernel
theorem dX7_told_1 : decode cX7_told 1 = .ok (.iconst 1, 1) := by decide +kernel
theorem dX7_told_2 : decode cX7_told 2 = .ok (.bipush 6, 2) := by decide +kernel
theorem dX7_told_4 : decode cX7_told 4 = .ok (.invokestatic 53, 3) := by decide +kernel
theorem dX7_told_7 : decode cX7_told 7 = .ok (.ifCond .eq 12, 3) := by decide +kernel
theorem dX7_told_10 : decode cX7_told 10 = .ok (.aload_n 0, 1) := by decide +kernel
theorem dX7_told_11 : decode cX7_told 11 = .ok (.getfield 19, 3) := by decide +kernel
theorem dX7_told_14 : decode cX7_told 14 = .ok (.iload_n 1, 1) := by decide +kernel
theorem dX7_told_15 : decode cX7_told 15 = .ok (.iaload, 1) := by decide +kernel
theorem dX7_told_16 : decode cX7_told 16 = .ok (.goto 8, 3) := by decide +kernel
theorem dX7_told_19 : decode cX7_told 19 = .ok (.aload_n 0, 1) := by decide +kernel
theorem dX7_told_20 : decode cX7_told 20 = .ok (.iconst 1, 1) := by decide +kernel
theorem dX7_told_21 : decode cX7_told 21 = .ok (.invokevirtual 65, 3) := by decide +kernel
theorem dX7_told_24 : decode cX7_told 24 = .ok (.ireturn, 1) := by decide +kernel
theorem dL_law_0 : decode cL_law 0 = .ok (.new 7, 3) := by decide +kernel
theorem dL_law_3 : decode cL_law 3 = .ok (.dup, 1) := by decide +kernel
theorem dL_law_4 : decode cL_law 4 = .ok (.invokespecial 9, 3) := by decide +kernel
theorem dL_law_7 : decode cL_law 7 = .ok (.astore_n 1, 1) := by decide +kernel
theorem dL_law_8 : decode cL_law 8 = .ok (.new 10, 3) := by decide +kernel
theorem dL_law_11 : decode cL_law 11 = .ok (.dup, 1) := by decide +kernel
theorem dL_law_12 : decode cL_law 12 = .ok (.invokespecial 12, 3) := by decide +kernel
theorem dL_law_15 : decode cL_law 15 = .ok (.astore_n 2, 1) := by decide +kernel
theorem dL_law_16 : decode cL_law 16 = .ok (.iconst 0, 1) := by decide +kernel
theorem dL_law_17 : decode cL_law 17 = .ok (.istore_n 3, 1) := by decide +kernel
theorem dL_law_18 : decode cL_law 18 = .ok (.iload_n 3, 1) := by decide +kernel
theorem dL_law_19 : decode cL_law 19 = .ok (.aload_n 0, 1) := by decide +kernel
theorem dL_law_20 : decode cL_law 20 = .ok (.arraylength, 1) := by decide +kernel
theorem dL_law_21 : decode cL_law 21 = .ok (.bipush 6, 2) := by decide +kernel
theorem dL_law_23 : decode cL_law 23 = .ok (.isub, 1) := by decide +kernel
theorem dL_law_24 : decode cL_law 24 = .ok (.if_icmp .gt 1490, 3) := by decide +kernel
theorem dL_law_27 : decode cL_law 27 = .ok (.aload_n 0, 1) := by decide +kernel
theorem dL_law_28 : decode cL_law 28 = .ok (.iload_n 3, 1) := by decide +kernel
theorem dL_law_29 : decode cL_law 29 = .ok (.iaload, 1) := by decide +kernel
theorem dL_law_30 : decode cL_law 30 = .ok (.bipush 63, 2) := by decide +kernel
theorem dL_law_32 : decode cL_law 32 = .ok (.iand, 1) := by decide +kernel
theorem dL_law_33 : decode cL_law 33 = .ok (.tableswitch 1475 0 39 #[175, 198, 241, 274, 307, 340, 373, 416, 449, 502, 555, 588, 651, 674, 697, 750, 773, 796, 819, 842, 885, 918, 951, 974, 1007, 1030, 1063, 1096, 1139, 1162, 1205, 1248, 1311, 1344, 1367, 1380, 1393, 1416, 1429, 1452], 175) := by decide +kernel
theorem dL_law_208 : decode cL_law 208 = .ok (.aload_n 1, 1) := by decide +kernel
theorem dL_law_209 : decode cL_law 209 = .ok (.aload_n 0, 1) := by decide +kernel
theorem dL_law_210 : decode cL_law 210 = .ok (.iload_n 3, 1) := by decide +kernel
theorem dL_law_211 : decode cL_law 211 = .ok (.iconst 1, 1) := by decide +kernel
theorem dL_law_212 : decode cL_law 212 = .ok (.iadd, 1) := by decide +kernel
theorem dL_law_213 : decode cL_law 213 = .ok (.iaload, 1) := by decide +kernel
theorem dL_law_214 : decode cL_law 214 = .ok (.invokevirtual 13, 3) := by decide +kernel
theorem dL_law_217 : decode cL_law 217 = .ok (.aload_n 2, 1) := by decide +kernel
theorem dL_law_218 : decode cL_law 218 = .ok (.aload_n 0, 1) := by decide +kernel
theorem dL_law_219 : decode cL_law 219 = .ok (.iload_n 3, 1) := by decide +kernel
theorem dL_law_220 : decode cL_law 220 = .ok (.iconst 1, 1) := by decide +kernel
theorem dL_law_221 : decode cL_law 221 = .ok (.iadd, 1) := by decide +kernel
theorem dL_law_222 : decode cL_law 222 = .ok (.iaload, 1) := by decide +kernel
theorem dL_law_223 : decode cL_law 223 = .ok (.invokevirtual 17, 3) := by decide +kernel
theorem dL_law_226 : decode cL_law 226 = .ok (.if_icmp .eq 1282, 3) := by decide +kernel
theorem dL_law_229 : decode cL_law 229 = .ok (.iconst 0, 1) := by decide +kernel
theorem dL_law_230 : decode cL_law 230 = .ok (.ireturn, 1) := by decide +kernel
theorem dL_law_231 : decode cL_law 231 = .ok (.aload_n 1, 1) := by decide +kernel
theorem dL_law_232 : decode cL_law 232 = .ok (.aload_n 0, 1) := by decide +kernel
theorem dL_law_233 : decode cL_law 233 = .ok (.iload_n 3, 1) := by decide +kernel
theorem dL_law_234 : decode cL_law 234 = .ok (.iconst 1, 1) := by decide +kernel
theorem dL_law_235 : decode cL_law 235 = .ok (.iadd, 1) := by decide +kernel
theorem dL_law_236 : decode cL_law 236 = .ok (.iaload, 1) := by decide +kernel
theorem dL_law_237 : decode cL_law 237 = .ok (.aload_n 0, 1) := by decide +kernel
theorem dL_law_238 : decode cL_law 238 = .ok (.iload_n 3, 1) := by decide +kernel
theorem dL_law_239 : decode cL_law 239 = .ok (.iconst 2, 1) := by decide +kernel
theorem dL_law_240 : decode cL_law 240 = .ok (.iadd, 1) := by decide +kernel
theorem dL_law_241 : decode cL_law 241 = .ok (.iaload, 1) := by decide +kernel
theorem dL_law_242 : decode cL_law 242 = .ok (.aload_n 0, 1) := by decide +kernel
theorem dL_law_243 : decode cL_law 243 = .ok (.iload_n 3, 1) := by decide +kernel
theorem dL_law_244 : decode cL_law 244 = .ok (.iconst 3, 1) := by decide +kernel
theorem dL_law_245 : decode cL_law 245 = .ok (.iadd, 1) := by decide +kernel
theorem dL_law_246 : decode cL_law 246 = .ok (.iaload, 1) := by decide +kernel
theorem dL_law_247 : decode cL_law 247 = .ok (.invokevirtual 18, 3) := by decide +kernel
theorem dL_law_250 : decode cL_law 250 = .ok (.aload_n 2, 1) := by decide +kernel
theorem dL_law_251 : decode cL_law 251 = .ok (.aload_n 0, 1) := by decide +kernel
theorem dL_law_252 : decode cL_law 252 = .ok (.iload_n 3, 1) := by decide +kernel
theorem dL_law_253 : decode cL_law 253 = .ok (.iconst 1, 1) := by decide +kernel
theorem dL_law_254 : decode cL_law 254 = .ok (.iadd, 1) := by decide +kernel
theorem dL_law_255 : decode cL_law 255 = .ok (.iaload, 1) := by decide +kernel
theorem dL_law_256 : decode cL_law 256 = .ok (.aload_n 0, 1) := by decide +kernel
theorem dL_law_257 : decode cL_law 257 = .ok (.iload_n 3, 1) := by decide +kernel
theorem dL_law_258 : decode cL_law 258 = .ok (.iconst 2, 1) := by decide +kernel
theorem dL_law_259 : decode cL_law 259 = .ok (.iadd, 1) := by decide +kernel
theorem dL_law_260 : decode cL_law 260 = .ok (.iaload, 1) := by decide +kernel
theorem dL_law_261 : decode cL_law 261 = .ok (.aload_n 0, 1) := by decide +kernel
theorem dL_law_262 : decode cL_law 262 = .ok (.iload_n 3, 1) := by decide +kernel
theorem dL_law_263 : decode cL_law 263 = .ok (.iconst 3, 1) := by decide +kernel
theorem dL_law_264 : decode cL_law 264 = .ok (.iadd, 1) := by decide +kernel
theorem dL_law_265 : decode cL_law 265 = .ok (.iaload, 1) := by decide +kernel
theorem dL_law_266 : decode cL_law 266 = .ok (.invokevirtual 22, 3) := by decide +kernel
theorem dL_law_269 : decode cL_law 269 = .ok (.if_icmp .eq 1239, 3) := by decide +kernel
theorem dL_law_272 : decode cL_law 272 = .ok (.iconst 0, 1) := by decide +kernel
theorem dL_law_273 : decode cL_law 273 = .ok (.ireturn, 1) := by decide +kernel
theorem dL_law_274 : decode cL_law 274 = .ok (.aload_n 1, 1) := by decide +kernel
theorem dL_law_275 : decode cL_law 275 = .ok (.aload_n 0, 1) := by decide +kernel
theorem dL_law_276 : decode cL_law 276 = .ok (.iload_n 3, 1) := by decide +kernel
theorem dL_law_277 : decode cL_law 277 = .ok (.iconst 1, 1) := by decide +kernel
theorem dL_law_278 : decode cL_law 278 = .ok (.iadd, 1) := by decide +kernel
theorem dL_law_279 : decode cL_law 279 = .ok (.iaload, 1) := by decide +kernel
theorem dL_law_280 : decode cL_law 280 = .ok (.aload_n 0, 1) := by decide +kernel
theorem dL_law_281 : decode cL_law 281 = .ok (.iload_n 3, 1) := by decide +kernel
theorem dL_law_282 : decode cL_law 282 = .ok (.iconst 2, 1) := by decide +kernel
theorem dL_law_283 : decode cL_law 283 = .ok (.iadd, 1) := by decide +kernel
theorem dL_law_284 : decode cL_law 284 = .ok (.iaload, 1) := by decide +kernel
theorem dL_law_285 : decode cL_law 285 = .ok (.invokevirtual 23, 3) := by decide +kernel
theorem dL_law_288 : decode cL_law 288 = .ok (.aload_n 2, 1) := by decide +kernel
theorem dL_law_289 : decode cL_law 289 = .ok (.aload_n 0, 1) := by decide +kernel
theorem dL_law_290 : decode cL_law 290 = .ok (.iload_n 3, 1) := by decide +kernel
theorem dL_law_291 : decode cL_law 291 = .ok (.iconst 1, 1) := by decide +kernel
theorem dL_law_292 : decode cL_law 292 = .ok (.iadd, 1) := by decide +kernel
theorem dL_law_293 : decode cL_law 293 = .ok (.iaload, 1) := by decide +kernel
theorem dL_law_294 : decode cL_law 294 = .ok (.aload_n 0, 1) := by decide +kernel
theorem dL_law_295 : decode cL_law 295 = .ok (.iload_n 3, 1) := by decide +kernel
theorem dL_law_296 : decode cL_law 296 = .ok (.iconst 2, 1) := by decide +kernel
theorem dL_law_297 : decode cL_law 297 = .ok (.iadd, 1) := by decide +kernel
theorem dL_law_298 : decode cL_law 298 = .ok (.iaload, 1) := by decide +kernel
theorem dL_law_299 : decode cL_law 299 = .ok (.invokevirtual 27, 3) := by decide +kernel
theorem dL_law_302 : decode cL_law 302 = .ok (.if_icmp .eq 1206, 3) := by decide +kernel
theorem dL_law_305 : decode cL_law 305 = .ok (.iconst 0, 1) := by decide +kernel
theorem dL_law_306 : decode cL_law 306 = .ok (.ireturn, 1) := by decide +kernel
theorem dL_law_307 : decode cL_law 307 = .ok (.aload_n 1, 1) := by decide +kernel
theorem dL_law_308 : decode cL_law 308 = .ok (.aload_n 0, 1) := by decide +kernel
theorem dL_law_309 : decode cL_law 309 = .ok (.iload_n 3, 1) := by decide +kernel
theorem dL_law_310 : decode cL_law 310 = .ok (.iconst 1, 1) := by decide +kernel
theorem dL_law_311 : decode cL_law 311 = .ok (.iadd, 1) := by decide +kernel
theorem dL_law_312 : decode cL_law 312 = .ok (.iaload, 1) := by decide +kernel
theorem dL_law_313 : decode cL_law 313 = .ok (.aload_n 0, 1) := by decide +kernel
theorem dL_law_314 : decode cL_law 314 = .ok (.iload_n 3, 1) := by decide +kernel
theorem dL_law_315 : decode cL_law 315 = .ok (.iconst 2, 1) := by decide +kernel
theorem dL_law_316 : decode cL_law 316 = .ok (.iadd, 1) := by decide +kernel
theorem dL_law_317 : decode cL_law 317 = .ok (.iaload, 1) := by decide +kernel
theorem dL_law_318 : decode cL_law 318 = .ok (.invokevirtual 28, 3) := by decide +kernel
theorem dL_law_321 : decode cL_law 321 = .ok (.aload_n 2, 1) := by decide +kernel
theorem dL_law_322 : decode cL_law 322 = .ok (.aload_n 0, 1) := by decide +kernel
theorem dL_law_323 : decode cL_law 323 = .ok (.iload_n 3, 1) := by decide +kernel
theorem dL_law_324 : decode cL_law 324 = .ok (.iconst 1, 1) := by decide +kernel
theorem dL_law_325 : decode cL_law 325 = .ok (.iadd, 1) := by decide +kernel
theorem dL_law_326 : decode cL_law 326 = .ok (.iaload, 1) := by decide +kernel
theorem dL_law_327 : decode cL_law 327 = .ok (.aload_n 0, 1) := by decide +kernel
theorem dL_law_328 : decode cL_law 328 = .ok (.iload_n 3, 1) := by decide +kernel
theorem dL_law_329 : decode cL_law 329 = .ok (.iconst 2, 1) := by decide +kernel
theorem dL_law_330 : decode cL_law 330 = .ok (.iadd, 1) := by decide +kernel
theorem dL_law_331 : decode cL_law 331 = .ok (.iaload, 1) := by decide +kernel
theorem dL_law_332 : decode cL_law 332 = .ok (.invokevirtual 31, 3) := by decide +kernel
theorem dL_law_335 : decode cL_law 335 = .ok (.if_icmp .eq 1173, 3) := by decide +kernel
theorem dL_law_338 : decode cL_law 338 = .ok (.iconst 0, 1) := by decide +kernel
theorem dL_law_339 : decode cL_law 339 = .ok (.ireturn, 1) := by decide +kernel
theorem dL_law_340 : decode cL_law 340 = .ok (.aload_n 1, 1) := by decide +kernel
theorem dL_law_341 : decode cL_law 341 = .ok (.aload_n 0, 1) := by decide +kernel
theorem dL_law_342 : decode cL_law 342 = .ok (.iload_n 3, 1) := by decide +kernel
theorem dL_law_343 : decode cL_law 343 = .ok (.iconst 1, 1) := by decide +kernel
theorem dL_law_344 : decode cL_law 344 = .ok (.iadd, 1) := by decide +kernel
theorem dL_law_345 : decode cL_law 345 = .ok (.iaload, 1) := by decide +kernel
theorem dL_law_346 : decode cL_law 346 = .ok (.aload_n 0, 1) := by decide +kernel
theorem dL_law_347 : decode cL_law 347 = .ok (.iload_n 3, 1) := by decide +kernel
theorem dL_law_348 : decode cL_law 348 = .ok (.iconst 2, 1) := by decide +kernel
theorem dL_law_349 : decode cL_law 349 = .ok (.iadd, 1) := by decide +kernel
theorem dL_law_350 : decode cL_law 350 = .ok (.iaload, 1) := by decide +kernel
theorem dL_law_351 : decode cL_law 351 = .ok (.invokevirtual 32, 3) := by decide +kernel
theorem dL_law_354 : decode cL_law 354 = .ok (.aload_n 2, 1) := by decide +kernel
theorem dL_law_355 : decode cL_law 355 = .ok (.aload_n 0, 1) := by decide +kernel
theorem dL_law_356 : decode cL_law 356 = .ok (.iload_n 3, 1) := by decide +kernel
theorem dL_law_357 : decode cL_law 357 = .ok (.iconst 1, 1) := by decide +kernel
theorem dL_law_358 : decode cL_law 358 = .ok (.iadd, 1) := by decide +kernel
theorem dL_law_359 : decode cL_law 359 = .ok (.iaload, 1) := by decide +kernel
theorem dL_law_360 : decode cL_law 360 = .ok (.aload_n 0, 1) := by decide +kernel
theorem dL_law_361 : decode cL_law 361 = .ok (.iload_n 3, 1) := by decide +kernel
theorem dL_law_362 : decode cL_law 362 = .ok (.iconst 2, 1) := by decide +kernel
theorem dL_law_363 : decode cL_law 363 = .ok (.iadd, 1) := by decide +kernel
theorem dL_law_364 : decode cL_law 364 = .ok (.iaload, 1) := by decide +kernel
theorem dL_law_365 : decode cL_law 365 = .ok (.invokevirtual 35, 3) := by decide +kernel
theorem dL_law_368 : decode cL_law 368 = .ok (.if_icmp .eq 1140, 3) := by decide +kernel
theorem dL_law_371 : decode cL_law 371 = .ok (.iconst 0, 1) := by decide +kernel
theorem dL_law_372 : decode cL_law 372 = .ok (.ireturn, 1) := by decide +kernel
theorem dL_law_373 : decode cL_law 373 = .ok (.aload_n 1, 1) := by decide +kernel
theorem dL_law_374 : decode cL_law 374 = .ok (.aload_n 0, 1) := by decide +kernel
theorem dL_law_375 : decode cL_law 375 = .ok (.iload_n 3, 1) := by decide +kernel
theorem dL_law_376 : decode cL_law 376 = .ok (.iconst 1, 1) := by decide +kernel
theorem dL_law_377 : decode cL_law 377 = .ok (.iadd, 1) := by decide +kernel
theorem dL_law_378 : decode cL_law 378 = .ok (.iaload, 1) := by decide +kernel
theorem dL_law_379 : decode cL_law 379 = .ok (.aload_n 0, 1) := by decide +kernel
theorem dL_law_380 : decode cL_law 380 = .ok (.iload_n 3, 1) := by decide +kernel
theorem dL_law_381 : decode cL_law 381 = .ok (.iconst 2, 1) := by decide +kernel
theorem dL_law_382 : decode cL_law 382 = .ok (.iadd, 1) := by decide +kernel
theorem dL_law_383 : decode cL_law 383 = .ok (.iaload, 1) := by decide +kernel
theorem dL_law_384 : decode cL_law 384 = .ok (.invokevirtual 36, 3) := by decide +kernel
theorem dL_law_387 : decode cL_law 387 = .ok (.aload_n 2, 1) := by decide +kernel
theorem dL_law_388 : decode cL_law 388 = .ok (.aload_n 0, 1) := by decide +kernel
theorem dL_law_389 : decode cL_law 389 = .ok (.iload_n 3, 1) := by decide +kernel
theorem dL_law_390 : decode cL_law 390 = .ok (.iconst 1, 1) := by decide +kernel
theorem dL_law_391 : decode cL_law 391 = .ok (.iadd, 1) := by decide +kernel
theorem dL_law_392 : decode cL_law 392 = .ok (.iaload, 1) := by decide +kernel
theorem dL_law_393 : decode cL_law 393 = .ok (.aload_n 0, 1) := by decide +kernel
theorem dL_law_394 : decode cL_law 394 = .ok (.iload_n 3, 1) := by decide +kernel
theorem dL_law_395 : decode cL_law 395 = .ok (.iconst 2, 1) := by decide +kernel
theorem dL_law_396 : decode cL_law 396 = .ok (.iadd, 1) := by decide +kernel
theorem dL_law_397 : decode cL_law 397 = .ok (.iaload, 1) := by decide +kernel
theorem dL_law_398 : decode cL_law 398 = .ok (.invokevirtual 39, 3) := by decide +kernel
theorem dL_law_401 : decode cL_law 401 = .ok (.if_icmp .eq 1107, 3) := by decide +kernel
theorem dL_law_404 : decode cL_law 404 = .ok (.iconst 0, 1) := by decide +kernel
theorem dL_law_405 : decode cL_law 405 = .ok (.ireturn, 1) := by decide +kernel
theorem dL_law_406 : decode cL_law 406 = .ok (.aload_n 1, 1) := by decide +kernel
theorem dL_law_407 : decode cL_law 407 = .ok (.aload_n 0, 1) := by decide +kernel
theorem dL_law_408 : decode cL_law 408 = .ok (.iload_n 3, 1) := by decide +kernel
theorem dL_law_409 : decode cL_law 409 = .ok (.iconst 1, 1) := by decide +kernel
theorem dL_law_410 : decode cL_law 410 = .ok (.iadd, 1) := by decide +kernel
theorem dL_law_411 : decode cL_law 411 = .ok (.iaload, 1) := by decide +kernel
theorem dL_law_412 : decode cL_law 412 = .ok (.aload_n 0, 1) := by decide +kernel
theorem dL_law_413 : decode cL_law 413 = .ok (.iload_n 3, 1) := by decide +kernel
theorem dL_law_414 : decode cL_law 414 = .ok (.iconst 2, 1) := by decide +kernel
theorem dL_law_415 : decode cL_law 415 = .ok (.iadd, 1) := by decide +kernel
theorem dL_law_416 : decode cL_law 416 = .ok (.iaload, 1) := by decide +kernel
theorem dL_law_417 : decode cL_law 417 = .ok (.aload_n 0, 1) := by decide +kernel
theorem dL_law_418 : decode cL_law 418 = .ok (.iload_n 3, 1) := by decide +kernel
theorem dL_law_419 : decode cL_law 419 = .ok (.iconst 3, 1) := by decide +kernel
theorem dL_law_420 : decode cL_law 420 = .ok (.iadd, 1) := by decide +kernel
theorem dL_law_421 : decode cL_law 421 = .ok (.iaload, 1) := by decide +kernel
theorem dL_law_422 : decode cL_law 422 = .ok (.invokevirtual 40, 3) := by decide +kernel
theorem dL_law_425 : decode cL_law 425 = .ok (.aload_n 2, 1) := by decide +kernel
theorem dL_law_426 : decode cL_law 426 = .ok (.aload_n 0, 1) := by decide +kernel
theorem dL_law_427 : decode cL_law 427 = .ok (.iload_n 3, 1) := by decide +kernel
theorem dL_law_428 : decode cL_law 428 = .ok (.iconst 1, 1) := by decide +kernel
theorem dL_law_429 : decode cL_law 429 = .ok (.iadd, 1) := by decide +kernel
theorem dL_law_430 : decode cL_law 430 = .ok (.iaload, 1) := by decide +kernel
theorem dL_law_431 : decode cL_law 431 = .ok (.aload_n 0, 1) := by decide +kernel
theorem dL_law_432 : decode cL_law 432 = .ok (.iload_n 3, 1) := by decide +kernel
theorem dL_law_433 : decode cL_law 433 = .ok (.iconst 2, 1) := by decide +kernel
theorem dL_law_434 : decode cL_law 434 = .ok (.iadd, 1) := by decide +kernel
theorem dL_law_435 : decode cL_law 435 = .ok (.iaload, 1) := by decide +kernel
theorem dL_law_436 : decode cL_law 436 = .ok (.aload_n 0, 1) := by decide +kernel
theorem dL_law_437 : decode cL_law 437 = .ok (.iload_n 3, 1) := by decide +kernel
theorem dL_law_438 : decode cL_law 438 = .ok (.iconst 3, 1) := by decide +kernel
theorem dL_law_439 : decode cL_law 439 = .ok (.iadd, 1) := by decide +kernel
theorem dL_law_440 : decode cL_law 440 = .ok (.iaload, 1) := by decide +kernel
theorem dL_law_441 : decode cL_law 441 = .ok (.invokevirtual 43, 3) := by decide +kernel
theorem dL_law_444 : decode cL_law 444 = .ok (.if_icmp .eq 1064, 3) := by decide +kernel
theorem dL_law_447 : decode cL_law 447 = .ok (.iconst 0, 1) := by decide +kernel
theorem dL_law_448 : decode cL_law 448 = .ok (.ireturn, 1) := by decide +kernel
theorem dL_law_449 : decode cL_law 449 = .ok (.aload_n 1, 1) := by decide +kernel
theorem dL_law_450 : decode cL_law 450 = .ok (.aload_n 0, 1) := by decide +kernel
theorem dL_law_451 : decode cL_law 451 = .ok (.iload_n 3, 1) := by decide +kernel
theorem dL_law_452 : decode cL_law 452 = .ok (.iconst 1, 1) := by decide +kernel
theorem dL_law_453 : decode cL_law 453 = .ok (.iadd, 1) := by decide +kernel
theorem dL_law_454 : decode cL_law 454 = .ok (.iaload, 1) := by decide +kernel
theorem dL_law_455 : decode cL_law 455 = .ok (.aload_n 0, 1) := by decide +kernel
theorem dL_law_456 : decode cL_law 456 = .ok (.iload_n 3, 1) := by decide +kernel
theorem dL_law_457 : decode cL_law 457 = .ok (.iconst 2, 1) := by decide +kernel
theorem dL_law_458 : decode cL_law 458 = .ok (.iadd, 1) := by decide +kernel
theorem dL_law_459 : decode cL_law 459 = .ok (.iaload, 1) := by decide +kernel
theorem dL_law_460 : decode cL_law 460 = .ok (.invokevirtual 44, 3) := by decide +kernel
theorem dL_law_463 : decode cL_law 463 = .ok (.aload_n 2, 1) := by decide +kernel
theorem dL_law_464 : decode cL_law 464 = .ok (.aload_n 0, 1) := by decide +kernel
theorem dL_law_465 : decode cL_law 465 = .ok (.iload_n 3, 1) := by decide +kernel
theorem dL_law_466 : decode cL_law 466 = .ok (.iconst 1, 1) := by decide +kernel
theorem dL_law_467 : decode cL_law 467 = .ok (.iadd, 1) := by decide +kernel
theorem dL_law_468 : decode cL_law 468 = .ok (.iaload, 1) := by decide +kernel
theorem dL_law_469 : decode cL_law 469 = .ok (.aload_n 0, 1) := by decide +kernel
theorem dL_law_470 : decode cL_law 470 = .ok (.iload_n 3, 1) := by decide +kernel
theorem dL_law_471 : decode cL_law 471 = .ok (.iconst 2, 1) := by decide +kernel
theorem dL_law_472 : decode cL_law 472 = .ok (.iadd, 1) := by decide +kernel
theorem dL_law_473 : decode cL_law 473 = .ok (.iaload, 1) := by decide +kernel
theorem dL_law_474 : decode cL_law 474 = .ok (.invokevirtual 47, 3) := by decide +kernel
theorem dL_law_477 : decode cL_law 477 = .ok (.if_icmp .eq 1031, 3) := by decide +kernel
theorem dL_law_480 : decode cL_law 480 = .ok (.iconst 0, 1) := by decide +kernel
theorem dL_law_481 : decode cL_law 481 = .ok (.ireturn, 1) := by decide +kernel
theorem dL_law_482 : decode cL_law 482 = .ok (.aload_n 1, 1) := by decide +kernel
theorem dL_law_483 : decode cL_law 483 = .ok (.aload_n 0, 1) := by decide +kernel
theorem dL_law_484 : decode cL_law 484 = .ok (.iload_n 3, 1) := by decide +kernel
theorem dL_law_485 : decode cL_law 485 = .ok (.iconst 1, 1) := by decide +kernel
theorem dL_law_486 : decode cL_law 486 = .ok (.iadd, 1) := by decide +kernel
theorem dL_law_487 : decode cL_law 487 = .ok (.iaload, 1) := by decide +kernel
theorem dL_law_488 : decode cL_law 488 = .ok (.aload_n 0, 1) := by decide +kernel
theorem dL_law_489 : decode cL_law 489 = .ok (.iload_n 3, 1) := by decide +kernel
theorem dL_law_490 : decode cL_law 490 = .ok (.iconst 2, 1) := by decide +kernel
theorem dL_law_491 : decode cL_law 491 = .ok (.iadd, 1) := by decide +kernel
theorem dL_law_492 : decode cL_law 492 = .ok (.iaload, 1) := by decide +kernel
theorem dL_law_493 : decode cL_law 493 = .ok (.aload_n 0, 1) := by decide +kernel
theorem dL_law_494 : decode cL_law 494 = .ok (.iload_n 3, 1) := by decide +kernel
theorem dL_law_495 : decode cL_law 495 = .ok (.iconst 3, 1) := by decide +kernel
theorem dL_law_496 : decode cL_law 496 = .ok (.iadd, 1) := by decide +kernel
theorem dL_law_497 : decode cL_law 497 = .ok (.iaload, 1) := by decide +kernel
theorem dL_law_498 : decode cL_law 498 = .ok (.aload_n 0, 1) := by decide +kernel
theorem dL_law_499 : decode cL_law 499 = .ok (.iload_n 3, 1) := by decide +kernel
theorem dL_law_500 : decode cL_law 500 = .ok (.iconst 4, 1) := by decide +kernel
theorem dL_law_501 : decode cL_law 501 = .ok (.iadd, 1) := by decide +kernel
theorem dL_law_502 : decode cL_law 502 = .ok (.iaload, 1) := by decide +kernel
theorem dL_law_503 : decode cL_law 503 = .ok (.invokevirtual 48, 3) := by decide +kernel
theorem dL_law_506 : decode cL_law 506 = .ok (.aload_n 2, 1) := by decide +kernel
theorem dL_law_507 : decode cL_law 507 = .ok (.aload_n 0, 1) := by decide +kernel
theorem dL_law_508 : decode cL_law 508 = .ok (.iload_n 3, 1) := by decide +kernel
theorem dL_law_509 : decode cL_law 509 = .ok (.iconst 1, 1) := by decide +kernel
theorem dL_law_510 : decode cL_law 510 = .ok (.iadd, 1) := by decide +kernel
theorem dL_law_511 : decode cL_law 511 = .ok (.iaload, 1) := by decide +kernel
theorem dL_law_512 : decode cL_law 512 = .ok (.aload_n 0, 1) := by decide +kernel
theorem dL_law_513 : decode cL_law 513 = .ok (.iload_n 3, 1) := by decide +kernel
theorem dL_law_514 : decode cL_law 514 = .ok (.iconst 2, 1) := by decide +kernel
theorem dL_law_515 : decode cL_law 515 = .ok (.iadd, 1) := by decide +kernel
theorem dL_law_516 : decode cL_law 516 = .ok (.iaload, 1) := by decide +kernel
theorem dL_law_517 : decode cL_law 517 = .ok (.aload_n 0, 1) := by decide +kernel
theorem dL_law_518 : decode cL_law 518 = .ok (.iload_n 3, 1) := by decide +kernel
theorem dL_law_519 : decode cL_law 519 = .ok (.iconst 3, 1) := by decide +kernel
theorem dL_law_520 : decode cL_law 520 = .ok (.iadd, 1) := by decide +kernel
theorem dL_law_521 : decode cL_law 521 = .ok (.iaload, 1) := by decide +kernel
theorem dL_law_522 : decode cL_law 522 = .ok (.aload_n 0, 1) := by decide +kernel
theorem dL_law_523 : decode cL_law 523 = .ok (.iload_n 3, 1) := by decide +kernel
theorem dL_law_524 : decode cL_law 524 = .ok (.iconst 4, 1) := by decide +kernel
theorem dL_law_525 : decode cL_law 525 = .ok (.iadd, 1) := by decide +kernel
theorem dL_law_526 : decode cL_law 526 = .ok (.iaload, 1) := by decide +kernel
theorem dL_law_527 : decode cL_law 527 = .ok (.invokevirtual 52, 3) := by decide +kernel
theorem dL_law_530 : decode cL_law 530 = .ok (.if_icmp .eq 978, 3) := by decide +kernel
theorem dL_law_533 : decode cL_law 533 = .ok (.iconst 0, 1) := by decide +kernel
theorem dL_law_534 : decode cL_law 534 = .ok (.ireturn, 1) := by decide +kernel
theorem dL_law_535 : decode cL_law 535 = .ok (.aload_n 1, 1) := by decide +kernel
theorem dL_law_536 : decode cL_law 536 = .ok (.aload_n 0, 1) := by decide +kernel
theorem dL_law_537 : decode cL_law 537 = .ok (.iload_n 3, 1) := by decide +kernel
theorem dL_law_538 : decode cL_law 538 = .ok (.iconst 1, 1) := by decide +kernel
theorem dL_law_539 : decode cL_law 539 = .ok (.iadd, 1) := by decide +kernel
theorem dL_law_540 : decode cL_law 540 = .ok (.iaload, 1) := by decide +kernel
theorem dL_law_541 : decode cL_law 541 = .ok (.aload_n 0, 1) := by decide +kernel
theorem dL_law_542 : decode cL_law 542 = .ok (.iload_n 3, 1) := by decide +kernel
theorem dL_law_543 : decode cL_law 543 = .ok (.iconst 2, 1) := by decide +kernel
theorem dL_law_544 : decode cL_law 544 = .ok (.iadd, 1) := by decide +kernel
theorem dL_law_545 : decode cL_law 545 = .ok (.iaload, 1) := by decide +kernel
theorem dL_law_546 : decode cL_law 546 = .ok (.aload_n 0, 1) := by decide +kernel
theorem dL_law_547 : decode cL_law 547 = .ok (.iload_n 3, 1) := by decide +kernel
theorem dL_law_548 : decode cL_law 548 = .ok (.iconst 3, 1) := by decide +kernel
theorem dL_law_549 : decode cL_law 549 = .ok (.iadd, 1) := by decide +kernel
theorem dL_law_550 : decode cL_law 550 = .ok (.iaload, 1) := by decide +kernel
theorem dL_law_551 : decode cL_law 551 = .ok (.aload_n 0, 1) := by decide +kernel
theorem dL_law_552 : decode cL_law 552 = .ok (.iload_n 3, 1) := by decide +kernel
theorem dL_law_553 : decode cL_law 553 = .ok (.iconst 4, 1) := by decide +kernel
theorem dL_law_554 : decode cL_law 554 = .ok (.iadd, 1) := by decide +kernel
theorem dL_law_555 : decode cL_law 555 = .ok (.iaload, 1) := by decide +kernel
theorem dL_law_556 : decode cL_law 556 = .ok (.invokevirtual 53, 3) := by decide +kernel
theorem dL_law_559 : decode cL_law 559 = .ok (.aload_n 2, 1) := by decide +kernel
theorem dL_law_560 : decode cL_law 560 = .ok (.aload_n 0, 1) := by decide +kernel
theorem dL_law_561 : decode cL_law 561 = .ok (.iload_n 3, 1) := by decide +kernel
theorem dL_law_562 : decode cL_law 562 = .ok (.iconst 1, 1) := by decide +kernel
theorem dL_law_563 : decode cL_law 563 = .ok (.iadd, 1) := by decide +kernel
theorem dL_law_564 : decode cL_law 564 = .ok (.iaload, 1) := by decide +kernel
theorem dL_law_565 : decode cL_law 565 = .ok (.aload_n 0, 1) := by decide +kernel
theorem dL_law_566 : decode cL_law 566 = .ok (.iload_n 3, 1) := by decide +kernel
theorem dL_law_567 : decode cL_law 567 = .ok (.iconst 2, 1) := by decide +kernel
theorem dL_law_568 : decode cL_law 568 = .ok (.iadd, 1) := by decide +kernel
theorem dL_law_569 : decode cL_law 569 = .ok (.iaload, 1) := by decide +kernel
theorem dL_law_570 : decode cL_law 570 = .ok (.aload_n 0, 1) := by decide +kernel
theorem dL_law_571 : decode cL_law 571 = .ok (.iload_n 3, 1) := by decide +kernel
theorem dL_law_572 : decode cL_law 572 = .ok (.iconst 3, 1) := by decide +kernel
theorem dL_law_573 : decode cL_law 573 = .ok (.iadd, 1) := by decide +kernel
theorem dL_law_574 : decode cL_law 574 = .ok (.iaload, 1) := by decide +kernel
theorem dL_law_575 : decode cL_law 575 = .ok (.aload_n 0, 1) := by decide +kernel
theorem dL_law_576 : decode cL_law 576 = .ok (.iload_n 3, 1) := by decide +kernel
theorem dL_law_577 : decode cL_law 577 = .ok (.iconst 4, 1) := by decide +kernel
theorem dL_law_578 : decode cL_law 578 = .ok (.iadd, 1) := by decide +kernel
theorem dL_law_579 : decode cL_law 579 = .ok (.iaload, 1) := by decide +kernel
theorem dL_law_580 : decode cL_law 580 = .ok (.invokevirtual 56, 3) := by decide +kernel
theorem dL_law_583 : decode cL_law 583 = .ok (.if_icmp .eq 925, 3) := by decide +kernel
theorem dL_law_586 : decode cL_law 586 = .ok (.iconst 0, 1) := by decide +kernel
theorem dL_law_587 : decode cL_law 587 = .ok (.ireturn, 1) := by decide +kernel
theorem dL_law_588 : decode cL_law 588 = .ok (.aload_n 1, 1) := by decide +kernel
theorem dL_law_589 : decode cL_law 589 = .ok (.aload_n 0, 1) := by decide +kernel
theorem dL_law_590 : decode cL_law 590 = .ok (.iload_n 3, 1) := by decide +kernel
theorem dL_law_591 : decode cL_law 591 = .ok (.iconst 1, 1) := by decide +kernel
theorem dL_law_592 : decode cL_law 592 = .ok (.iadd, 1) := by decide +kernel
theorem dL_law_593 : decode cL_law 593 = .ok (.iaload, 1) := by decide +kernel
theorem dL_law_594 : decode cL_law 594 = .ok (.aload_n 0, 1) := by decide +kernel
theorem dL_law_595 : decode cL_law 595 = .ok (.iload_n 3, 1) := by decide +kernel
theorem dL_law_596 : decode cL_law 596 = .ok (.iconst 2, 1) := by decide +kernel
theorem dL_law_597 : decode cL_law 597 = .ok (.iadd, 1) := by decide +kernel
theorem dL_law_598 : decode cL_law 598 = .ok (.iaload, 1) := by decide +kernel
theorem dL_law_599 : decode cL_law 599 = .ok (.invokevirtual 57, 3) := by decide +kernel
theorem dL_law_602 : decode cL_law 602 = .ok (.aload_n 2, 1) := by decide +kernel
theorem dL_law_603 : decode cL_law 603 = .ok (.aload_n 0, 1) := by decide +kernel
theorem dL_law_604 : decode cL_law 604 = .ok (.iload_n 3, 1) := by decide +kernel
theorem dL_law_605 : decode cL_law 605 = .ok (.iconst 1, 1) := by decide +kernel
theorem dL_law_606 : decode cL_law 606 = .ok (.iadd, 1) := by decide +kernel
theorem dL_law_607 : decode cL_law 607 = .ok (.iaload, 1) := by decide +kernel
theorem dL_law_608 : decode cL_law 608 = .ok (.aload_n 0, 1) := by decide +kernel
theorem dL_law_609 : decode cL_law 609 = .ok (.iload_n 3, 1) := by decide +kernel
theorem dL_law_610 : decode cL_law 610 = .ok (.iconst 2, 1) := by decide +kernel
theorem dL_law_611 : decode cL_law 611 = .ok (.iadd, 1) := by decide +kernel
theorem dL_law_612 : decode cL_law 612 = .ok (.iaload, 1) := by decide +kernel
theorem dL_law_613 : decode cL_law 613 = .ok (.invokevirtual 60, 3) := by decide +kernel
theorem dL_law_616 : decode cL_law 616 = .ok (.if_icmp .eq 892, 3) := by decide +kernel
theorem dL_law_619 : decode cL_law 619 = .ok (.iconst 0, 1) := by decide +kernel
theorem dL_law_620 : decode cL_law 620 = .ok (.ireturn, 1) := by decide +kernel
theorem dL_law_621 : decode cL_law 621 = .ok (.aload_n 1, 1) := by decide +kernel
theorem dL_law_622 : decode cL_law 622 = .ok (.aload_n 0, 1) := by decide +kernel
theorem dL_law_623 : decode cL_law 623 = .ok (.iload_n 3, 1) := by decide +kernel
theorem dL_law_624 : decode cL_law 624 = .ok (.iconst 1, 1) := by decide +kernel
theorem dL_law_625 : decode cL_law 625 = .ok (.iadd, 1) := by decide +kernel
theorem dL_law_626 : decode cL_law 626 = .ok (.iaload, 1) := by decide +kernel
theorem dL_law_627 : decode cL_law 627 = .ok (.i2l, 1) := by decide +kernel
theorem dL_law_628 : decode cL_law 628 = .ok (.bipush 32, 2) := by decide +kernel
theorem dL_law_630 : decode cL_law 630 = .ok (.lshl, 1) := by decide +kernel
theorem dL_law_631 : decode cL_law 631 = .ok (.aload_n 0, 1) := by decide +kernel
theorem dL_law_632 : decode cL_law 632 = .ok (.iload_n 3, 1) := by decide +kernel
theorem dL_law_633 : decode cL_law 633 = .ok (.iconst 2, 1) := by decide +kernel
theorem dL_law_634 : decode cL_law 634 = .ok (.iadd, 1) := by decide +kernel
theorem dL_law_635 : decode cL_law 635 = .ok (.iaload, 1) := by decide +kernel
theorem dL_law_636 : decode cL_law 636 = .ok (.i2l, 1) := by decide +kernel
theorem dL_law_637 : decode cL_law 637 = .ok (.ldc2_w 61, 3) := by decide +kernel
theorem dL_law_640 : decode cL_law 640 = .ok (.land, 1) := by decide +kernel
theorem dL_law_641 : decode cL_law 641 = .ok (.lor, 1) := by decide +kernel
theorem dL_law_642 : decode cL_law 642 = .ok (.aload_n 0, 1) := by decide +kernel
theorem dL_law_643 : decode cL_law 643 = .ok (.iload_n 3, 1) := by decide +kernel
theorem dL_law_644 : decode cL_law 644 = .ok (.iconst 3, 1) := by decide +kernel
theorem dL_law_645 : decode cL_law 645 = .ok (.iadd, 1) := by decide +kernel
theorem dL_law_646 : decode cL_law 646 = .ok (.iaload, 1) := by decide +kernel
theorem dL_law_647 : decode cL_law 647 = .ok (.invokevirtual 63, 3) := by decide +kernel
theorem dL_law_650 : decode cL_law 650 = .ok (.aload_n 2, 1) := by decide +kernel
theorem dL_law_651 : decode cL_law 651 = .ok (.aload_n 0, 1) := by decide +kernel
theorem dL_law_652 : decode cL_law 652 = .ok (.iload_n 3, 1) := by decide +kernel
theorem dL_law_653 : decode cL_law 653 = .ok (.iconst 1, 1) := by decide +kernel
theorem dL_law_654 : decode cL_law 654 = .ok (.iadd, 1) := by decide +kernel
theorem dL_law_655 : decode cL_law 655 = .ok (.iaload, 1) := by decide +kernel
theorem dL_law_656 : decode cL_law 656 = .ok (.i2l, 1) := by decide +kernel
theorem dL_law_657 : decode cL_law 657 = .ok (.bipush 32, 2) := by decide +kernel
theorem dL_law_659 : decode cL_law 659 = .ok (.lshl, 1) := by decide +kernel
theorem dL_law_660 : decode cL_law 660 = .ok (.aload_n 0, 1) := by decide +kernel
theorem dL_law_661 : decode cL_law 661 = .ok (.iload_n 3, 1) := by decide +kernel
theorem dL_law_662 : decode cL_law 662 = .ok (.iconst 2, 1) := by decide +kernel
theorem dL_law_663 : decode cL_law 663 = .ok (.iadd, 1) := by decide +kernel
theorem dL_law_664 : decode cL_law 664 = .ok (.iaload, 1) := by decide +kernel
theorem dL_law_665 : decode cL_law 665 = .ok (.i2l, 1) := by decide +kernel
theorem dL_law_666 : decode cL_law 666 = .ok (.ldc2_w 61, 3) := by decide +kernel
theorem dL_law_669 : decode cL_law 669 = .ok (.land, 1) := by decide +kernel
theorem dL_law_670 : decode cL_law 670 = .ok (.lor, 1) := by decide +kernel
theorem dL_law_671 : decode cL_law 671 = .ok (.aload_n 0, 1) := by decide +kernel
theorem dL_law_672 : decode cL_law 672 = .ok (.iload_n 3, 1) := by decide +kernel
theorem dL_law_673 : decode cL_law 673 = .ok (.iconst 3, 1) := by decide +kernel
theorem dL_law_674 : decode cL_law 674 = .ok (.iadd, 1) := by decide +kernel
theorem dL_law_675 : decode cL_law 675 = .ok (.iaload, 1) := by decide +kernel
theorem dL_law_676 : decode cL_law 676 = .ok (.invokevirtual 67, 3) := by decide +kernel
theorem dL_law_679 : decode cL_law 679 = .ok (.if_icmp .eq 829, 3) := by decide +kernel
theorem dL_law_682 : decode cL_law 682 = .ok (.iconst 0, 1) := by decide +kernel
theorem dL_law_683 : decode cL_law 683 = .ok (.ireturn, 1) := by decide +kernel
theorem dL_law_684 : decode cL_law 684 = .ok (.aload_n 1, 1) := by decide +kernel
theorem dL_law_685 : decode cL_law 685 = .ok (.aload_n 0, 1) := by decide +kernel
theorem dL_law_686 : decode cL_law 686 = .ok (.iload_n 3, 1) := by decide +kernel
theorem dL_law_687 : decode cL_law 687 = .ok (.iconst 1, 1) := by decide +kernel
theorem dL_law_688 : decode cL_law 688 = .ok (.iadd, 1) := by decide +kernel
theorem dL_law_689 : decode cL_law 689 = .ok (.iaload, 1) := by decide +kernel
theorem dL_law_690 : decode cL_law 690 = .ok (.invokevirtual 68, 3) := by decide +kernel
theorem dL_law_693 : decode cL_law 693 = .ok (.aload_n 2, 1) := by decide +kernel
theorem dL_law_694 : decode cL_law 694 = .ok (.aload_n 0, 1) := by decide +kernel
theorem dL_law_695 : decode cL_law 695 = .ok (.iload_n 3, 1) := by decide +kernel
theorem dL_law_696 : decode cL_law 696 = .ok (.iconst 1, 1) := by decide +kernel
theorem dL_law_697 : decode cL_law 697 = .ok (.iadd, 1) := by decide +kernel
theorem dL_law_698 : decode cL_law 698 = .ok (.iaload, 1) := by decide +kernel
theorem dL_law_699 : decode cL_law 699 = .ok (.invokevirtual 71, 3) := by decide +kernel
theorem dL_law_702 : decode cL_law 702 = .ok (.if_icmp .eq 806, 3) := by decide +kernel
theorem dL_law_705 : decode cL_law 705 = .ok (.iconst 0, 1) := by decide +kernel
theorem dL_law_706 : decode cL_law 706 = .ok (.ireturn, 1) := by decide +kernel
theorem dL_law_707 : decode cL_law 707 = .ok (.aload_n 1, 1) := by decide +kernel
theorem dL_law_708 : decode cL_law 708 = .ok (.aload_n 0, 1) := by decide +kernel
theorem dL_law_709 : decode cL_law 709 = .ok (.iload_n 3, 1) := by decide +kernel
theorem dL_law_710 : decode cL_law 710 = .ok (.iconst 1, 1) := by decide +kernel
theorem dL_law_711 : decode cL_law 711 = .ok (.iadd, 1) := by decide +kernel
theorem dL_law_712 : decode cL_law 712 = .ok (.iaload, 1) := by decide +kernel
theorem dL_law_713 : decode cL_law 713 = .ok (.invokevirtual 72, 3) := by decide +kernel
theorem dL_law_716 : decode cL_law 716 = .ok (.aload_n 2, 1) := by decide +kernel
theorem dL_law_717 : decode cL_law 717 = .ok (.aload_n 0, 1) := by decide +kernel
theorem dL_law_718 : decode cL_law 718 = .ok (.iload_n 3, 1) := by decide +kernel
theorem dL_law_719 : decode cL_law 719 = .ok (.iconst 1, 1) := by decide +kernel
theorem dL_law_720 : decode cL_law 720 = .ok (.iadd, 1) := by decide +kernel
theorem dL_law_721 : decode cL_law 721 = .ok (.iaload, 1) := by decide +kernel
theorem dL_law_722 : decode cL_law 722 = .ok (.invokevirtual 75, 3) := by decide +kernel
theorem dL_law_725 : decode cL_law 725 = .ok (.if_icmp .eq 783, 3) := by decide +kernel
theorem dL_law_728 : decode cL_law 728 = .ok (.iconst 0, 1) := by decide +kernel
theorem dL_law_729 : decode cL_law 729 = .ok (.ireturn, 1) := by decide +kernel
theorem dL_law_730 : decode cL_law 730 = .ok (.aload_n 1, 1) := by decide +kernel
theorem dL_law_731 : decode cL_law 731 = .ok (.aload_n 0, 1) := by decide +kernel
theorem dL_law_732 : decode cL_law 732 = .ok (.iload_n 3, 1) := by decide +kernel
theorem dL_law_733 : decode cL_law 733 = .ok (.iconst 1, 1) := by decide +kernel
theorem dL_law_734 : decode cL_law 734 = .ok (.iadd, 1) := by decide +kernel
theorem dL_law_735 : decode cL_law 735 = .ok (.iaload, 1) := by decide +kernel
theorem dL_law_736 : decode cL_law 736 = .ok (.aload_n 0, 1) := by decide +kernel
theorem dL_law_737 : decode cL_law 737 = .ok (.iload_n 3, 1) := by decide +kernel
theorem dL_law_738 : decode cL_law 738 = .ok (.iconst 2, 1) := by decide +kernel
theorem dL_law_739 : decode cL_law 739 = .ok (.iadd, 1) := by decide +kernel
theorem dL_law_740 : decode cL_law 740 = .ok (.iaload, 1) := by decide +kernel
theorem dL_law_741 : decode cL_law 741 = .ok (.aload_n 0, 1) := by decide +kernel
theorem dL_law_742 : decode cL_law 742 = .ok (.iload_n 3, 1) := by decide +kernel
theorem dL_law_743 : decode cL_law 743 = .ok (.iconst 3, 1) := by decide +kernel
theorem dL_law_744 : decode cL_law 744 = .ok (.iadd, 1) := by decide +kernel
theorem dL_law_745 : decode cL_law 745 = .ok (.iaload, 1) := by decide +kernel
theorem dL_law_746 : decode cL_law 746 = .ok (.aload_n 0, 1) := by decide +kernel
theorem dL_law_747 : decode cL_law 747 = .ok (.iload_n 3, 1) := by decide +kernel
theorem dL_law_748 : decode cL_law 748 = .ok (.iconst 4, 1) := by decide +kernel
theorem dL_law_749 : decode cL_law 749 = .ok (.iadd, 1) := by decide +kernel
theorem dL_law_750 : decode cL_law 750 = .ok (.iaload, 1) := by decide +kernel
theorem dL_law_751 : decode cL_law 751 = .ok (.invokevirtual 76, 3) := by decide +kernel
theorem dL_law_754 : decode cL_law 754 = .ok (.aload_n 2, 1) := by decide +kernel
theorem dL_law_755 : decode cL_law 755 = .ok (.aload_n 0, 1) := by decide +kernel
theorem dL_law_756 : decode cL_law 756 = .ok (.iload_n 3, 1) := by decide +kernel
theorem dL_law_757 : decode cL_law 757 = .ok (.iconst 1, 1) := by decide +kernel
theorem dL_law_758 : decode cL_law 758 = .ok (.iadd, 1) := by decide +kernel
theorem dL_law_759 : decode cL_law 759 = .ok (.iaload, 1) := by decide +kernel
theorem dL_law_760 : decode cL_law 760 = .ok (.aload_n 0, 1) := by decide +kernel
theorem dL_law_761 : decode cL_law 761 = .ok (.iload_n 3, 1) := by decide +kernel
theorem dL_law_762 : decode cL_law 762 = .ok (.iconst 2, 1) := by decide +kernel
theorem dL_law_763 : decode cL_law 763 = .ok (.iadd, 1) := by decide +kernel
theorem dL_law_764 : decode cL_law 764 = .ok (.iaload, 1) := by decide +kernel
theorem dL_law_765 : decode cL_law 765 = .ok (.aload_n 0, 1) := by decide +kernel
theorem dL_law_766 : decode cL_law 766 = .ok (.iload_n 3, 1) := by decide +kernel
theorem dL_law_767 : decode cL_law 767 = .ok (.iconst 3, 1) := by decide +kernel
theorem dL_law_768 : decode cL_law 768 = .ok (.iadd, 1) := by decide +kernel
theorem dL_law_769 : decode cL_law 769 = .ok (.iaload, 1) := by decide +kernel
theorem dL_law_770 : decode cL_law 770 = .ok (.aload_n 0, 1) := by decide +kernel
theorem dL_law_771 : decode cL_law 771 = .ok (.iload_n 3, 1) := by decide +kernel
theorem dL_law_772 : decode cL_law 772 = .ok (.iconst 4, 1) := by decide +kernel
theorem dL_law_773 : decode cL_law 773 = .ok (.iadd, 1) := by decide +kernel
theorem dL_law_774 : decode cL_law 774 = .ok (.iaload, 1) := by decide +kernel
theorem dL_law_775 : decode cL_law 775 = .ok (.invokevirtual 79, 3) := by decide +kernel
theorem dL_law_778 : decode cL_law 778 = .ok (.if_icmp .eq 730, 3) := by decide +kernel
theorem dL_law_781 : decode cL_law 781 = .ok (.iconst 0, 1) := by decide +kernel
theorem dL_law_782 : decode cL_law 782 = .ok (.ireturn, 1) := by decide +kernel
theorem dL_law_783 : decode cL_law 783 = .ok (.aload_n 1, 1) := by decide +kernel
theorem dL_law_784 : decode cL_law 784 = .ok (.aload_n 0, 1) := by decide +kernel
theorem dL_law_785 : decode cL_law 785 = .ok (.iload_n 3, 1) := by decide +kernel
theorem dL_law_786 : decode cL_law 786 = .ok (.iconst 1, 1) := by decide +kernel
theorem dL_law_787 : decode cL_law 787 = .ok (.iadd, 1) := by decide +kernel
theorem dL_law_788 : decode cL_law 788 = .ok (.iaload, 1) := by decide +kernel
theorem dL_law_789 : decode cL_law 789 = .ok (.invokevirtual 80, 3) := by decide +kernel
theorem dL_law_792 : decode cL_law 792 = .ok (.aload_n 2, 1) := by decide +kernel
theorem dL_law_793 : decode cL_law 793 = .ok (.aload_n 0, 1) := by decide +kernel
theorem dL_law_794 : decode cL_law 794 = .ok (.iload_n 3, 1) := by decide +kernel
theorem dL_law_795 : decode cL_law 795 = .ok (.iconst 1, 1) := by decide +kernel
theorem dL_law_796 : decode cL_law 796 = .ok (.iadd, 1) := by decide +kernel
theorem dL_law_797 : decode cL_law 797 = .ok (.iaload, 1) := by decide +kernel
theorem dL_law_798 : decode cL_law 798 = .ok (.invokevirtual 83, 3) := by decide +kernel
theorem dL_law_801 : decode cL_law 801 = .ok (.if_icmp .eq 707, 3) := by decide +kernel
theorem dL_law_804 : decode cL_law 804 = .ok (.iconst 0, 1) := by decide +kernel
theorem dL_law_805 : decode cL_law 805 = .ok (.ireturn, 1) := by decide +kernel
theorem dL_law_806 : decode cL_law 806 = .ok (.aload_n 1, 1) := by decide +kernel
theorem dL_law_807 : decode cL_law 807 = .ok (.aload_n 0, 1) := by decide +kernel
theorem dL_law_808 : decode cL_law 808 = .ok (.iload_n 3, 1) := by decide +kernel
theorem dL_law_809 : decode cL_law 809 = .ok (.iconst 1, 1) := by decide +kernel
theorem dL_law_810 : decode cL_law 810 = .ok (.iadd, 1) := by decide +kernel
theorem dL_law_811 : decode cL_law 811 = .ok (.iaload, 1) := by decide +kernel
theorem dL_law_812 : decode cL_law 812 = .ok (.invokevirtual 84, 3) := by decide +kernel
theorem dL_law_815 : decode cL_law 815 = .ok (.aload_n 2, 1) := by decide +kernel
theorem dL_law_816 : decode cL_law 816 = .ok (.aload_n 0, 1) := by decide +kernel
theorem dL_law_817 : decode cL_law 817 = .ok (.iload_n 3, 1) := by decide +kernel
theorem dL_law_818 : decode cL_law 818 = .ok (.iconst 1, 1) := by decide +kernel
theorem dL_law_819 : decode cL_law 819 = .ok (.iadd, 1) := by decide +kernel
theorem dL_law_820 : decode cL_law 820 = .ok (.iaload, 1) := by decide +kernel
theorem dL_law_821 : decode cL_law 821 = .ok (.invokevirtual 87, 3) := by decide +kernel
theorem dL_law_824 : decode cL_law 824 = .ok (.if_icmp .eq 684, 3) := by decide +kernel
theorem dL_law_827 : decode cL_law 827 = .ok (.iconst 0, 1) := by decide +kernel
theorem dL_law_828 : decode cL_law 828 = .ok (.ireturn, 1) := by decide +kernel
theorem dL_law_829 : decode cL_law 829 = .ok (.aload_n 1, 1) := by decide +kernel
theorem dL_law_830 : decode cL_law 830 = .ok (.aload_n 0, 1) := by decide +kernel
theorem dL_law_831 : decode cL_law 831 = .ok (.iload_n 3, 1) := by decide +kernel
theorem dL_law_832 : decode cL_law 832 = .ok (.iconst 1, 1) := by decide +kernel
theorem dL_law_833 : decode cL_law 833 = .ok (.iadd, 1) := by decide +kernel
theorem dL_law_834 : decode cL_law 834 = .ok (.iaload, 1) := by decide +kernel
theorem dL_law_835 : decode cL_law 835 = .ok (.invokevirtual 88, 3) := by decide +kernel
theorem dL_law_838 : decode cL_law 838 = .ok (.aload_n 2, 1) := by decide +kernel
theorem dL_law_839 : decode cL_law 839 = .ok (.aload_n 0, 1) := by decide +kernel
theorem dL_law_840 : decode cL_law 840 = .ok (.iload_n 3, 1) := by decide +kernel
theorem dL_law_841 : decode cL_law 841 = .ok (.iconst 1, 1) := by decide +kernel
theorem dL_law_842 : decode cL_law 842 = .ok (.iadd, 1) := by decide +kernel
theorem dL_law_843 : decode cL_law 843 = .ok (.iaload, 1) := by decide +kernel
theorem dL_law_844 : decode cL_law 844 = .ok (.invokevirtual 91, 3) := by decide +kernel
theorem dL_law_847 : decode cL_law 847 = .ok (.if_icmp .eq 661, 3) := by decide +kernel
theorem dL_law_850 : decode cL_law 850 = .ok (.iconst 0, 1) := by decide +kernel
theorem dL_law_851 : decode cL_law 851 = .ok (.ireturn, 1) := by decide +kernel
theorem dL_law_852 : decode cL_law 852 = .ok (.aload_n 1, 1) := by decide +kernel
theorem dL_law_853 : decode cL_law 853 = .ok (.aload_n 0, 1) := by decide +kernel
theorem dL_law_854 : decode cL_law 854 = .ok (.iload_n 3, 1) := by decide +kernel
theorem dL_law_855 : decode cL_law 855 = .ok (.iconst 1, 1) := by decide +kernel
theorem dL_law_856 : decode cL_law 856 = .ok (.iadd, 1) := by decide +kernel
theorem dL_law_857 : decode cL_law 857 = .ok (.iaload, 1) := by decide +kernel
theorem dL_law_858 : decode cL_law 858 = .ok (.invokevirtual 92, 3) := by decide +kernel
theorem dL_law_861 : decode cL_law 861 = .ok (.aload_n 2, 1) := by decide +kernel
theorem dL_law_862 : decode cL_law 862 = .ok (.aload_n 0, 1) := by decide +kernel
theorem dL_law_863 : decode cL_law 863 = .ok (.iload_n 3, 1) := by decide +kernel
theorem dL_law_864 : decode cL_law 864 = .ok (.iconst 1, 1) := by decide +kernel
theorem dL_law_865 : decode cL_law 865 = .ok (.iadd, 1) := by decide +kernel
theorem dL_law_866 : decode cL_law 866 = .ok (.iaload, 1) := by decide +kernel
theorem dL_law_867 : decode cL_law 867 = .ok (.invokevirtual 95, 3) := by decide +kernel
theorem dL_law_870 : decode cL_law 870 = .ok (.if_icmp .eq 638, 3) := by decide +kernel
theorem dL_law_873 : decode cL_law 873 = .ok (.iconst 0, 1) := by decide +kernel
theorem dL_law_874 : decode cL_law 874 = .ok (.ireturn, 1) := by decide +kernel
theorem dL_law_875 : decode cL_law 875 = .ok (.aload_n 1, 1) := by decide +kernel
theorem dL_law_876 : decode cL_law 876 = .ok (.aload_n 0, 1) := by decide +kernel
theorem dL_law_877 : decode cL_law 877 = .ok (.iload_n 3, 1) := by decide +kernel
theorem dL_law_878 : decode cL_law 878 = .ok (.iconst 1, 1) := by decide +kernel
theorem dL_law_879 : decode cL_law 879 = .ok (.iadd, 1) := by decide +kernel
theorem dL_law_880 : decode cL_law 880 = .ok (.iaload, 1) := by decide +kernel
theorem dL_law_881 : decode cL_law 881 = .ok (.aload_n 0, 1) := by decide +kernel
theorem dL_law_882 : decode cL_law 882 = .ok (.iload_n 3, 1) := by decide +kernel
theorem dL_law_883 : decode cL_law 883 = .ok (.iconst 2, 1) := by decide +kernel
theorem dL_law_884 : decode cL_law 884 = .ok (.iadd, 1) := by decide +kernel
theorem dL_law_885 : decode cL_law 885 = .ok (.iaload, 1) := by decide +kernel
theorem dL_law_886 : decode cL_law 886 = .ok (.aload_n 0, 1) := by decide +kernel
theorem dL_law_887 : decode cL_law 887 = .ok (.iload_n 3, 1) := by decide +kernel
theorem dL_law_888 : decode cL_law 888 = .ok (.iconst 3, 1) := by decide +kernel
theorem dL_law_889 : decode cL_law 889 = .ok (.iadd, 1) := by decide +kernel
theorem dL_law_890 : decode cL_law 890 = .ok (.iaload, 1) := by decide +kernel
theorem dL_law_891 : decode cL_law 891 = .ok (.invokevirtual 96, 3) := by decide +kernel
theorem dL_law_894 : decode cL_law 894 = .ok (.aload_n 2, 1) := by decide +kernel
theorem dL_law_895 : decode cL_law 895 = .ok (.aload_n 0, 1) := by decide +kernel
theorem dL_law_896 : decode cL_law 896 = .ok (.iload_n 3, 1) := by decide +kernel
theorem dL_law_897 : decode cL_law 897 = .ok (.iconst 1, 1) := by decide +kernel
theorem dL_law_898 : decode cL_law 898 = .ok (.iadd, 1) := by decide +kernel
theorem dL_law_899 : decode cL_law 899 = .ok (.iaload, 1) := by decide +kernel
theorem dL_law_900 : decode cL_law 900 = .ok (.aload_n 0, 1) := by decide +kernel
theorem dL_law_901 : decode cL_law 901 = .ok (.iload_n 3, 1) := by decide +kernel
theorem dL_law_902 : decode cL_law 902 = .ok (.iconst 2, 1) := by decide +kernel
theorem dL_law_903 : decode cL_law 903 = .ok (.iadd, 1) := by decide +kernel
theorem dL_law_904 : decode cL_law 904 = .ok (.iaload, 1) := by decide +kernel
theorem dL_law_905 : decode cL_law 905 = .ok (.aload_n 0, 1) := by decide +kernel
theorem dL_law_906 : decode cL_law 906 = .ok (.iload_n 3, 1) := by decide +kernel
theorem dL_law_907 : decode cL_law 907 = .ok (.iconst 3, 1) := by decide +kernel
theorem dL_law_908 : decode cL_law 908 = .ok (.iadd, 1) := by decide +kernel
theorem dL_law_909 : decode cL_law 909 = .ok (.iaload, 1) := by decide +kernel
theorem dL_law_910 : decode cL_law 910 = .ok (.invokevirtual 99, 3) := by decide +kernel
theorem dL_law_913 : decode cL_law 913 = .ok (.if_icmp .eq 595, 3) := by decide +kernel
theorem dL_law_916 : decode cL_law 916 = .ok (.iconst 0, 1) := by decide +kernel
theorem dL_law_917 : decode cL_law 917 = .ok (.ireturn, 1) := by decide +kernel
theorem dL_law_918 : decode cL_law 918 = .ok (.aload_n 1, 1) := by decide +kernel
theorem dL_law_919 : decode cL_law 919 = .ok (.aload_n 0, 1) := by decide +kernel
theorem dL_law_920 : decode cL_law 920 = .ok (.iload_n 3, 1) := by decide +kernel
theorem dL_law_921 : decode cL_law 921 = .ok (.iconst 1, 1) := by decide +kernel
theorem dL_law_922 : decode cL_law 922 = .ok (.iadd, 1) := by decide +kernel
theorem dL_law_923 : decode cL_law 923 = .ok (.iaload, 1) := by decide +kernel
theorem dL_law_924 : decode cL_law 924 = .ok (.aload_n 0, 1) := by decide +kernel
theorem dL_law_925 : decode cL_law 925 = .ok (.iload_n 3, 1) := by decide +kernel
theorem dL_law_926 : decode cL_law 926 = .ok (.iconst 2, 1) := by decide +kernel
theorem dL_law_927 : decode cL_law 927 = .ok (.iadd, 1) := by decide +kernel
theorem dL_law_928 : decode cL_law 928 = .ok (.iaload, 1) := by decide +kernel
theorem dL_law_929 : decode cL_law 929 = .ok (.invokevirtual 100, 3) := by decide +kernel
theorem dL_law_932 : decode cL_law 932 = .ok (.aload_n 2, 1) := by decide +kernel
theorem dL_law_933 : decode cL_law 933 = .ok (.aload_n 0, 1) := by decide +kernel
theorem dL_law_934 : decode cL_law 934 = .ok (.iload_n 3, 1) := by decide +kernel
theorem dL_law_935 : decode cL_law 935 = .ok (.iconst 1, 1) := by decide +kernel
theorem dL_law_936 : decode cL_law 936 = .ok (.iadd, 1) := by decide +kernel
theorem dL_law_937 : decode cL_law 937 = .ok (.iaload, 1) := by decide +kernel
theorem dL_law_938 : decode cL_law 938 = .ok (.aload_n 0, 1) := by decide +kernel
theorem dL_law_939 : decode cL_law 939 = .ok (.iload_n 3, 1) := by decide +kernel
theorem dL_law_940 : decode cL_law 940 = .ok (.iconst 2, 1) := by decide +kernel
theorem dL_law_941 : decode cL_law 941 = .ok (.iadd, 1) := by decide +kernel
theorem dL_law_942 : decode cL_law 942 = .ok (.iaload, 1) := by decide +kernel
theorem dL_law_943 : decode cL_law 943 = .ok (.invokevirtual 103, 3) := by decide +kernel
theorem dL_law_946 : decode cL_law 946 = .ok (.if_icmp .eq 562, 3) := by decide +kernel
theorem dL_law_949 : decode cL_law 949 = .ok (.iconst 0, 1) := by decide +kernel
theorem dL_law_950 : decode cL_law 950 = .ok (.ireturn, 1) := by decide +kernel
theorem dL_law_951 : decode cL_law 951 = .ok (.aload_n 1, 1) := by decide +kernel
theorem dL_law_952 : decode cL_law 952 = .ok (.aload_n 0, 1) := by decide +kernel
theorem dL_law_953 : decode cL_law 953 = .ok (.iload_n 3, 1) := by decide +kernel
theorem dL_law_954 : decode cL_law 954 = .ok (.iconst 1, 1) := by decide +kernel
theorem dL_law_955 : decode cL_law 955 = .ok (.iadd, 1) := by decide +kernel
theorem dL_law_956 : decode cL_law 956 = .ok (.iaload, 1) := by decide +kernel
theorem dL_law_957 : decode cL_law 957 = .ok (.aload_n 0, 1) := by decide +kernel
theorem dL_law_958 : decode cL_law 958 = .ok (.iload_n 3, 1) := by decide +kernel
theorem dL_law_959 : decode cL_law 959 = .ok (.iconst 2, 1) := by decide +kernel
theorem dL_law_960 : decode cL_law 960 = .ok (.iadd, 1) := by decide +kernel
theorem dL_law_961 : decode cL_law 961 = .ok (.iaload, 1) := by decide +kernel
theorem dL_law_962 : decode cL_law 962 = .ok (.invokevirtual 104, 3) := by decide +kernel
theorem dL_law_965 : decode cL_law 965 = .ok (.aload_n 2, 1) := by decide +kernel
theorem dL_law_966 : decode cL_law 966 = .ok (.aload_n 0, 1) := by decide +kernel
theorem dL_law_967 : decode cL_law 967 = .ok (.iload_n 3, 1) := by decide +kernel
theorem dL_law_968 : decode cL_law 968 = .ok (.iconst 1, 1) := by decide +kernel
theorem dL_law_969 : decode cL_law 969 = .ok (.iadd, 1) := by decide +kernel
theorem dL_law_970 : decode cL_law 970 = .ok (.iaload, 1) := by decide +kernel
theorem dL_law_971 : decode cL_law 971 = .ok (.aload_n 0, 1) := by decide +kernel
theorem dL_law_972 : decode cL_law 972 = .ok (.iload_n 3, 1) := by decide +kernel
theorem dL_law_973 : decode cL_law 973 = .ok (.iconst 2, 1) := by decide +kernel
theorem dL_law_974 : decode cL_law 974 = .ok (.iadd, 1) := by decide +kernel
theorem dL_law_975 : decode cL_law 975 = .ok (.iaload, 1) := by decide +kernel
theorem dL_law_976 : decode cL_law 976 = .ok (.invokevirtual 107, 3) := by decide +kernel
theorem dL_law_979 : decode cL_law 979 = .ok (.if_icmp .eq 529, 3) := by decide +kernel
theorem dL_law_982 : decode cL_law 982 = .ok (.iconst 0, 1) := by decide +kernel
theorem dL_law_983 : decode cL_law 983 = .ok (.ireturn, 1) := by decide +kernel
theorem dL_law_984 : decode cL_law 984 = .ok (.aload_n 1, 1) := by decide +kernel
theorem dL_law_985 : decode cL_law 985 = .ok (.aload_n 0, 1) := by decide +kernel
theorem dL_law_986 : decode cL_law 986 = .ok (.iload_n 3, 1) := by decide +kernel
theorem dL_law_987 : decode cL_law 987 = .ok (.iconst 1, 1) := by decide +kernel
theorem dL_law_988 : decode cL_law 988 = .ok (.iadd, 1) := by decide +kernel
theorem dL_law_989 : decode cL_law 989 = .ok (.iaload, 1) := by decide +kernel
theorem dL_law_990 : decode cL_law 990 = .ok (.invokevirtual 108, 3) := by decide +kernel
theorem dL_law_993 : decode cL_law 993 = .ok (.aload_n 2, 1) := by decide +kernel
theorem dL_law_994 : decode cL_law 994 = .ok (.aload_n 0, 1) := by decide +kernel
theorem dL_law_995 : decode cL_law 995 = .ok (.iload_n 3, 1) := by decide +kernel
theorem dL_law_996 : decode cL_law 996 = .ok (.iconst 1, 1) := by decide +kernel
theorem dL_law_997 : decode cL_law 997 = .ok (.iadd, 1) := by decide +kernel
theorem dL_law_998 : decode cL_law 998 = .ok (.iaload, 1) := by decide +kernel
theorem dL_law_999 : decode cL_law 999 = .ok (.invokevirtual 111, 3) := by decide +kernel
theorem dL_law_1002 : decode cL_law 1002 = .ok (.if_icmp .eq 506, 3) := by decide +kernel
theorem dL_law_1005 : decode cL_law 1005 = .ok (.iconst 0, 1) := by decide +kernel
theorem dL_law_1006 : decode cL_law 1006 = .ok (.ireturn, 1) := by decide +kernel
theorem dL_law_1007 : decode cL_law 1007 = .ok (.aload_n 1, 1) := by decide +kernel
theorem dL_law_1008 : decode cL_law 1008 = .ok (.aload_n 0, 1) := by decide +kernel
theorem dL_law_1009 : decode cL_law 1009 = .ok (.iload_n 3, 1) := by decide +kernel
theorem dL_law_1010 : decode cL_law 1010 = .ok (.iconst 1, 1) := by decide +kernel
theorem dL_law_1011 : decode cL_law 1011 = .ok (.iadd, 1) := by decide +kernel
theorem dL_law_1012 : decode cL_law 1012 = .ok (.iaload, 1) := by decide +kernel
theorem dL_law_1013 : decode cL_law 1013 = .ok (.aload_n 0, 1) := by decide +kernel
theorem dL_law_1014 : decode cL_law 1014 = .ok (.iload_n 3, 1) := by decide +kernel
theorem dL_law_1015 : decode cL_law 1015 = .ok (.iconst 2, 1) := by decide +kernel
theorem dL_law_1016 : decode cL_law 1016 = .ok (.iadd, 1) := by decide +kernel
theorem dL_law_1017 : decode cL_law 1017 = .ok (.iaload, 1) := by decide +kernel
theorem dL_law_1018 : decode cL_law 1018 = .ok (.invokevirtual 112, 3) := by decide +kernel
theorem dL_law_1021 : decode cL_law 1021 = .ok (.aload_n 2, 1) := by decide +kernel
theorem dL_law_1022 : decode cL_law 1022 = .ok (.aload_n 0, 1) := by decide +kernel
theorem dL_law_1023 : decode cL_law 1023 = .ok (.iload_n 3, 1) := by decide +kernel
theorem dL_law_1024 : decode cL_law 1024 = .ok (.iconst 1, 1) := by decide +kernel
theorem dL_law_1025 : decode cL_law 1025 = .ok (.iadd, 1) := by decide +kernel
theorem dL_law_1026 : decode cL_law 1026 = .ok (.iaload, 1) := by decide +kernel
theorem dL_law_1027 : decode cL_law 1027 = .ok (.aload_n 0, 1) := by decide +kernel
theorem dL_law_1028 : decode cL_law 1028 = .ok (.iload_n 3, 1) := by decide +kernel
theorem dL_law_1029 : decode cL_law 1029 = .ok (.iconst 2, 1) := by decide +kernel
theorem dL_law_1030 : decode cL_law 1030 = .ok (.iadd, 1) := by decide +kernel
theorem dL_law_1031 : decode cL_law 1031 = .ok (.iaload, 1) := by decide +kernel
theorem dL_law_1032 : decode cL_law 1032 = .ok (.invokevirtual 115, 3) := by decide +kernel
theorem dL_law_1035 : decode cL_law 1035 = .ok (.if_icmp .eq 473, 3) := by decide +kernel
theorem dL_law_1038 : decode cL_law 1038 = .ok (.iconst 0, 1) := by decide +kernel
theorem dL_law_1039 : decode cL_law 1039 = .ok (.ireturn, 1) := by decide +kernel
theorem dL_law_1040 : decode cL_law 1040 = .ok (.aload_n 1, 1) := by decide +kernel
theorem dL_law_1041 : decode cL_law 1041 = .ok (.aload_n 0, 1) := by decide +kernel
theorem dL_law_1042 : decode cL_law 1042 = .ok (.iload_n 3, 1) := by decide +kernel
theorem dL_law_1043 : decode cL_law 1043 = .ok (.iconst 1, 1) := by decide +kernel
theorem dL_law_1044 : decode cL_law 1044 = .ok (.iadd, 1) := by decide +kernel
theorem dL_law_1045 : decode cL_law 1045 = .ok (.iaload, 1) := by decide +kernel
theorem dL_law_1046 : decode cL_law 1046 = .ok (.invokevirtual 116, 3) := by decide +kernel
theorem dL_law_1049 : decode cL_law 1049 = .ok (.aload_n 2, 1) := by decide +kernel
theorem dL_law_1050 : decode cL_law 1050 = .ok (.aload_n 0, 1) := by decide +kernel
theorem dL_law_1051 : decode cL_law 1051 = .ok (.iload_n 3, 1) := by decide +kernel
theorem dL_law_1052 : decode cL_law 1052 = .ok (.iconst 1, 1) := by decide +kernel
theorem dL_law_1053 : decode cL_law 1053 = .ok (.iadd, 1) := by decide +kernel
theorem dL_law_1054 : decode cL_law 1054 = .ok (.iaload, 1) := by decide +kernel
theorem dL_law_1055 : decode cL_law 1055 = .ok (.invokevirtual 119, 3) := by decide +kernel
theorem dL_law_1058 : decode cL_law 1058 = .ok (.if_icmp .eq 450, 3) := by decide +kernel
theorem dL_law_1061 : decode cL_law 1061 = .ok (.iconst 0, 1) := by decide +kernel
theorem dL_law_1062 : decode cL_law 1062 = .ok (.ireturn, 1) := by decide +kernel
theorem dL_law_1063 : decode cL_law 1063 = .ok (.aload_n 1, 1) := by decide +kernel
theorem dL_law_1064 : decode cL_law 1064 = .ok (.aload_n 0, 1) := by decide +kernel
theorem dL_law_1065 : decode cL_law 1065 = .ok (.iload_n 3, 1) := by decide +kernel
theorem dL_law_1066 : decode cL_law 1066 = .ok (.iconst 1, 1) := by decide +kernel
theorem dL_law_1067 : decode cL_law 1067 = .ok (.iadd, 1) := by decide +kernel
theorem dL_law_1068 : decode cL_law 1068 = .ok (.iaload, 1) := by decide +kernel
theorem dL_law_1069 : decode cL_law 1069 = .ok (.aload_n 0, 1) := by decide +kernel
theorem dL_law_1070 : decode cL_law 1070 = .ok (.iload_n 3, 1) := by decide +kernel
theorem dL_law_1071 : decode cL_law 1071 = .ok (.iconst 2, 1) := by decide +kernel
theorem dL_law_1072 : decode cL_law 1072 = .ok (.iadd, 1) := by decide +kernel
theorem dL_law_1073 : decode cL_law 1073 = .ok (.iaload, 1) := by decide +kernel
theorem dL_law_1074 : decode cL_law 1074 = .ok (.invokevirtual 120, 3) := by decide +kernel
theorem dL_law_1077 : decode cL_law 1077 = .ok (.aload_n 2, 1) := by decide +kernel
theorem dL_law_1078 : decode cL_law 1078 = .ok (.aload_n 0, 1) := by decide +kernel
theorem dL_law_1079 : decode cL_law 1079 = .ok (.iload_n 3, 1) := by decide +kernel
theorem dL_law_1080 : decode cL_law 1080 = .ok (.iconst 1, 1) := by decide +kernel
theorem dL_law_1081 : decode cL_law 1081 = .ok (.iadd, 1) := by decide +kernel
theorem dL_law_1082 : decode cL_law 1082 = .ok (.iaload, 1) := by decide +kernel
theorem dL_law_1083 : decode cL_law 1083 = .ok (.aload_n 0, 1) := by decide +kernel
theorem dL_law_1084 : decode cL_law 1084 = .ok (.iload_n 3, 1) := by decide +kernel
theorem dL_law_1085 : decode cL_law 1085 = .ok (.iconst 2, 1) := by decide +kernel
theorem dL_law_1086 : decode cL_law 1086 = .ok (.iadd, 1) := by decide +kernel
theorem dL_law_1087 : decode cL_law 1087 = .ok (.iaload, 1) := by decide +kernel
theorem dL_law_1088 : decode cL_law 1088 = .ok (.invokevirtual 123, 3) := by decide +kernel
theorem dL_law_1091 : decode cL_law 1091 = .ok (.if_icmp .eq 417, 3) := by decide +kernel
theorem dL_law_1094 : decode cL_law 1094 = .ok (.iconst 0, 1) := by decide +kernel
theorem dL_law_1095 : decode cL_law 1095 = .ok (.ireturn, 1) := by decide +kernel
theorem dL_law_1096 : decode cL_law 1096 = .ok (.aload_n 1, 1) := by decide +kernel
theorem dL_law_1097 : decode cL_law 1097 = .ok (.aload_n 0, 1) := by decide +kernel
theorem dL_law_1098 : decode cL_law 1098 = .ok (.iload_n 3, 1) := by decide +kernel
theorem dL_law_1099 : decode cL_law 1099 = .ok (.iconst 1, 1) := by decide +kernel
theorem dL_law_1100 : decode cL_law 1100 = .ok (.iadd, 1) := by decide +kernel
theorem dL_law_1101 : decode cL_law 1101 = .ok (.iaload, 1) := by decide +kernel
theorem dL_law_1102 : decode cL_law 1102 = .ok (.aload_n 0, 1) := by decide +kernel
theorem dL_law_1103 : decode cL_law 1103 = .ok (.iload_n 3, 1) := by decide +kernel
theorem dL_law_1104 : decode cL_law 1104 = .ok (.iconst 2, 1) := by decide +kernel
theorem dL_law_1105 : decode cL_law 1105 = .ok (.iadd, 1) := by decide +kernel
theorem dL_law_1106 : decode cL_law 1106 = .ok (.iaload, 1) := by decide +kernel
theorem dL_law_1107 : decode cL_law 1107 = .ok (.invokevirtual 124, 3) := by decide +kernel
theorem dL_law_1110 : decode cL_law 1110 = .ok (.aload_n 2, 1) := by decide +kernel
theorem dL_law_1111 : decode cL_law 1111 = .ok (.aload_n 0, 1) := by decide +kernel
theorem dL_law_1112 : decode cL_law 1112 = .ok (.iload_n 3, 1) := by decide +kernel
theorem dL_law_1113 : decode cL_law 1113 = .ok (.iconst 1, 1) := by decide +kernel
theorem dL_law_1114 : decode cL_law 1114 = .ok (.iadd, 1) := by decide +kernel
theorem dL_law_1115 : decode cL_law 1115 = .ok (.iaload, 1) := by decide +kernel
theorem dL_law_1116 : decode cL_law 1116 = .ok (.aload_n 0, 1) := by decide +kernel
theorem dL_law_1117 : decode cL_law 1117 = .ok (.iload_n 3, 1) := by decide +kernel
theorem dL_law_1118 : decode cL_law 1118 = .ok (.iconst 2, 1) := by decide +kernel
theorem dL_law_1119 : decode cL_law 1119 = .ok (.iadd, 1) := by decide +kernel
theorem dL_law_1120 : decode cL_law 1120 = .ok (.iaload, 1) := by decide +kernel
theorem dL_law_1121 : decode cL_law 1121 = .ok (.invokevirtual 127, 3) := by decide +kernel
theorem dL_law_1124 : decode cL_law 1124 = .ok (.if_icmp .eq 384, 3) := by decide +kernel
theorem dL_law_1127 : decode cL_law 1127 = .ok (.iconst 0, 1) := by decide +kernel
theorem dL_law_1128 : decode cL_law 1128 = .ok (.ireturn, 1) := by decide +kernel
theorem dL_law_1129 : decode cL_law 1129 = .ok (.aload_n 1, 1) := by decide +kernel
theorem dL_law_1130 : decode cL_law 1130 = .ok (.aload_n 0, 1) := by decide +kernel
theorem dL_law_1131 : decode cL_law 1131 = .ok (.iload_n 3, 1) := by decide +kernel
theorem dL_law_1132 : decode cL_law 1132 = .ok (.iconst 1, 1) := by decide +kernel
theorem dL_law_1133 : decode cL_law 1133 = .ok (.iadd, 1) := by decide +kernel
theorem dL_law_1134 : decode cL_law 1134 = .ok (.iaload, 1) := by decide +kernel
theorem dL_law_1135 : decode cL_law 1135 = .ok (.aload_n 0, 1) := by decide +kernel
theorem dL_law_1136 : decode cL_law 1136 = .ok (.iload_n 3, 1) := by decide +kernel
theorem dL_law_1137 : decode cL_law 1137 = .ok (.iconst 2, 1) := by decide +kernel
theorem dL_law_1138 : decode cL_law 1138 = .ok (.iadd, 1) := by decide +kernel
theorem dL_law_1139 : decode cL_law 1139 = .ok (.iaload, 1) := by decide +kernel
theorem dL_law_1140 : decode cL_law 1140 = .ok (.aload_n 0, 1) := by decide +kernel
theorem dL_law_1141 : decode cL_law 1141 = .ok (.iload_n 3, 1) := by decide +kernel
theorem dL_law_1142 : decode cL_law 1142 = .ok (.iconst 3, 1) := by decide +kernel
theorem dL_law_1143 : decode cL_law 1143 = .ok (.iadd, 1) := by decide +kernel
theorem dL_law_1144 : decode cL_law 1144 = .ok (.iaload, 1) := by decide +kernel
theorem dL_law_1145 : decode cL_law 1145 = .ok (.invokevirtual 128, 3) := by decide +kernel
theorem dL_law_1148 : decode cL_law 1148 = .ok (.aload_n 2, 1) := by decide +kernel
theorem dL_law_1149 : decode cL_law 1149 = .ok (.aload_n 0, 1) := by decide +kernel
theorem dL_law_1150 : decode cL_law 1150 = .ok (.iload_n 3, 1) := by decide +kernel
theorem dL_law_1151 : decode cL_law 1151 = .ok (.iconst 1, 1) := by decide +kernel
theorem dL_law_1152 : decode cL_law 1152 = .ok (.iadd, 1) := by decide +kernel
theorem dL_law_1153 : decode cL_law 1153 = .ok (.iaload, 1) := by decide +kernel
theorem dL_law_1154 : decode cL_law 1154 = .ok (.aload_n 0, 1) := by decide +kernel
theorem dL_law_1155 : decode cL_law 1155 = .ok (.iload_n 3, 1) := by decide +kernel
theorem dL_law_1156 : decode cL_law 1156 = .ok (.iconst 2, 1) := by decide +kernel
theorem dL_law_1157 : decode cL_law 1157 = .ok (.iadd, 1) := by decide +kernel
theorem dL_law_1158 : decode cL_law 1158 = .ok (.iaload, 1) := by decide +kernel
theorem dL_law_1159 : decode cL_law 1159 = .ok (.aload_n 0, 1) := by decide +kernel
theorem dL_law_1160 : decode cL_law 1160 = .ok (.iload_n 3, 1) := by decide +kernel
theorem dL_law_1161 : decode cL_law 1161 = .ok (.iconst 3, 1) := by decide +kernel
theorem dL_law_1162 : decode cL_law 1162 = .ok (.iadd, 1) := by decide +kernel
theorem dL_law_1163 : decode cL_law 1163 = .ok (.iaload, 1) := by decide +kernel
theorem dL_law_1164 : decode cL_law 1164 = .ok (.invokevirtual 131, 3) := by decide +kernel
theorem dL_law_1167 : decode cL_law 1167 = .ok (.if_icmp .eq 341, 3) := by decide +kernel
theorem dL_law_1170 : decode cL_law 1170 = .ok (.iconst 0, 1) := by decide +kernel
theorem dL_law_1171 : decode cL_law 1171 = .ok (.ireturn, 1) := by decide +kernel
theorem dL_law_1172 : decode cL_law 1172 = .ok (.aload_n 1, 1) := by decide +kernel
theorem dL_law_1173 : decode cL_law 1173 = .ok (.aload_n 0, 1) := by decide +kernel
theorem dL_law_1174 : decode cL_law 1174 = .ok (.iload_n 3, 1) := by decide +kernel
theorem dL_law_1175 : decode cL_law 1175 = .ok (.iconst 1, 1) := by decide +kernel
theorem dL_law_1176 : decode cL_law 1176 = .ok (.iadd, 1) := by decide +kernel
theorem dL_law_1177 : decode cL_law 1177 = .ok (.iaload, 1) := by decide +kernel
theorem dL_law_1178 : decode cL_law 1178 = .ok (.invokevirtual 132, 3) := by decide +kernel
theorem dL_law_1181 : decode cL_law 1181 = .ok (.aload_n 2, 1) := by decide +kernel
theorem dL_law_1182 : decode cL_law 1182 = .ok (.aload_n 0, 1) := by decide +kernel
theorem dL_law_1183 : decode cL_law 1183 = .ok (.iload_n 3, 1) := by decide +kernel
theorem dL_law_1184 : decode cL_law 1184 = .ok (.iconst 1, 1) := by decide +kernel
theorem dL_law_1185 : decode cL_law 1185 = .ok (.iadd, 1) := by decide +kernel
theorem dL_law_1186 : decode cL_law 1186 = .ok (.iaload, 1) := by decide +kernel
theorem dL_law_1187 : decode cL_law 1187 = .ok (.invokevirtual 135, 3) := by decide +kernel
theorem dL_law_1190 : decode cL_law 1190 = .ok (.if_icmp .eq 318, 3) := by decide +kernel
theorem dL_law_1193 : decode cL_law 1193 = .ok (.iconst 0, 1) := by decide +kernel
theorem dL_law_1194 : decode cL_law 1194 = .ok (.ireturn, 1) := by decide +kernel
theorem dL_law_1195 : decode cL_law 1195 = .ok (.aload_n 1, 1) := by decide +kernel
theorem dL_law_1196 : decode cL_law 1196 = .ok (.aload_n 0, 1) := by decide +kernel
theorem dL_law_1197 : decode cL_law 1197 = .ok (.iload_n 3, 1) := by decide +kernel
theorem dL_law_1198 : decode cL_law 1198 = .ok (.iconst 1, 1) := by decide +kernel
theorem dL_law_1199 : decode cL_law 1199 = .ok (.iadd, 1) := by decide +kernel
theorem dL_law_1200 : decode cL_law 1200 = .ok (.iaload, 1) := by decide +kernel
theorem dL_law_1201 : decode cL_law 1201 = .ok (.aload_n 0, 1) := by decide +kernel
theorem dL_law_1202 : decode cL_law 1202 = .ok (.iload_n 3, 1) := by decide +kernel
theorem dL_law_1203 : decode cL_law 1203 = .ok (.iconst 2, 1) := by decide +kernel
theorem dL_law_1204 : decode cL_law 1204 = .ok (.iadd, 1) := by decide +kernel
theorem dL_law_1205 : decode cL_law 1205 = .ok (.iaload, 1) := by decide +kernel
theorem dL_law_1206 : decode cL_law 1206 = .ok (.aload_n 0, 1) := by decide +kernel
theorem dL_law_1207 : decode cL_law 1207 = .ok (.iload_n 3, 1) := by decide +kernel
theorem dL_law_1208 : decode cL_law 1208 = .ok (.iconst 3, 1) := by decide +kernel
theorem dL_law_1209 : decode cL_law 1209 = .ok (.iadd, 1) := by decide +kernel
theorem dL_law_1210 : decode cL_law 1210 = .ok (.iaload, 1) := by decide +kernel
theorem dL_law_1211 : decode cL_law 1211 = .ok (.invokevirtual 136, 3) := by decide +kernel
theorem dL_law_1214 : decode cL_law 1214 = .ok (.aload_n 2, 1) := by decide +kernel
theorem dL_law_1215 : decode cL_law 1215 = .ok (.aload_n 0, 1) := by decide +kernel
theorem dL_law_1216 : decode cL_law 1216 = .ok (.iload_n 3, 1) := by decide +kernel
theorem dL_law_1217 : decode cL_law 1217 = .ok (.iconst 1, 1) := by decide +kernel
theorem dL_law_1218 : decode cL_law 1218 = .ok (.iadd, 1) := by decide +kernel
theorem dL_law_1219 : decode cL_law 1219 = .ok (.iaload, 1) := by decide +kernel
theorem dL_law_1220 : decode cL_law 1220 = .ok (.aload_n 0, 1) := by decide +kernel
theorem dL_law_1221 : decode cL_law 1221 = .ok (.iload_n 3, 1) := by decide +kernel
theorem dL_law_1222 : decode cL_law 1222 = .ok (.iconst 2, 1) := by decide +kernel
theorem dL_law_1223 : decode cL_law 1223 = .ok (.iadd, 1) := by decide +kernel
theorem dL_law_1224 : decode cL_law 1224 = .ok (.iaload, 1) := by decide +kernel
theorem dL_law_1225 : decode cL_law 1225 = .ok (.aload_n 0, 1) := by decide +kernel
theorem dL_law_1226 : decode cL_law 1226 = .ok (.iload_n 3, 1) := by decide +kernel
theorem dL_law_1227 : decode cL_law 1227 = .ok (.iconst 3, 1) := by decide +kernel
theorem dL_law_1228 : decode cL_law 1228 = .ok (.iadd, 1) := by decide +kernel
theorem dL_law_1229 : decode cL_law 1229 = .ok (.iaload, 1) := by decide +kernel
theorem dL_law_1230 : decode cL_law 1230 = .ok (.invokevirtual 139, 3) := by decide +kernel
theorem dL_law_1233 : decode cL_law 1233 = .ok (.if_icmp .eq 275, 3) := by decide +kernel
theorem dL_law_1236 : decode cL_law 1236 = .ok (.iconst 0, 1) := by decide +kernel
theorem dL_law_1237 : decode cL_law 1237 = .ok (.ireturn, 1) := by decide +kernel
theorem dL_law_1238 : decode cL_law 1238 = .ok (.aload_n 1, 1) := by decide +kernel
theorem dL_law_1239 : decode cL_law 1239 = .ok (.aload_n 0, 1) := by decide +kernel
theorem dL_law_1240 : decode cL_law 1240 = .ok (.iload_n 3, 1) := by decide +kernel
theorem dL_law_1241 : decode cL_law 1241 = .ok (.iconst 1, 1) := by decide +kernel
theorem dL_law_1242 : decode cL_law 1242 = .ok (.iadd, 1) := by decide +kernel
theorem dL_law_1243 : decode cL_law 1243 = .ok (.iaload, 1) := by decide +kernel
theorem dL_law_1244 : decode cL_law 1244 = .ok (.aload_n 0, 1) := by decide +kernel
theorem dL_law_1245 : decode cL_law 1245 = .ok (.iload_n 3, 1) := by decide +kernel
theorem dL_law_1246 : decode cL_law 1246 = .ok (.iconst 2, 1) := by decide +kernel
theorem dL_law_1247 : decode cL_law 1247 = .ok (.iadd, 1) := by decide +kernel
theorem dL_law_1248 : decode cL_law 1248 = .ok (.iaload, 1) := by decide +kernel
theorem dL_law_1249 : decode cL_law 1249 = .ok (.aload_n 0, 1) := by decide +kernel
theorem dL_law_1250 : decode cL_law 1250 = .ok (.iload_n 3, 1) := by decide +kernel
theorem dL_law_1251 : decode cL_law 1251 = .ok (.iconst 3, 1) := by decide +kernel
theorem dL_law_1252 : decode cL_law 1252 = .ok (.iadd, 1) := by decide +kernel
theorem dL_law_1253 : decode cL_law 1253 = .ok (.iaload, 1) := by decide +kernel
theorem dL_law_1254 : decode cL_law 1254 = .ok (.invokevirtual 140, 3) := by decide +kernel
theorem dL_law_1257 : decode cL_law 1257 = .ok (.aload_n 2, 1) := by decide +kernel
theorem dL_law_1258 : decode cL_law 1258 = .ok (.aload_n 0, 1) := by decide +kernel
theorem dL_law_1259 : decode cL_law 1259 = .ok (.iload_n 3, 1) := by decide +kernel
theorem dL_law_1260 : decode cL_law 1260 = .ok (.iconst 1, 1) := by decide +kernel
theorem dL_law_1261 : decode cL_law 1261 = .ok (.iadd, 1) := by decide +kernel
theorem dL_law_1262 : decode cL_law 1262 = .ok (.iaload, 1) := by decide +kernel
theorem dL_law_1263 : decode cL_law 1263 = .ok (.aload_n 0, 1) := by decide +kernel
theorem dL_law_1264 : decode cL_law 1264 = .ok (.iload_n 3, 1) := by decide +kernel
theorem dL_law_1265 : decode cL_law 1265 = .ok (.iconst 2, 1) := by decide +kernel
theorem dL_law_1266 : decode cL_law 1266 = .ok (.iadd, 1) := by decide +kernel
theorem dL_law_1267 : decode cL_law 1267 = .ok (.iaload, 1) := by decide +kernel
theorem dL_law_1268 : decode cL_law 1268 = .ok (.aload_n 0, 1) := by decide +kernel
theorem dL_law_1269 : decode cL_law 1269 = .ok (.iload_n 3, 1) := by decide +kernel
theorem dL_law_1270 : decode cL_law 1270 = .ok (.iconst 3, 1) := by decide +kernel
theorem dL_law_1271 : decode cL_law 1271 = .ok (.iadd, 1) := by decide +kernel
theorem dL_law_1272 : decode cL_law 1272 = .ok (.iaload, 1) := by decide +kernel
theorem dL_law_1273 : decode cL_law 1273 = .ok (.invokevirtual 143, 3) := by decide +kernel
theorem dL_law_1276 : decode cL_law 1276 = .ok (.if_icmp .eq 232, 3) := by decide +kernel
theorem dL_law_1279 : decode cL_law 1279 = .ok (.iconst 0, 1) := by decide +kernel
theorem dL_law_1280 : decode cL_law 1280 = .ok (.ireturn, 1) := by decide +kernel
theorem dL_law_1281 : decode cL_law 1281 = .ok (.aload_n 1, 1) := by decide +kernel
theorem dL_law_1282 : decode cL_law 1282 = .ok (.aload_n 0, 1) := by decide +kernel
theorem dL_law_1283 : decode cL_law 1283 = .ok (.iload_n 3, 1) := by decide +kernel
theorem dL_law_1284 : decode cL_law 1284 = .ok (.iconst 1, 1) := by decide +kernel
theorem dL_law_1285 : decode cL_law 1285 = .ok (.iadd, 1) := by decide +kernel
theorem dL_law_1286 : decode cL_law 1286 = .ok (.iaload, 1) := by decide +kernel
theorem dL_law_1287 : decode cL_law 1287 = .ok (.aload_n 0, 1) := by decide +kernel
theorem dL_law_1288 : decode cL_law 1288 = .ok (.iload_n 3, 1) := by decide +kernel
theorem dL_law_1289 : decode cL_law 1289 = .ok (.iconst 2, 1) := by decide +kernel
theorem dL_law_1290 : decode cL_law 1290 = .ok (.iadd, 1) := by decide +kernel
theorem dL_law_1291 : decode cL_law 1291 = .ok (.iaload, 1) := by decide +kernel
theorem dL_law_1292 : decode cL_law 1292 = .ok (.aload_n 0, 1) := by decide +kernel
theorem dL_law_1293 : decode cL_law 1293 = .ok (.iload_n 3, 1) := by decide +kernel
theorem dL_law_1294 : decode cL_law 1294 = .ok (.iconst 3, 1) := by decide +kernel
theorem dL_law_1295 : decode cL_law 1295 = .ok (.iadd, 1) := by decide +kernel
theorem dL_law_1296 : decode cL_law 1296 = .ok (.iaload, 1) := by decide +kernel
theorem dL_law_1297 : decode cL_law 1297 = .ok (.aload_n 0, 1) := by decide +kernel
theorem dL_law_1298 : decode cL_law 1298 = .ok (.iload_n 3, 1) := by decide +kernel
theorem dL_law_1299 : decode cL_law 1299 = .ok (.iconst 4, 1) := by decide +kernel
theorem dL_law_1300 : decode cL_law 1300 = .ok (.iadd, 1) := by decide +kernel
theorem dL_law_1301 : decode cL_law 1301 = .ok (.iaload, 1) := by decide +kernel
theorem dL_law_1302 : decode cL_law 1302 = .ok (.aload_n 0, 1) := by decide +kernel
theorem dL_law_1303 : decode cL_law 1303 = .ok (.iload_n 3, 1) := by decide +kernel
theorem dL_law_1304 : decode cL_law 1304 = .ok (.iconst 5, 1) := by decide +kernel
theorem dL_law_1305 : decode cL_law 1305 = .ok (.iadd, 1) := by decide +kernel
theorem dL_law_1306 : decode cL_law 1306 = .ok (.iaload, 1) := by decide +kernel
theorem dL_law_1307 : decode cL_law 1307 = .ok (.invokevirtual 144, 3) := by decide +kernel
theorem dL_law_1310 : decode cL_law 1310 = .ok (.aload_n 2, 1) := by decide +kernel
theorem dL_law_1311 : decode cL_law 1311 = .ok (.aload_n 0, 1) := by decide +kernel
theorem dL_law_1312 : decode cL_law 1312 = .ok (.iload_n 3, 1) := by decide +kernel
theorem dL_law_1313 : decode cL_law 1313 = .ok (.iconst 1, 1) := by decide +kernel
theorem dL_law_1314 : decode cL_law 1314 = .ok (.iadd, 1) := by decide +kernel
theorem dL_law_1315 : decode cL_law 1315 = .ok (.iaload, 1) := by decide +kernel
theorem dL_law_1316 : decode cL_law 1316 = .ok (.aload_n 0, 1) := by decide +kernel
theorem dL_law_1317 : decode cL_law 1317 = .ok (.iload_n 3, 1) := by decide +kernel
theorem dL_law_1318 : decode cL_law 1318 = .ok (.iconst 2, 1) := by decide +kernel
theorem dL_law_1319 : decode cL_law 1319 = .ok (.iadd, 1) := by decide +kernel
theorem dL_law_1320 : decode cL_law 1320 = .ok (.iaload, 1) := by decide +kernel
theorem dL_law_1321 : decode cL_law 1321 = .ok (.aload_n 0, 1) := by decide +kernel
theorem dL_law_1322 : decode cL_law 1322 = .ok (.iload_n 3, 1) := by decide +kernel
theorem dL_law_1323 : decode cL_law 1323 = .ok (.iconst 3, 1) := by decide +kernel
theorem dL_law_1324 : decode cL_law 1324 = .ok (.iadd, 1) := by decide +kernel
theorem dL_law_1325 : decode cL_law 1325 = .ok (.iaload, 1) := by decide +kernel
theorem dL_law_1326 : decode cL_law 1326 = .ok (.aload_n 0, 1) := by decide +kernel
theorem dL_law_1327 : decode cL_law 1327 = .ok (.iload_n 3, 1) := by decide +kernel
theorem dL_law_1328 : decode cL_law 1328 = .ok (.iconst 4, 1) := by decide +kernel
theorem dL_law_1329 : decode cL_law 1329 = .ok (.iadd, 1) := by decide +kernel
theorem dL_law_1330 : decode cL_law 1330 = .ok (.iaload, 1) := by decide +kernel
theorem dL_law_1331 : decode cL_law 1331 = .ok (.aload_n 0, 1) := by decide +kernel
theorem dL_law_1332 : decode cL_law 1332 = .ok (.iload_n 3, 1) := by decide +kernel
theorem dL_law_1333 : decode cL_law 1333 = .ok (.iconst 5, 1) := by decide +kernel
theorem dL_law_1334 : decode cL_law 1334 = .ok (.iadd, 1) := by decide +kernel
theorem dL_law_1335 : decode cL_law 1335 = .ok (.iaload, 1) := by decide +kernel
theorem dL_law_1336 : decode cL_law 1336 = .ok (.invokevirtual 148, 3) := by decide +kernel
theorem dL_law_1339 : decode cL_law 1339 = .ok (.if_icmp .eq 169, 3) := by decide +kernel
theorem dL_law_1342 : decode cL_law 1342 = .ok (.iconst 0, 1) := by decide +kernel
theorem dL_law_1343 : decode cL_law 1343 = .ok (.ireturn, 1) := by decide +kernel
theorem dL_law_1344 : decode cL_law 1344 = .ok (.aload_n 1, 1) := by decide +kernel
theorem dL_law_1345 : decode cL_law 1345 = .ok (.aload_n 0, 1) := by decide +kernel
theorem dL_law_1346 : decode cL_law 1346 = .ok (.iload_n 3, 1) := by decide +kernel
theorem dL_law_1347 : decode cL_law 1347 = .ok (.iconst 1, 1) := by decide +kernel
theorem dL_law_1348 : decode cL_law 1348 = .ok (.iadd, 1) := by decide +kernel
theorem dL_law_1349 : decode cL_law 1349 = .ok (.iaload, 1) := by decide +kernel
theorem dL_law_1350 : decode cL_law 1350 = .ok (.aload_n 0, 1) := by decide +kernel
theorem dL_law_1351 : decode cL_law 1351 = .ok (.iload_n 3, 1) := by decide +kernel
theorem dL_law_1352 : decode cL_law 1352 = .ok (.iconst 2, 1) := by decide +kernel
theorem dL_law_1353 : decode cL_law 1353 = .ok (.iadd, 1) := by decide +kernel
theorem dL_law_1354 : decode cL_law 1354 = .ok (.iaload, 1) := by decide +kernel
theorem dL_law_1355 : decode cL_law 1355 = .ok (.invokevirtual 149, 3) := by decide +kernel
theorem dL_law_1358 : decode cL_law 1358 = .ok (.aload_n 2, 1) := by decide +kernel
theorem dL_law_1359 : decode cL_law 1359 = .ok (.aload_n 0, 1) := by decide +kernel
theorem dL_law_1360 : decode cL_law 1360 = .ok (.iload_n 3, 1) := by decide +kernel
theorem dL_law_1361 : decode cL_law 1361 = .ok (.iconst 1, 1) := by decide +kernel
theorem dL_law_1362 : decode cL_law 1362 = .ok (.iadd, 1) := by decide +kernel
theorem dL_law_1363 : decode cL_law 1363 = .ok (.iaload, 1) := by decide +kernel
theorem dL_law_1364 : decode cL_law 1364 = .ok (.aload_n 0, 1) := by decide +kernel
theorem dL_law_1365 : decode cL_law 1365 = .ok (.iload_n 3, 1) := by decide +kernel
theorem dL_law_1366 : decode cL_law 1366 = .ok (.iconst 2, 1) := by decide +kernel
theorem dL_law_1367 : decode cL_law 1367 = .ok (.iadd, 1) := by decide +kernel
theorem dL_law_1368 : decode cL_law 1368 = .ok (.iaload, 1) := by decide +kernel
theorem dL_law_1369 : decode cL_law 1369 = .ok (.invokevirtual 152, 3) := by decide +kernel
theorem dL_law_1372 : decode cL_law 1372 = .ok (.if_icmp .eq 136, 3) := by decide +kernel
theorem dL_law_1375 : decode cL_law 1375 = .ok (.iconst 0, 1) := by decide +kernel
theorem dL_law_1376 : decode cL_law 1376 = .ok (.ireturn, 1) := by decide +kernel
theorem dL_law_1377 : decode cL_law 1377 = .ok (.aload_n 1, 1) := by decide +kernel
theorem dL_law_1378 : decode cL_law 1378 = .ok (.aload_n 0, 1) := by decide +kernel
theorem dL_law_1379 : decode cL_law 1379 = .ok (.iload_n 3, 1) := by decide +kernel
theorem dL_law_1380 : decode cL_law 1380 = .ok (.iconst 1, 1) := by decide +kernel
theorem dL_law_1381 : decode cL_law 1381 = .ok (.iadd, 1) := by decide +kernel
theorem dL_law_1382 : decode cL_law 1382 = .ok (.iaload, 1) := by decide +kernel
theorem dL_law_1383 : decode cL_law 1383 = .ok (.invokevirtual 153, 3) := by decide +kernel
theorem dL_law_1386 : decode cL_law 1386 = .ok (.aload_n 2, 1) := by decide +kernel
theorem dL_law_1387 : decode cL_law 1387 = .ok (.aload_n 0, 1) := by decide +kernel
theorem dL_law_1388 : decode cL_law 1388 = .ok (.iload_n 3, 1) := by decide +kernel
theorem dL_law_1389 : decode cL_law 1389 = .ok (.iconst 1, 1) := by decide +kernel
theorem dL_law_1390 : decode cL_law 1390 = .ok (.iadd, 1) := by decide +kernel
theorem dL_law_1391 : decode cL_law 1391 = .ok (.iaload, 1) := by decide +kernel
theorem dL_law_1392 : decode cL_law 1392 = .ok (.invokevirtual 156, 3) := by decide +kernel
theorem dL_law_1395 : decode cL_law 1395 = .ok (.if_icmp .eq 113, 3) := by decide +kernel
theorem dL_law_1398 : decode cL_law 1398 = .ok (.iconst 0, 1) := by decide +kernel
theorem dL_law_1399 : decode cL_law 1399 = .ok (.ireturn, 1) := by decide +kernel
theorem dL_law_1400 : decode cL_law 1400 = .ok (.aload_n 1, 1) := by decide +kernel
theorem dL_law_1401 : decode cL_law 1401 = .ok (.invokevirtual 157, 3) := by decide +kernel
theorem dL_law_1404 : decode cL_law 1404 = .ok (.aload_n 2, 1) := by decide +kernel
theorem dL_law_1405 : decode cL_law 1405 = .ok (.invokevirtual 161, 3) := by decide +kernel
theorem dL_law_1408 : decode cL_law 1408 = .ok (.if_icmp .eq 100, 3) := by decide +kernel
theorem dL_law_1411 : decode cL_law 1411 = .ok (.iconst 0, 1) := by decide +kernel
theorem dL_law_1412 : decode cL_law 1412 = .ok (.ireturn, 1) := by decide +kernel
theorem dL_law_1413 : decode cL_law 1413 = .ok (.aload_n 1, 1) := by decide +kernel
theorem dL_law_1414 : decode cL_law 1414 = .ok (.invokevirtual 162, 3) := by decide +kernel
theorem dL_law_1417 : decode cL_law 1417 = .ok (.aload_n 2, 1) := by decide +kernel
theorem dL_law_1418 : decode cL_law 1418 = .ok (.invokevirtual 165, 3) := by decide +kernel
theorem dL_law_1421 : decode cL_law 1421 = .ok (.if_icmp .eq 87, 3) := by decide +kernel
theorem dL_law_1424 : decode cL_law 1424 = .ok (.iconst 0, 1) := by decide +kernel
theorem dL_law_1425 : decode cL_law 1425 = .ok (.ireturn, 1) := by decide +kernel
theorem dL_law_1426 : decode cL_law 1426 = .ok (.aload_n 1, 1) := by decide +kernel
theorem dL_law_1427 : decode cL_law 1427 = .ok (.aload_n 0, 1) := by decide +kernel
theorem dL_law_1428 : decode cL_law 1428 = .ok (.iload_n 3, 1) := by decide +kernel
theorem dL_law_1429 : decode cL_law 1429 = .ok (.iconst 1, 1) := by decide +kernel
theorem dL_law_1430 : decode cL_law 1430 = .ok (.iadd, 1) := by decide +kernel
theorem dL_law_1431 : decode cL_law 1431 = .ok (.iaload, 1) := by decide +kernel
theorem dL_law_1432 : decode cL_law 1432 = .ok (.invokevirtual 166, 3) := by decide +kernel
theorem dL_law_1435 : decode cL_law 1435 = .ok (.aload_n 2, 1) := by decide +kernel
theorem dL_law_1436 : decode cL_law 1436 = .ok (.aload_n 0, 1) := by decide +kernel
theorem dL_law_1437 : decode cL_law 1437 = .ok (.iload_n 3, 1) := by decide +kernel
theorem dL_law_1438 : decode cL_law 1438 = .ok (.iconst 1, 1) := by decide +kernel
theorem dL_law_1439 : decode cL_law 1439 = .ok (.iadd, 1) := by decide +kernel
theorem dL_law_1440 : decode cL_law 1440 = .ok (.iaload, 1) := by decide +kernel
theorem dL_law_1441 : decode cL_law 1441 = .ok (.invokevirtual 169, 3) := by decide +kernel
theorem dL_law_1444 : decode cL_law 1444 = .ok (.if_icmp .eq 64, 3) := by decide +kernel
theorem dL_law_1447 : decode cL_law 1447 = .ok (.iconst 0, 1) := by decide +kernel
theorem dL_law_1448 : decode cL_law 1448 = .ok (.ireturn, 1) := by decide +kernel
theorem dL_law_1449 : decode cL_law 1449 = .ok (.aload_n 1, 1) := by decide +kernel
theorem dL_law_1450 : decode cL_law 1450 = .ok (.invokevirtual 170, 3) := by decide +kernel
theorem dL_law_1453 : decode cL_law 1453 = .ok (.aload_n 2, 1) := by decide +kernel
theorem dL_law_1454 : decode cL_law 1454 = .ok (.invokevirtual 173, 3) := by decide +kernel
theorem dL_law_1457 : decode cL_law 1457 = .ok (.if_icmp .eq 51, 3) := by decide +kernel
theorem dL_law_1460 : decode cL_law 1460 = .ok (.iconst 0, 1) := by decide +kernel
theorem dL_law_1461 : decode cL_law 1461 = .ok (.ireturn, 1) := by decide +kernel
theorem dL_law_1462 : decode cL_law 1462 = .ok (.aload_n 1, 1) := by decide +kernel
theorem dL_law_1463 : decode cL_law 1463 = .ok (.aload_n 0, 1) := by decide +kernel
theorem dL_law_1464 : decode cL_law 1464 = .ok (.iload_n 3, 1) := by decide +kernel
theorem dL_law_1465 : decode cL_law 1465 = .ok (.iconst 1, 1) := by decide +kernel
theorem dL_law_1466 : decode cL_law 1466 = .ok (.iadd, 1) := by decide +kernel
theorem dL_law_1467 : decode cL_law 1467 = .ok (.iaload, 1) := by decide +kernel
theorem dL_law_1468 : decode cL_law 1468 = .ok (.invokevirtual 174, 3) := by decide +kernel
theorem dL_law_1471 : decode cL_law 1471 = .ok (.aload_n 2, 1) := by decide +kernel
theorem dL_law_1472 : decode cL_law 1472 = .ok (.aload_n 0, 1) := by decide +kernel
theorem dL_law_1473 : decode cL_law 1473 = .ok (.iload_n 3, 1) := by decide +kernel
theorem dL_law_1474 : decode cL_law 1474 = .ok (.iconst 1, 1) := by decide +kernel
theorem dL_law_1475 : decode cL_law 1475 = .ok (.iadd, 1) := by decide +kernel
theorem dL_law_1476 : decode cL_law 1476 = .ok (.iaload, 1) := by decide +kernel
theorem dL_law_1477 : decode cL_law 1477 = .ok (.invokevirtual 177, 3) := by decide +kernel
theorem dL_law_1480 : decode cL_law 1480 = .ok (.if_icmp .eq 28, 3) := by decide +kernel
theorem dL_law_1483 : decode cL_law 1483 = .ok (.iconst 0, 1) := by decide +kernel
theorem dL_law_1484 : decode cL_law 1484 = .ok (.ireturn, 1) := by decide +kernel
theorem dL_law_1485 : decode cL_law 1485 = .ok (.aload_n 1, 1) := by decide +kernel
theorem dL_law_1486 : decode cL_law 1486 = .ok (.aload_n 0, 1) := by decide +kernel
theorem dL_law_1487 : decode cL_law 1487 = .ok (.iload_n 3, 1) := by decide +kernel
theorem dL_law_1488 : decode cL_law 1488 = .ok (.iconst 1, 1) := by decide +kernel
theorem dL_law_1489 : decode cL_law 1489 = .ok (.iadd, 1) := by decide +kernel
theorem dL_law_1490 : decode cL_law 1490 = .ok (.iaload, 1) := by decide +kernel
theorem dL_law_1491 : decode cL_law 1491 = .ok (.invokevirtual 178, 3) := by decide +kernel
theorem dL_law_1494 : decode cL_law 1494 = .ok (.aload_n 2, 1) := by decide +kernel
theorem dL_law_1495 : decode cL_law 1495 = .ok (.aload_n 0, 1) := by decide +kernel
theorem dL_law_1496 : decode cL_law 1496 = .ok (.iload_n 3, 1) := by decide +kernel
theorem dL_law_1497 : decode cL_law 1497 = .ok (.iconst 1, 1) := by decide +kernel
theorem dL_law_1498 : decode cL_law 1498 = .ok (.iadd, 1) := by decide +kernel
theorem dL_law_1499 : decode cL_law 1499 = .ok (.iaload, 1) := by decide +kernel
theorem dL_law_1500 : decode cL_law 1500 = .ok (.invokevirtual 181, 3) := by decide +kernel
theorem dL_law_1503 : decode cL_law 1503 = .ok (.if_icmp .eq 5, 3) := by decide +kernel
theorem dL_law_1506 : decode cL_law 1506 = .ok (.iconst 0, 1) := by decide +kernel
theorem dL_law_1507 : decode cL_law 1507 = .ok (.ireturn, 1) := by decide +kernel
theorem dL_law_1508 : decode cL_law 1508 = .ok (.iinc 3 6, 3) := by decide +kernel
theorem dL_law_1511 : decode cL_law 1511 = .ok (.goto (-1493), 3) := by decide +kernel
theorem dL_law_1514 : decode cL_law 1514 = .ok (.iconst 1, 1) := by decide +kernel
theorem dL_law_1515 : decode cL_law 1515 = .ok (.ireturn, 1) := by decide +kernel
