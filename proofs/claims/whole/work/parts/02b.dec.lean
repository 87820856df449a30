theorem dX6_odds_39 : decode cX6_odds 39 = .ok (.invokevirtual 55, 3) := by decide +kernel
theorem dX6_odds_42 : decode cX6_odds 42 = .ok (.ireturn, 1) := by decide +kernel
theorem dX6_odds_43 : decode cX6_odds 43 = .ok (.aload_n 0, 1) := by decide +kernel
theorem dX6_odds_44 : decode cX6_odds 44 = .ok (.getfield 12, 3) := by decide +kernel
theorem dX6_odds_47 : decode cX6_odds 47 = .ok (.getfield 59, 3) := by decide +kernel
theorem dX6_odds_50 : decode cX6_odds 50 = .ok (.aload_n 0, 1) := by decide +kernel
theorem dX6_odds_51 : decode cX6_odds 51 = .ok (.getfield 12, 3) := by decide +kernel
theorem dX6_odds_54 : decode cX6_odds 54 = .ok (.getfield 59, 3) := by decide +kernel
theorem dX6_odds_57 : decode cX6_odds 57 = .ok (.iconst 1, 1) := by decide +kernel
theorem dX6_odds_58 : decode cX6_odds 58 = .ok (.isub, 1) := by decide +kernel
theorem dX6_odds_59 : decode cX6_odds 59 = .ok (.imul, 1) := by decide +kernel
theorem dX6_odds_60 : decode cX6_odds 60 = .ok (.iconst 2, 1) := by decide +kernel
theorem dX6_odds_61 : decode cX6_odds 61 = .ok (.idiv, 1) := by decide +kernel
theorem dX6_odds_62 : decode cX6_odds 62 = .ok (.istore_n 3, 1) := by decide +kernel
theorem dX6_odds_63 : decode cX6_odds 63 = .ok (.aload_n 0, 1) := by decide +kernel
theorem dX6_odds_64 : decode cX6_odds 64 = .ok (.getfield 40, 3) := by decide +kernel
theorem dX6_odds_67 : decode cX6_odds 67 = .ok (.aload_n 0, 1) := by decide +kernel
theorem dX6_odds_68 : decode cX6_odds 68 = .ok (.getfield 12, 3) := by decide +kernel
theorem dX6_odds_71 : decode cX6_odds 71 = .ok (.iload_n 1, 1) := by decide +kernel
theorem dX6_odds_72 : decode cX6_odds 72 = .ok (.invokevirtual 219, 3) := by decide +kernel
theorem dX6_odds_75 : decode cX6_odds 75 = .ok (.istore 4, 2) := by decide +kernel
theorem dX6_odds_77 : decode cX6_odds 77 = .ok (.iload 4, 2) := by decide +kernel
theorem dX6_odds_79 : decode cX6_odds 79 = .ok (.iload_n 3, 1) := by decide +kernel
theorem dX6_odds_80 : decode cX6_odds 80 = .ok (.invokestatic 222, 3) := by decide +kernel
theorem dX6_odds_83 : decode cX6_odds 83 = .ok (.istore 5, 2) := by decide +kernel
theorem dX6_odds_85 : decode cX6_odds 85 = .ok (.iload_n 2, 1) := by decide +kernel
theorem dX6_odds_86 : decode cX6_odds 86 = .ok (.ifCond .ne 11, 3) := by decide +kernel
theorem dX6_odds_89 : decode cX6_odds 89 = .ok (.iload 4, 2) := by decide +kernel
theorem dX6_odds_91 : decode cX6_odds 91 = .ok (.iload 5, 2) := by decide +kernel
theorem dX6_odds_93 : decode cX6_odds 93 = .ok (.idiv, 1) := by decide +kernel
theorem dX6_odds_94 : decode cX6_odds 94 = .ok (.goto 7, 3) := by decide +kernel
theorem dX6_odds_97 : decode cX6_odds 97 = .ok (.iload_n 3, 1) := by decide +kernel
theorem dX6_odds_98 : decode cX6_odds 98 = .ok (.iload 5, 2) := by decide +kernel
theorem dX6_odds_100 : decode cX6_odds 100 = .ok (.idiv, 1) := by decide +kernel
theorem dX6_odds_101 : decode cX6_odds 101 = .ok (.ireturn, 1) := by decide +kernel
theorem dX6_fits_0 : decode cX6_fits 0 = .ok (.iload_n 1, 1) := by decide +kernel
theorem dX6_fits_1 : decode cX6_fits 1 = .ok (.invokestatic 225, 3) := by decide +kernel
theorem dX6_fits_4 : decode cX6_fits 4 = .ok (.ifCond .ne 12, 3) := by decide +kernel
theorem dX6_fits_7 : decode cX6_fits 7 = .ok (.iload_n 2, 1) := by decide +kernel
theorem dX6_fits_8 : decode cX6_fits 8 = .ok (.iconst 0, 1) := by decide +kernel
theorem dX6_fits_9 : decode cX6_fits 9 = .ok (.iconst 1, 1) := by decide +kernel
theorem dX6_fits_10 : decode cX6_fits 10 = .ok (.invokestatic 115, 3) := by decide +kernel
theorem dX6_fits_13 : decode cX6_fits 13 = .ok (.ifCond .eq 9, 3) := by decide +kernel
theorem dX6_fits_16 : decode cX6_fits 16 = .ok (.aload_n 0, 1) := by decide +kernel
theorem dX6_fits_17 : decode cX6_fits 17 = .ok (.iconst 1, 1) := by decide +kernel
theorem dX6_fits_18 : decode cX6_fits 18 = .ok (.invokevirtual 55, 3) := by decide +kernel
theorem dX6_fits_21 : decode cX6_fits 21 = .ok (.ireturn, 1) := by decide +kernel
theorem dX6_fits_22 : decode cX6_fits 22 = .ok (.aload_n 0, 1) := by decide +kernel
theorem dX6_fits_23 : decode cX6_fits 23 = .ok (.getfield 25, 3) := by decide +kernel
theorem dX6_fits_26 : decode cX6_fits 26 = .ok (.iload_n 1, 1) := by decide +kernel
theorem dX6_fits_27 : decode cX6_fits 27 = .ok (.aaload, 1) := by decide +kernel
theorem dX6_fits_28 : decode cX6_fits 28 = .ok (.astore_n 3, 1) := by decide +kernel
theorem dX6_fits_29 : decode cX6_fits 29 = .ok (.aload_n 3, 1) := by decide +kernel
theorem dX6_fits_30 : decode cX6_fits 30 = .ok (.invokevirtual 228, 3) := by decide +kernel
theorem dX6_fits_33 : decode cX6_fits 33 = .ok (.ifCond .ne 11, 3) := by decide +kernel
theorem dX6_fits_36 : decode cX6_fits 36 = .ok (.aload_n 3, 1) := by decide +kernel
theorem dX6_fits_37 : decode cX6_fits 37 = .ok (.getfield 231, 3) := by decide +kernel
theorem dX6_fits_40 : decode cX6_fits 40 = .ok (.iconst 5, 1) := by decide +kernel
theorem dX6_fits_41 : decode cX6_fits 41 = .ok (.if_icmp .le 9, 3) := by decide +kernel
theorem dX6_fits_44 : decode cX6_fits 44 = .ok (.aload_n 0, 1) := by decide +kernel
theorem dX6_fits_45 : decode cX6_fits 45 = .ok (.iconst 2, 1) := by decide +kernel
theorem dX6_fits_46 : decode cX6_fits 46 = .ok (.invokevirtual 55, 3) := by decide +kernel
theorem dX6_fits_49 : decode cX6_fits 49 = .ok (.ireturn, 1) := by decide +kernel
theorem dX6_fits_50 : decode cX6_fits 50 = .ok (.iload_n 2, 1) := by decide +kernel
theorem dX6_fits_51 : decode cX6_fits 51 = .ok (.ifCond .ne 16, 3) := by decide +kernel
theorem dX6_fits_54 : decode cX6_fits 54 = .ok (.aload_n 0, 1) := by decide +kernel
theorem dX6_fits_55 : decode cX6_fits 55 = .ok (.getfield 40, 3) := by decide +kernel
theorem dX6_fits_58 : decode cX6_fits 58 = .ok (.aload_n 0, 1) := by decide +kernel
theorem dX6_fits_59 : decode cX6_fits 59 = .ok (.getfield 12, 3) := by decide +kernel
theorem dX6_fits_62 : decode cX6_fits 62 = .ok (.aload_n 3, 1) := by decide +kernel
theorem dX6_fits_63 : decode cX6_fits 63 = .ok (.invokevirtual 234, 3) := by decide +kernel
theorem dX6_fits_66 : decode cX6_fits 66 = .ok (.ireturn, 1) := by decide +kernel
theorem dX6_fits_67 : decode cX6_fits 67 = .ok (.aload_n 0, 1) := by decide +kernel
theorem dX6_fits_68 : decode cX6_fits 68 = .ok (.getfield 40, 3) := by decide +kernel
theorem dX6_fits_71 : decode cX6_fits 71 = .ok (.aload_n 0, 1) := by decide +kernel
theorem dX6_fits_72 : decode cX6_fits 72 = .ok (.getfield 12, 3) := by decide +kernel
theorem dX6_fits_75 : decode cX6_fits 75 = .ok (.aload_n 3, 1) := by decide +kernel
theorem dX6_fits_76 : decode cX6_fits 76 = .ok (.invokevirtual 238, 3) := by decide +kernel
theorem dX6_fits_79 : decode cX6_fits 79 = .ok (.istore 4, 2) := by decide +kernel
theorem dX6_fits_81 : decode cX6_fits 81 = .ok (.iload 4, 2) := by decide +kernel
theorem dX6_fits_83 : decode cX6_fits 83 = .ok (.ifCond .le 8, 3) := by decide +kernel
theorem dX6_fits_86 : decode cX6_fits 86 = .ok (.iload 4, 2) := by decide +kernel
theorem dX6_fits_88 : decode cX6_fits 88 = .ok (.goto 8, 3) := by decide +kernel
theorem dX6_fits_91 : decode cX6_fits 91 = .ok (.aload_n 0, 1) := by decide +kernel
theorem dX6_fits_92 : decode cX6_fits 92 = .ok (.iconst 2, 1) := by decide +kernel
theorem dX6_fits_93 : decode cX6_fits 93 = .ok (.invokevirtual 55, 3) := by decide +kernel
theorem dX6_fits_96 : decode cX6_fits 96 = .ok (.ireturn, 1) := by decide +kernel
theorem dX6_voice_0 : decode cX6_voice 0 = .ok (.aload_n 0, 1) := by decide +kernel
theorem dX6_voice_1 : decode cX6_voice 1 = .ok (.iload_n 1, 1) := by decide +kernel
theorem dX6_voice_2 : decode cX6_voice 2 = .ok (.invokevirtual 74, 3) := by decide +kernel
theorem dX6_voice_5 : decode cX6_voice 5 = .ok (.ifCond .ne 12, 3) := by decide +kernel
theorem dX6_voice_8 : decode cX6_voice 8 = .ok (.iload_n 2, 1) := by decide +kernel
theorem dX6_voice_9 : decode cX6_voice 9 = .ok (.iconst 0, 1) := by decide +kernel
theorem dX6_voice_10 : decode cX6_voice 10 = .ok (.iconst 3, 1) := by decide +kernel
theorem dX6_voice_11 : decode cX6_voice 11 = .ok (.invokestatic 115, 3) := by decide +kernel
theorem dX6_voice_14 : decode cX6_voice 14 = .ok (.ifCond .eq 9, 3) := by decide +kernel
theorem dX6_voice_17 : decode cX6_voice 17 = .ok (.aload_n 0, 1) := by decide +kernel
theorem dX6_voice_18 : decode cX6_voice 18 = .ok (.iconst 1, 1) := by decide +kernel
theorem dX6_voice_19 : decode cX6_voice 19 = .ok (.invokevirtual 55, 3) := by decide +kernel
theorem dX6_voice_22 : decode cX6_voice 22 = .ok (.ireturn, 1) := by decide +kernel
theorem dX6_voice_23 : decode cX6_voice 23 = .ok (.aload_n 0, 1) := by decide +kernel
theorem dX6_voice_24 : decode cX6_voice 24 = .ok (.getfield 47, 3) := by decide +kernel
theorem dX6_voice_27 : decode cX6_voice 27 = .ok (.aload_n 0, 1) := by decide +kernel
theorem dX6_voice_28 : decode cX6_voice 28 = .ok (.getfield 12, 3) := by decide +kernel
theorem dX6_voice_31 : decode cX6_voice 31 = .ok (.iload_n 1, 1) := by decide +kernel
theorem dX6_voice_32 : decode cX6_voice 32 = .ok (.iload_n 2, 1) := by decide +kernel
theorem dX6_voice_33 : decode cX6_voice 33 = .ok (.iload_n 3, 1) := by decide +kernel
theorem dX6_voice_34 : decode cX6_voice 34 = .ok (.invokevirtual 241, 3) := by decide +kernel
theorem dX6_voice_37 : decode cX6_voice 37 = .ok (.istore 4, 2) := by decide +kernel
theorem dX6_voice_39 : decode cX6_voice 39 = .ok (.aload_n 0, 1) := by decide +kernel
theorem dX6_voice_40 : decode cX6_voice 40 = .ok (.getfield 47, 3) := by decide +kernel
theorem dX6_voice_43 : decode cX6_voice 43 = .ok (.getfield 244, 3) := by decide +kernel
theorem dX6_voice_46 : decode cX6_voice 46 = .ok (.ifCond .eq 12, 3) := by decide +kernel
theorem dX6_voice_49 : decode cX6_voice 49 = .ok (.aload_n 0, 1) := by decide +kernel
theorem dX6_voice_50 : decode cX6_voice 50 = .ok (.bipush 6, 2) := by decide +kernel
theorem dX6_voice_52 : decode cX6_voice 52 = .ok (.invokevirtual 55, 3) := by decide +kernel
theorem dX6_voice_55 : decode cX6_voice 55 = .ok (.goto 5, 3) := by decide +kernel
theorem dX6_voice_58 : decode cX6_voice 58 = .ok (.iload 4, 2) := by decide +kernel
theorem dX6_voice_60 : decode cX6_voice 60 = .ok (.ireturn, 1) := by decide +kernel
theorem dX6_body_0 : decode cX6_body 0 = .ok (.iload_n 1, 1) := by decide +kernel
theorem dX6_body_1 : decode cX6_body 1 = .ok (.ifCond .lt 14, 3) := by decide +kernel
theorem dX6_body_4 : decode cX6_body 4 = .ok (.iload_n 1, 1) := by decide +kernel
theorem dX6_body_5 : decode cX6_body 5 = .ok (.aload_n 0, 1) := by decide +kernel
theorem dX6_body_6 : decode cX6_body 6 = .ok (.getfield 47, 3) := by decide +kernel
theorem dX6_body_9 : decode cX6_body 9 = .ok (.getfield 248, 3) := by decide +kernel
theorem dX6_body_12 : decode cX6_body 12 = .ok (.if_icmp .lt 9, 3) := by decide +kernel
theorem dX6_body_15 : decode cX6_body 15 = .ok (.aload_n 0, 1) := by decide +kernel
theorem dX6_body_16 : decode cX6_body 16 = .ok (.iconst 2, 1) := by decide +kernel
theorem dX6_body_17 : decode cX6_body 17 = .ok (.invokevirtual 55, 3) := by decide +kernel
theorem dX6_body_20 : decode cX6_body 20 = .ok (.ireturn, 1) := by decide +kernel
theorem dX6_body_21 : decode cX6_body 21 = .ok (.aload_n 0, 1) := by decide +kernel
theorem dX6_body_22 : decode cX6_body 22 = .ok (.getfield 47, 3) := by decide +kernel
theorem dX6_body_25 : decode cX6_body 25 = .ok (.getfield 251, 3) := by decide +kernel
theorem dX6_body_28 : decode cX6_body 28 = .ok (.iload_n 1, 1) := by decide +kernel
theorem dX6_body_29 : decode cX6_body 29 = .ok (.iaload, 1) := by decide +kernel
theorem dX6_body_30 : decode cX6_body 30 = .ok (.ireturn, 1) := by decide +kernel
theorem dX6_sheet_0 : decode cX6_sheet 0 = .ok (.iload_n 1, 1) := by decide +kernel
theorem dX6_sheet_1 : decode cX6_sheet 1 = .ok (.invokestatic 225, 3) := by decide +kernel
theorem dX6_sheet_4 : decode cX6_sheet 4 = .ok (.ifCond .ne 25, 3) := by decide +kernel
theorem dX6_sheet_7 : decode cX6_sheet 7 = .ok (.iload_n 2, 1) := by decide +kernel
theorem dX6_sheet_8 : decode cX6_sheet 8 = .ok (.ifCond .eq 27, 3) := by decide +kernel
theorem dX6_sheet_11 : decode cX6_sheet 11 = .ok (.iload_n 2, 1) := by decide +kernel
theorem dX6_sheet_12 : decode cX6_sheet 12 = .ok (.bipush 8, 2) := by decide +kernel
theorem dX6_sheet_14 : decode cX6_sheet 14 = .ok (.if_icmp .eq 21, 3) := by decide +kernel
theorem dX6_sheet_17 : decode cX6_sheet 17 = .ok (.iload_n 2, 1) := by decide +kernel
theorem dX6_sheet_18 : decode cX6_sheet 18 = .ok (.bipush 16, 2) := by decide +kernel
theorem dX6_sheet_20 : decode cX6_sheet 20 = .ok (.if_icmp .eq 15, 3) := by decide +kernel
theorem dX6_sheet_23 : decode cX6_sheet 23 = .ok (.iload_n 2, 1) := by decide +kernel
theorem dX6_sheet_24 : decode cX6_sheet 24 = .ok (.bipush 32, 2) := by decide +kernel
theorem dX6_sheet_26 : decode cX6_sheet 26 = .ok (.if_icmp .eq 9, 3) := by decide +kernel
theorem dX6_sheet_29 : decode cX6_sheet 29 = .ok (.aload_n 0, 1) := by decide +kernel
theorem dX6_sheet_30 : decode cX6_sheet 30 = .ok (.iconst 1, 1) := by decide +kernel
theorem dX6_sheet_31 : decode cX6_sheet 31 = .ok (.invokevirtual 55, 3) := by decide +kernel
theorem dX6_sheet_34 : decode cX6_sheet 34 = .ok (.ireturn, 1) := by decide +kernel
theorem dX6_sheet_35 : decode cX6_sheet 35 = .ok (.iload_n 2, 1) := by decide +kernel
theorem dX6_sheet_36 : decode cX6_sheet 36 = .ok (.ifCond .ne 14, 3) := by decide +kernel
theorem dX6_sheet_39 : decode cX6_sheet 39 = .ok (.aload_n 0, 1) := by decide +kernel
theorem dX6_sheet_40 : decode cX6_sheet 40 = .ok (.getfield 25, 3) := by decide +kernel
theorem dX6_sheet_43 : decode cX6_sheet 43 = .ok (.iload_n 1, 1) := by decide +kernel
theorem dX6_sheet_44 : decode cX6_sheet 44 = .ok (.aaload, 1) := by decide +kernel
theorem dX6_sheet_45 : decode cX6_sheet 45 = .ok (.invokevirtual 254, 3) := by decide +kernel
theorem dX6_sheet_48 : decode cX6_sheet 48 = .ok (.iconst 1, 1) := by decide +kernel
theorem dX6_sheet_49 : decode cX6_sheet 49 = .ok (.ireturn, 1) := by decide +kernel
theorem dX6_sheet_50 : decode cX6_sheet 50 = .ok (.iload_n 3, 1) := by decide +kernel
theorem dX6_sheet_51 : decode cX6_sheet 51 = .ok (.ifCond .ge 9, 3) := by decide +kernel
theorem dX6_sheet_54 : decode cX6_sheet 54 = .ok (.aload_n 0, 1) := by decide +kernel
theorem dX6_sheet_55 : decode cX6_sheet 55 = .ok (.iconst 3, 1) := by decide +kernel
theorem dX6_sheet_56 : decode cX6_sheet 56 = .ok (.invokevirtual 55, 3) := by decide +kernel
theorem dX6_sheet_59 : decode cX6_sheet 59 = .ok (.ireturn, 1) := by decide +kernel
theorem dX6_sheet_60 : decode cX6_sheet 60 = .ok (.iload_n 3, 1) := by decide +kernel
theorem dX6_sheet_61 : decode cX6_sheet 61 = .ok (.bipush 24, 2) := by decide +kernel
theorem dX6_sheet_63 : decode cX6_sheet 63 = .ok (.if_icmp .le 9, 3) := by decide +kernel
theorem dX6_sheet_66 : decode cX6_sheet 66 = .ok (.aload_n 0, 1) := by decide +kernel
theorem dX6_sheet_67 : decode cX6_sheet 67 = .ok (.iconst 1, 1) := by decide +kernel
theorem dX6_sheet_68 : decode cX6_sheet 68 = .ok (.invokevirtual 55, 3) := by decide +kernel
theorem dX6_sheet_71 : decode cX6_sheet 71 = .ok (.ireturn, 1) := by decide +kernel
theorem dX6_sheet_72 : decode cX6_sheet 72 = .ok (.aload_n 0, 1) := by decide +kernel
theorem dX6_sheet_73 : decode cX6_sheet 73 = .ok (.getfield 25, 3) := by decide +kernel
theorem dX6_sheet_76 : decode cX6_sheet 76 = .ok (.iload_n 1, 1) := by decide +kernel
theorem dX6_sheet_77 : decode cX6_sheet 77 = .ok (.aaload, 1) := by decide +kernel
theorem dX6_sheet_78 : decode cX6_sheet 78 = .ok (.iload_n 2, 1) := by decide +kernel
theorem dX6_sheet_79 : decode cX6_sheet 79 = .ok (.iload_n 3, 1) := by decide +kernel
theorem dX6_sheet_80 : decode cX6_sheet 80 = .ok (.invokevirtual 257, 3) := by decide +kernel
theorem dX6_sheet_83 : decode cX6_sheet 83 = .ok (.iconst 1, 1) := by decide +kernel
theorem dX6_sheet_84 : decode cX6_sheet 84 = .ok (.ireturn, 1) := by decide +kernel
theorem dX6_put_0 : decode cX6_put 0 = .ok (.iload_n 1, 1) := by decide +kernel
theorem dX6_put_1 : decode cX6_put 1 = .ok (.invokestatic 225, 3) := by decide +kernel
theorem dX6_put_4 : decode cX6_put 4 = .ok (.ifCond .eq 9, 3) := by decide +kernel
theorem dX6_put_7 : decode cX6_put 7 = .ok (.aload_n 0, 1) := by decide +kernel
theorem dX6_put_8 : decode cX6_put 8 = .ok (.iconst 1, 1) := by decide +kernel
theorem dX6_put_9 : decode cX6_put 9 = .ok (.invokevirtual 55, 3) := by decide +kernel
theorem dX6_put_12 : decode cX6_put 12 = .ok (.ireturn, 1) := by decide +kernel
theorem dX6_put_13 : decode cX6_put 13 = .ok (.aload_n 0, 1) := by decide +kernel
theorem dX6_put_14 : decode cX6_put 14 = .ok (.getfield 25, 3) := by decide +kernel
theorem dX6_put_17 : decode cX6_put 17 = .ok (.iload_n 1, 1) := by decide +kernel
theorem dX6_put_18 : decode cX6_put 18 = .ok (.aaload, 1) := by decide +kernel
theorem dX6_put_19 : decode cX6_put 19 = .ok (.astore 4, 2) := by decide +kernel
theorem dX6_put_21 : decode cX6_put 21 = .ok (.aload 4, 2) := by decide +kernel
theorem dX6_put_23 : decode cX6_put 23 = .ok (.invokevirtual 228, 3) := by decide +kernel
theorem dX6_put_26 : decode cX6_put 26 = .ok (.ifCond .eq 9, 3) := by decide +kernel
theorem dX6_put_29 : decode cX6_put 29 = .ok (.aload_n 0, 1) := by decide +kernel
theorem dX6_put_30 : decode cX6_put 30 = .ok (.iconst 2, 1) := by decide +kernel
theorem dX6_put_31 : decode cX6_put 31 = .ok (.invokevirtual 55, 3) := by decide +kernel
theorem dX6_put_34 : decode cX6_put 34 = .ok (.ireturn, 1) := by decide +kernel
theorem dX6_put_35 : decode cX6_put 35 = .ok (.iload_n 2, 1) := by decide +kernel
theorem dX6_put_36 : decode cX6_put 36 = .ok (.ifCond .lt 12, 3) := by decide +kernel
theorem dX6_put_39 : decode cX6_put 39 = .ok (.iload_n 2, 1) := by decide +kernel
theorem dX6_put_40 : decode cX6_put 40 = .ok (.aload 4, 2) := by decide +kernel
theorem dX6_put_42 : decode cX6_put 42 = .ok (.getfield 231, 3) := by decide +kernel
theorem dX6_put_45 : decode cX6_put 45 = .ok (.if_icmp .lt 9, 3) := by decide +kernel
theorem dX6_put_48 : decode cX6_put 48 = .ok (.aload_n 0, 1) := by decide +kernel
theorem dX6_put_49 : decode cX6_put 49 = .ok (.iconst 1, 1) := by decide +kernel
theorem dX6_put_50 : decode cX6_put 50 = .ok (.invokevirtual 55, 3) := by decide +kernel
theorem dX6_put_53 : decode cX6_put 53 = .ok (.ireturn, 1) := by decide +kernel
theorem dX6_put_54 : decode cX6_put 54 = .ok (.aload 4, 2) := by decide +kernel
theorem dX6_put_56 : decode cX6_put 56 = .ok (.iload_n 2, 1) := by decide +kernel
theorem dX6_put_57 : decode cX6_put 57 = .ok (.iload_n 3, 1) := by decide +kernel
theorem dX6_put_58 : decode cX6_put 58 = .ok (.invokevirtual 261, 3) := by decide +kernel
theorem dX6_put_61 : decode cX6_put 61 = .ok (.iconst 1, 1) := by decide +kernel
theorem dX6_put_62 : decode cX6_put 62 = .ok (.ireturn, 1) := by decide +kernel
theorem dX6_move_0 : decode cX6_move 0 = .ok (.iload_n 1, 1) := by decide +kernel
theorem dX6_move_1 : decode cX6_move 1 = .ok (.invokestatic 225, 3) := by decide +kernel
theorem dX6_move_4 : decode cX6_move 4 = .ok (.ifCond .ne 10, 3) := by decide +kernel
theorem dX6_move_7 : decode cX6_move 7 = .ok (.iload_n 3, 1) := by decide +kernel
theorem dX6_move_8 : decode cX6_move 8 = .ok (.invokestatic 225, 3) := by decide +kernel
theorem dX6_move_11 : decode cX6_move 11 = .ok (.ifCond .eq 9, 3) := by decide +kernel
theorem dX6_move_14 : decode cX6_move 14 = .ok (.aload_n 0, 1) := by decide +kernel
theorem dX6_move_15 : decode cX6_move 15 = .ok (.iconst 1, 1) := by decide +kernel
theorem dX6_move_16 : decode cX6_move 16 = .ok (.invokevirtual 55, 3) := by decide +kernel
theorem dX6_move_19 : decode cX6_move 19 = .ok (.ireturn, 1) := by decide +kernel
theorem dX6_move_20 : decode cX6_move 20 = .ok (.aload_n 0, 1) := by decide +kernel
theorem dX6_move_21 : decode cX6_move 21 = .ok (.getfield 25, 3) := by decide +kernel
theorem dX6_move_24 : decode cX6_move 24 = .ok (.iload_n 1, 1) := by decide +kernel
theorem dX6_move_25 : decode cX6_move 25 = .ok (.aaload, 1) := by decide +kernel
theorem dX6_move_26 : decode cX6_move 26 = .ok (.astore 6, 2) := by decide +kernel
theorem dX6_move_28 : decode cX6_move 28 = .ok (.aload_n 0, 1) := by decide +kernel
theorem dX6_move_29 : decode cX6_move 29 = .ok (.getfield 25, 3) := by decide +kernel
theorem dX6_move_32 : decode cX6_move 32 = .ok (.iload_n 3, 1) := by decide +kernel
theorem dX6_move_33 : decode cX6_move 33 = .ok (.aaload, 1) := by decide +kernel
theorem dX6_move_34 : decode cX6_move 34 = .ok (.astore 7, 2) := by decide +kernel
theorem dX6_move_36 : decode cX6_move 36 = .ok (.aload 6, 2) := by decide +kernel
theorem dX6_move_38 : decode cX6_move 38 = .ok (.invokevirtual 228, 3) := by decide +kernel
theorem dX6_move_41 : decode cX6_move 41 = .ok (.ifCond .ne 11, 3) := by decide +kernel
theorem dX6_move_44 : decode cX6_move 44 = .ok (.aload 7, 2) := by decide +kernel
theorem dX6_move_46 : decode cX6_move 46 = .ok (.invokevirtual 228, 3) := by decide +kernel
theorem dX6_move_49 : decode cX6_move 49 = .ok (.ifCond .eq 9, 3) := by decide +kernel
theorem dX6_move_52 : decode cX6_move 52 = .ok (.aload_n 0, 1) := by decide +kernel
theorem dX6_move_53 : decode cX6_move 53 = .ok (.iconst 2, 1) := by decide +kernel
theorem dX6_move_54 : decode cX6_move 54 = .ok (.invokevirtual 55, 3) := by decide +kernel
theorem dX6_move_57 : decode cX6_move 57 = .ok (.ireturn, 1) := by decide +kernel
theorem dX6_move_58 : decode cX6_move 58 = .ok (.aload 6, 2) := by decide +kernel
theorem dX6_move_60 : decode cX6_move 60 = .ok (.getfield 264, 3) := by decide +kernel
theorem dX6_move_63 : decode cX6_move 63 = .ok (.aload 7, 2) := by decide +kernel
theorem dX6_move_65 : decode cX6_move 65 = .ok (.getfield 264, 3) := by decide +kernel
theorem dX6_move_68 : decode cX6_move 68 = .ok (.if_icmp .eq 9, 3) := by decide +kernel
theorem dX6_move_71 : decode cX6_move 71 = .ok (.aload_n 0, 1) := by decide +kernel
theorem dX6_move_72 : decode cX6_move 72 = .ok (.iconst 5, 1) := by decide +kernel
theorem dX6_move_73 : decode cX6_move 73 = .ok (.invokevirtual 55, 3) := by decide +kernel
theorem dX6_move_76 : decode cX6_move 76 = .ok (.ireturn, 1) := by decide +kernel
theorem dX6_move_77 : decode cX6_move 77 = .ok (.iload 5, 2) := by decide +kernel
theorem dX6_move_79 : decode cX6_move 79 = .ok (.ifCond .lt 26, 3) := by decide +kernel
theorem dX6_move_82 : decode cX6_move 82 = .ok (.aload 6, 2) := by decide +kernel
theorem dX6_move_84 : decode cX6_move 84 = .ok (.iload_n 2, 1) := by decide +kernel
theorem dX6_move_85 : decode cX6_move 85 = .ok (.iload 5, 2) := by decide +kernel
theorem dX6_move_87 : decode cX6_move 87 = .ok (.invokevirtual 267, 3) := by decide +kernel
theorem dX6_move_90 : decode cX6_move 90 = .ok (.ifCond .ne 15, 3) := by decide +kernel
theorem dX6_move_93 : decode cX6_move 93 = .ok (.aload 7, 2) := by decide +kernel
theorem dX6_move_95 : decode cX6_move 95 = .ok (.iload 4, 2) := by decide +kernel
theorem dX6_move_97 : decode cX6_move 97 = .ok (.iload 5, 2) := by decide +kernel
theorem dX6_move_99 : decode cX6_move 99 = .ok (.invokevirtual 267, 3) := by decide +kernel
theorem dX6_move_102 : decode cX6_move 102 = .ok (.ifCond .eq 9, 3) := by decide +kernel
theorem dX6_move_105 : decode cX6_move 105 = .ok (.aload_n 0, 1) := by decide +kernel
theorem dX6_move_106 : decode cX6_move 106 = .ok (.iconst 1, 1) := by decide +kernel
theorem dX6_move_107 : decode cX6_move 107 = .ok (.invokevirtual 55, 3) := by decide +kernel
theorem dX6_move_110 : decode cX6_move 110 = .ok (.ireturn, 1) := by decide +kernel
theorem dX6_move_111 : decode cX6_move 111 = .ok (.aload 6, 2) := by decide +kernel
theorem dX6_move_113 : decode cX6_move 113 = .ok (.getfield 270, 3) := by decide +kernel
theorem dX6_move_116 : decode cX6_move 116 = .ok (.iload_n 2, 1) := by decide +kernel
theorem dX6_move_117 : decode cX6_move 117 = .ok (.aload 7, 2) := by decide +kernel
theorem dX6_move_119 : decode cX6_move 119 = .ok (.getfield 270, 3) := by decide +kernel
theorem dX6_move_122 : decode cX6_move 122 = .ok (.iload 4, 2) := by decide +kernel
theorem dX6_move_124 : decode cX6_move 124 = .ok (.iload 5, 2) := by decide +kernel
theorem dX6_move_126 : decode cX6_move 126 = .ok (.invokestatic 273, 3) := by decide +kernel
theorem dX6_move_129 : decode cX6_move 129 = .ok (.iload 5, 2) := by decide +kernel
theorem dX6_move_131 : decode cX6_move 131 = .ok (.ireturn, 1) := by decide +kernel
theorem dX6_spoons_0 : decode cX6_spoons 0 = .ok (.aload_n 0, 1) := by decide +kernel
theorem dX6_spoons_1 : decode cX6_spoons 1 = .ok (.iload_n 1, 1) := by decide +kernel
theorem dX6_spoons_2 : decode cX6_spoons 2 = .ok (.invokevirtual 74, 3) := by decide +kernel
theorem dX6_spoons_5 : decode cX6_spoons 5 = .ok (.ifCond .ne 10, 3) := by decide +kernel
theorem dX6_spoons_8 : decode cX6_spoons 8 = .ok (.iload_n 2, 1) := by decide +kernel
theorem dX6_spoons_9 : decode cX6_spoons 9 = .ok (.invokestatic 225, 3) := by decide +kernel
theorem dX6_spoons_12 : decode cX6_spoons 12 = .ok (.ifCond .eq 9, 3) := by decide +kernel
theorem dX6_spoons_15 : decode cX6_spoons 15 = .ok (.aload_n 0, 1) := by decide +kernel
theorem dX6_spoons_16 : decode cX6_spoons 16 = .ok (.iconst 1, 1) := by decide +kernel
theorem dX6_spoons_17 : decode cX6_spoons 17 = .ok (.invokevirtual 55, 3) := by decide +kernel
theorem dX6_spoons_20 : decode cX6_spoons 20 = .ok (.ireturn, 1) := by decide +kernel
theorem dX6_spoons_21 : decode cX6_spoons 21 = .ok (.aload_n 0, 1) := by decide +kernel
theorem dX6_spoons_22 : decode cX6_spoons 22 = .ok (.getfield 25, 3) := by decide +kernel
theorem dX6_spoons_25 : decode cX6_spoons 25 = .ok (.iload_n 2, 1) := by decide +kernel
theorem dX6_spoons_26 : decode cX6_spoons 26 = .ok (.aaload, 1) := by decide +kernel
theorem dX6_spoons_27 : decode cX6_spoons 27 = .ok (.astore_n 3, 1) := by decide +kernel
theorem dX6_spoons_28 : decode cX6_spoons 28 = .ok (.aload_n 3, 1) := by decide +kernel
theorem dX6_spoons_29 : decode cX6_spoons 29 = .ok (.invokevirtual 228, 3) := by decide +kernel
theorem dX6_spoons_32 : decode cX6_spoons 32 = .ok (.ifCond .eq 9, 3) := by decide +kernel
theorem dX6_spoons_35 : decode cX6_spoons 35 = .ok (.aload_n 0, 1) := by decide +kernel
theorem dX6_spoons_36 : decode cX6_spoons 36 = .ok (.iconst 2, 1) := by decide +kernel
theorem dX6_spoons_37 : decode cX6_spoons 37 = .ok (.invokevirtual 55, 3) := by decide +kernel
theorem dX6_spoons_40 : decode cX6_spoons 40 = .ok (.ireturn, 1) := by decide +kernel
theorem dX6_spoons_41 : decode cX6_spoons 41 = .ok (.aload_n 3, 1) := by decide +kernel
theorem dX6_spoons_42 : decode cX6_spoons 42 = .ok (.getfield 231, 3) := by decide +kernel
theorem dX6_spoons_45 : decode cX6_spoons 45 = .ok (.iconst 5, 1) := by decide +kernel
theorem dX6_spoons_46 : decode cX6_spoons 46 = .ok (.invokestatic 279, 3) := by decide +kernel
theorem dX6_spoons_49 : decode cX6_spoons 49 = .ok (.istore 4, 2) := by decide +kernel
theorem dX6_spoons_51 : decode cX6_spoons 51 = .ok (.iconst 0, 1) := by decide +kernel
theorem dX6_spoons_52 : decode cX6_spoons 52 = .ok (.istore 5, 2) := by decide +kernel
theorem dX6_spoons_54 : decode cX6_spoons 54 = .ok (.iload 5, 2) := by decide +kernel
theorem dX6_spoons_56 : decode cX6_spoons 56 = .ok (.iload 4, 2) := by decide +kernel
theorem dX6_spoons_58 : decode cX6_spoons 58 = .ok (.if_icmp .ge 49, 3) := by decide +kernel
theorem dX6_spoons_61 : decode cX6_spoons 61 = .ok (.aload_n 3, 1) := by decide +kernel
theorem dX6_spoons_62 : decode cX6_spoons 62 = .ok (.getfield 270, 3) := by decide +kernel
theorem dX6_spoons_65 : decode cX6_spoons 65 = .ok (.iload 5, 2) := by decide +kernel
theorem dX6_spoons_67 : decode cX6_spoons 67 = .ok (.iaload, 1) := by decide +kernel
theorem dX6_spoons_68 : decode cX6_spoons 68 = .ok (.iconst 0, 1) := by decide +kernel
theorem dX6_spoons_69 : decode cX6_spoons 69 = .ok (.bipush 99, 2) := by decide +kernel
theorem dX6_spoons_71 : decode cX6_spoons 71 = .ok (.invokestatic 115, 3) := by decide +kernel
theorem dX6_spoons_74 : decode cX6_spoons 74 = .ok (.ifCond .eq 6, 3) := by decide +kernel
theorem dX6_spoons_77 : decode cX6_spoons 77 = .ok (.iload 5, 2) := by decide +kernel
theorem dX6_spoons_79 : decode cX6_spoons 79 = .ok (.ireturn, 1) := by decide +kernel
theorem dX6_spoons_80 : decode cX6_spoons 80 = .ok (.aload_n 0, 1) := by decide +kernel
theorem dX6_spoons_81 : decode cX6_spoons 81 = .ok (.getfield 12, 3) := by decide +kernel
theorem dX6_spoons_84 : decode cX6_spoons 84 = .ok (.getfield 89, 3) := by decide +kernel
theorem dX6_spoons_87 : decode cX6_spoons 87 = .ok (.iload_n 1, 1) := by decide +kernel
theorem dX6_spoons_88 : decode cX6_spoons 88 = .ok (.iload 5, 2) := by decide +kernel
theorem dX6_spoons_90 : decode cX6_spoons 90 = .ok (.invokestatic 111, 3) := by decide +kernel
theorem dX6_spoons_93 : decode cX6_spoons 93 = .ok (.aload_n 3, 1) := by decide +kernel
theorem dX6_spoons_94 : decode cX6_spoons 94 = .ok (.getfield 270, 3) := by decide +kernel
theorem dX6_spoons_97 : decode cX6_spoons 97 = .ok (.iload 5, 2) := by decide +kernel
theorem dX6_spoons_99 : decode cX6_spoons 99 = .ok (.iaload, 1) := by decide +kernel
theorem dX6_spoons_100 : decode cX6_spoons 100 = .ok (.iastore, 1) := by decide +kernel
theorem dX6_spoons_101 : decode cX6_spoons 101 = .ok (.iinc 5 1, 3) := by decide +kernel
theorem dX6_spoons_104 : decode cX6_spoons 104 = .ok (.goto (-50), 3) := by decide +kernel
theorem dX6_spoons_107 : decode cX6_spoons 107 = .ok (.iload 4, 2) := by decide +kernel
theorem dX6_spoons_109 : decode cX6_spoons 109 = .ok (.ireturn, 1) := by decide +kernel
theorem dX6_judge_0 : decode cX6_judge 0 = .ok (.iload_n 1, 1) := by decide +kernel
theorem dX6_judge_1 : decode cX6_judge 1 = .ok (.invokestatic 225, 3) := by decide +kernel
theorem dX6_judge_4 : decode cX6_judge 4 = .ok (.ifCond .eq 9, 3) := by decide +kernel
theorem dX6_judge_7 : decode cX6_judge 7 = .ok (.aload_n 0, 1) := by decide +kernel
theorem dX6_judge_8 : decode cX6_judge 8 = .ok (.iconst 1, 1) := by decide +kernel
theorem dX6_judge_9 : decode cX6_judge 9 = .ok (.invokevirtual 55, 3) := by decide +kernel
theorem dX6_judge_12 : decode cX6_judge 12 = .ok (.ireturn, 1) := by decide +kernel
theorem dX6_judge_13 : decode cX6_judge 13 = .ok (.aload_n 0, 1) := by decide +kernel
theorem dX6_judge_14 : decode cX6_judge 14 = .ok (.getfield 25, 3) := by decide +kernel
theorem dX6_judge_17 : decode cX6_judge 17 = .ok (.iload_n 1, 1) := by decide +kernel
theorem dX6_judge_18 : decode cX6_judge 18 = .ok (.aaload, 1) := by decide +kernel
theorem dX6_judge_19 : decode cX6_judge 19 = .ok (.astore_n 2, 1) := by decide +kernel
theorem dX6_judge_20 : decode cX6_judge 20 = .ok (.aload_n 2, 1) := by decide +kernel
theorem dX6_judge_21 : decode cX6_judge 21 = .ok (.invokevirtual 228, 3) := by decide +kernel
theorem dX6_judge_24 : decode cX6_judge 24 = .ok (.ifCond .eq 9, 3) := by decide +kernel
theorem dX6_judge_27 : decode cX6_judge 27 = .ok (.aload_n 0, 1) := by decide +kernel
theorem dX6_judge_28 : decode cX6_judge 28 = .ok (.iconst 2, 1) := by decide +kernel
theorem dX6_judge_29 : decode cX6_judge 29 = .ok (.invokevirtual 55, 3) := by decide +kernel
theorem dX6_judge_32 : decode cX6_judge 32 = .ok (.ireturn, 1) := by decide +kernel
theorem dX6_judge_33 : decode cX6_judge 33 = .ok (.aload_n 2, 1) := by decide +kernel
theorem dX6_judge_34 : decode cX6_judge 34 = .ok (.getfield 231, 3) := by decide +kernel
theorem dX6_judge_37 : decode cX6_judge 37 = .ok (.aload_n 0, 1) := by decide +kernel
theorem dX6_judge_38 : decode cX6_judge 38 = .ok (.getfield 12, 3) := by decide +kernel
theorem dX6_judge_41 : decode cX6_judge 41 = .ok (.getfield 59, 3) := by decide +kernel
theorem dX6_judge_44 : decode cX6_judge 44 = .ok (.invokestatic 279, 3) := by decide +kernel
theorem dX6_judge_47 : decode cX6_judge 47 = .ok (.istore_n 3, 1) := by decide +kernel
theorem dX6_judge_48 : decode cX6_judge 48 = .ok (.iconst 0, 1) := by decide +kernel
theorem dX6_judge_49 : decode cX6_judge 49 = .ok (.istore 4, 2) := by decide +kernel
theorem dX6_judge_51 : decode cX6_judge 51 = .ok (.iload 4, 2) := by decide +kernel
theorem dX6_judge_53 : decode cX6_judge 53 = .ok (.iload_n 3, 1) := by decide +kernel
theorem dX6_judge_54 : decode cX6_judge 54 = .ok (.if_icmp .ge 34, 3) := by decide +kernel
theorem dX6_judge_57 : decode cX6_judge 57 = .ok (.aload_n 2, 1) := by decide +kernel
theorem dX6_judge_58 : decode cX6_judge 58 = .ok (.getfield 270, 3) := by decide +kernel
theorem dX6_judge_61 : decode cX6_judge 61 = .ok (.iload 4, 2) := by decide +kernel
theorem dX6_judge_63 : decode cX6_judge 63 = .ok (.iaload, 1) := by decide +kernel
theorem dX6_judge_64 : decode cX6_judge 64 = .ok (.aload_n 0, 1) := by decide +kernel
theorem dX6_judge_65 : decode cX6_judge 65 = .ok (.getfield 12, 3) := by decide +kernel
theorem dX6_judge_68 : decode cX6_judge 68 = .ok (.getfield 89, 3) := by decide +kernel
theorem dX6_judge_71 : decode cX6_judge 71 = .ok (.iload 4, 2) := by decide +kernel
theorem dX6_judge_73 : decode cX6_judge 73 = .ok (.invokestatic 92, 3) := by decide +kernel
theorem dX6_judge_76 : decode cX6_judge 76 = .ok (.if_icmp .eq 6, 3) := by decide +kernel
theorem dX6_judge_79 : decode cX6_judge 79 = .ok (.iload 4, 2) := by decide +kernel
theorem dX6_judge_81 : decode cX6_judge 81 = .ok (.ireturn, 1) := by decide +kernel
theorem dX6_judge_82 : decode cX6_judge 82 = .ok (.iinc 4 1, 3) := by decide +kernel
theorem dX6_judge_85 : decode cX6_judge 85 = .ok (.goto (-34), 3) := by decide +kernel
theorem dX6_judge_88 : decode cX6_judge 88 = .ok (.iload_n 3, 1) := by decide +kernel
theorem dX6_judge_89 : decode cX6_judge 89 = .ok (.ireturn, 1) := by decide +kernel
theorem dX6_image_0 : decode cX6_image 0 = .ok (.aload_n 0, 1) := by decide +kernel
theorem dX6_image_1 : decode cX6_image 1 = .ok (.getfield 16, 3) := by decide +kernel
theorem dX6_image_4 : decode cX6_image 4 = .ok (.aload_n 0, 1) := by decide +kernel
theorem dX6_image_5 : decode cX6_image 5 = .ok (.getfield 12, 3) := by decide +kernel
theorem dX6_image_8 : decode cX6_image 8 = .ok (.invokevirtual 282, 3) := by decide +kernel
theorem dX6_image_11 : decode cX6_image 11 = .ok (.aload_n 0, 1) := by decide +kernel
theorem dX6_image_12 : decode cX6_image 12 = .ok (.dup, 1) := by decide +kernel
theorem dX6_image_13 : decode cX6_image 13 = .ok (.getfield 285, 3) := by decide +kernel
theorem dX6_image_16 : decode cX6_image 16 = .ok (.iconst 1, 1) := by decide +kernel
theorem dX6_image_17 : decode cX6_image 17 = .ok (.iadd, 1) := by decide +kernel
theorem dX6_image_18 : decode cX6_image 18 = .ok (.putfield 285, 3) := by decide +kernel
theorem dX6_image_21 : decode cX6_image 21 = .ok (.aload_n 0, 1) := by decide +kernel
theorem dX6_image_22 : decode cX6_image 22 = .ok (.getfield 285, 3) := by decide +kernel
theorem dX6_image_25 : decode cX6_image 25 = .ok (.ireturn, 1) := by decide +kernel
theorem dX6_restore_0 : decode cX6_restore 0 = .ok (.aload_n 0, 1) := by decide +kernel
theorem dX6_restore_1 : decode cX6_restore 1 = .ok (.getfield 285, 3) := by decide +kernel
theorem dX6_restore_4 : decode cX6_restore 4 = .ok (.ifCond .ne 9, 3) := by decide +kernel
theorem dX6_restore_7 : decode cX6_restore 7 = .ok (.aload_n 0, 1) := by decide +kernel
theorem dX6_restore_8 : decode cX6_restore 8 = .ok (.iconst 2, 1) := by decide +kernel
theorem dX6_restore_9 : decode cX6_restore 9 = .ok (.invokevirtual 55, 3) := by decide +kernel
theorem dX6_restore_12 : decode cX6_restore 12 = .ok (.ireturn, 1) := by decide +kernel
theorem dX6_restore_13 : decode cX6_restore 13 = .ok (.aload_n 0, 1) := by decide +kernel
theorem dX6_restore_14 : decode cX6_restore 14 = .ok (.getfield 12, 3) := by decide +kernel
theorem dX6_restore_17 : decode cX6_restore 17 = .ok (.aload_n 0, 1) := by decide +kernel
theorem dX6_restore_18 : decode cX6_restore 18 = .ok (.getfield 16, 3) := by decide +kernel
theorem dX6_restore_21 : decode cX6_restore 21 = .ok (.invokevirtual 282, 3) := by decide +kernel
theorem dX6_restore_24 : decode cX6_restore 24 = .ok (.aload_n 0, 1) := by decide +kernel
theorem dX6_restore_25 : decode cX6_restore 25 = .ok (.getfield 12, 3) := by decide +kernel
theorem dX6_restore_28 : decode cX6_restore 28 = .ok (.getfield 119, 3) := by decide +kernel
theorem dX6_restore_31 : decode cX6_restore 31 = .ok (.ireturn, 1) := by decide +kernel
theorem dX6_tell_0 : decode cX6_tell 0 = .ok (.aload_n 0, 1) := by decide +kernel
theorem dX6_tell_1 : decode cX6_tell 1 = .ok (.getfield 12, 3) := by decide +kernel
theorem dX6_tell_4 : decode cX6_tell 4 = .ok (.getfield 288, 3) := by decide +kernel
theorem dX6_tell_7 : decode cX6_tell 7 = .ok (.bipush 24, 2) := by decide +kernel
theorem dX6_tell_9 : decode cX6_tell 9 = .ok (.if_icmp .lt 9, 3) := by decide +kernel
theorem dX6_tell_12 : decode cX6_tell 12 = .ok (.aload_n 0, 1) := by decide +kernel
theorem dX6_tell_13 : decode cX6_tell 13 = .ok (.iconst 4, 1) := by decide +kernel
theorem dX6_tell_14 : decode cX6_tell 14 = .ok (.invokevirtual 55, 3) := by decide +kernel
theorem dX6_tell_17 : decode cX6_tell 17 = .ok (.ireturn, 1) := by decide +kernel
theorem dX6_tell_18 : decode cX6_tell 18 = .ok (.aload_n 0, 1) := by decide +kernel
theorem dX6_tell_19 : decode cX6_tell 19 = .ok (.getfield 12, 3) := by decide +kernel
theorem dX6_tell_22 : decode cX6_tell 22 = .ok (.getfield 291, 3) := by decide +kernel
theorem dX6_tell_25 : decode cX6_tell 25 = .ok (.aload_n 0, 1) := by decide +kernel
theorem dX6_tell_26 : decode cX6_tell 26 = .ok (.getfield 12, 3) := by decide +kernel
theorem dX6_tell_29 : decode cX6_tell 29 = .ok (.getfield 288, 3) := by decide +kernel
theorem dX6_tell_32 : decode cX6_tell 32 = .ok (.iload_n 1, 1) := by decide +kernel
theorem dX6_tell_33 : decode cX6_tell 33 = .ok (.iastore, 1) := by decide +kernel
theorem dX6_tell_34 : decode cX6_tell 34 = .ok (.aload_n 0, 1) := by decide +kernel
theorem dX6_tell_35 : decode cX6_tell 35 = .ok (.getfield 12, 3) := by decide +kernel
theorem dX6_tell_38 : decode cX6_tell 38 = .ok (.dup, 1) := by decide +kernel
theorem dX6_tell_39 : decode cX6_tell 39 = .ok (.getfield 288, 3) := by decide +kernel
theorem dX6_tell_42 : decode cX6_tell 42 = .ok (.iconst 1, 1) := by decide +kernel
theorem dX6_tell_43 : decode cX6_tell 43 = .ok (.iadd, 1) := by decide +kernel
theorem dX6_tell_44 : decode cX6_tell 44 = .ok (.putfield 288, 3) := by decide +kernel
theorem dX6_tell_47 : decode cX6_tell 47 = .ok (.aload_n 0, 1) := by decide +kernel
theorem dX6_tell_48 : decode cX6_tell 48 = .ok (.getfield 12, 3) := by decide +kernel
theorem dX6_tell_51 : decode cX6_tell 51 = .ok (.getfield 288, 3) := by decide +kernel
theorem dX6_tell_54 : decode cX6_tell 54 = .ok (.ireturn, 1) := by decide +kernel
theorem dX6_check_0 : decode cX6_check 0 = .ok (.aload_n 0, 1) := by decide +kernel
theorem dX6_check_1 : decode cX6_check 1 = .ok (.getfield 12, 3) := by decide +kernel
theorem dX6_check_4 : decode cX6_check 4 = .ok (.getfield 288, 3) := by decide +kernel
theorem dX6_check_7 : decode cX6_check 7 = .ok (.istore_n 1, 1) := by decide +kernel
theorem dX6_check_8 : decode cX6_check 8 = .ok (.aload_n 0, 1) := by decide +kernel
theorem dX6_check_9 : decode cX6_check 9 = .ok (.getfield 12, 3) := by decide +kernel
theorem dX6_check_12 : decode cX6_check 12 = .ok (.iconst 0, 1) := by decide +kernel
theorem dX6_check_13 : decode cX6_check 13 = .ok (.putfield 288, 3) := by decide +kernel
theorem dX6_check_16 : decode cX6_check 16 = .ok (.iconst 0, 1) := by decide +kernel
theorem dX6_check_17 : decode cX6_check 17 = .ok (.istore_n 2, 1) := by decide +kernel
theorem dX6_check_18 : decode cX6_check 18 = .ok (.iload_n 2, 1) := by decide +kernel
theorem dX6_check_19 : decode cX6_check 19 = .ok (.iload_n 1, 1) := by decide +kernel
theorem dX6_check_20 : decode cX6_check 20 = .ok (.if_icmp .ge 44, 3) := by decide +kernel
theorem dX6_check_23 : decode cX6_check 23 = .ok (.iload_n 2, 1) := by decide +kernel
theorem dX6_check_24 : decode cX6_check 24 = .ok (.aload_n 0, 1) := by decide +kernel
theorem dX6_check_25 : decode cX6_check 25 = .ok (.getfield 12, 3) := by decide +kernel
theorem dX6_check_28 : decode cX6_check 28 = .ok (.getfield 59, 3) := by decide +kernel
theorem dX6_check_31 : decode cX6_check 31 = .ok (.if_icmp .ge 23, 3) := by decide +kernel
theorem dX6_check_34 : decode cX6_check 34 = .ok (.aload_n 0, 1) := by decide +kernel
theorem dX6_check_35 : decode cX6_check 35 = .ok (.getfield 12, 3) := by decide +kernel
theorem dX6_check_38 : decode cX6_check 38 = .ok (.getfield 291, 3) := by decide +kernel
theorem dX6_check_41 : decode cX6_check 41 = .ok (.iload_n 2, 1) := by decide +kernel
theorem dX6_check_42 : decode cX6_check 42 = .ok (.iaload, 1) := by decide +kernel
theorem dX6_check_43 : decode cX6_check 43 = .ok (.aload_n 0, 1) := by decide +kernel
theorem dX6_check_44 : decode cX6_check 44 = .ok (.getfield 12, 3) := by decide +kernel
theorem dX6_check_47 : decode cX6_check 47 = .ok (.iload_n 2, 1) := by decide +kernel
theorem dX6_check_48 : decode cX6_check 48 = .ok (.invokevirtual 96, 3) := by decide +kernel
theorem dX6_check_51 : decode cX6_check 51 = .ok (.if_icmp .eq 7, 3) := by decide +kernel
theorem dX6_check_54 : decode cX6_check 54 = .ok (.iconst 1, 1) := by decide +kernel
theorem dX6_check_55 : decode cX6_check 55 = .ok (.iload_n 2, 1) := by decide +kernel
theorem dX6_check_56 : decode cX6_check 56 = .ok (.iadd, 1) := by decide +kernel
theorem dX6_check_57 : decode cX6_check 57 = .ok (.ireturn, 1) := by decide +kernel
theorem dX6_check_58 : decode cX6_check 58 = .ok (.iinc 2 1, 3) := by decide +kernel
theorem dX6_check_61 : decode cX6_check 61 = .ok (.goto (-43), 3) := by decide +kernel
theorem dX6_check_64 : decode cX6_check 64 = .ok (.iconst 0, 1) := by decide +kernel
theorem dX6_check_65 : decode cX6_check 65 = .ok (.ireturn, 1) := by decide +kernel
theorem dX6_count_0 : decode cX6_count 0 = .ok (.iload_n 1, 1) := by decide +kernel
theorem dX6_count_1 : decode cX6_count 1 = .ok (.tableswitch 87 0 5 #[39, 47, 55, 63, 71, 79], 39) := by decide +kernel
theorem dX6_count_40 : decode cX6_count 40 = .ok (.aload_n 0, 1) := by decide +kernel
theorem dX6_count_41 : decode cX6_count 41 = .ok (.getfield 12, 3) := by decide +kernel
theorem dX6_count_44 : decode cX6_count 44 = .ok (.getfield 59, 3) := by decide +kernel
theorem dX6_count_47 : decode cX6_count 47 = .ok (.ireturn, 1) := by decide +kernel
theorem dX6_count_48 : decode cX6_count 48 = .ok (.aload_n 0, 1) := by decide +kernel
theorem dX6_count_49 : decode cX6_count 49 = .ok (.getfield 12, 3) := by decide +kernel
theorem dX6_count_52 : decode cX6_count 52 = .ok (.getfield 119, 3) := by decide +kernel
theorem dX6_count_55 : decode cX6_count 55 = .ok (.ireturn, 1) := by decide +kernel
theorem dX6_count_56 : decode cX6_count 56 = .ok (.aload_n 0, 1) := by decide +kernel
theorem dX6_count_57 : decode cX6_count 57 = .ok (.getfield 12, 3) := by decide +kernel
theorem dX6_count_60 : decode cX6_count 60 = .ok (.getfield 140, 3) := by decide +kernel
theorem dX6_count_63 : decode cX6_count 63 = .ok (.ireturn, 1) := by decide +kernel
theorem dX6_count_64 : decode cX6_count 64 = .ok (.aload_n 0, 1) := by decide +kernel
theorem dX6_count_65 : decode cX6_count 65 = .ok (.getfield 12, 3) := by decide +kernel
theorem dX6_count_68 : decode cX6_count 68 = .ok (.getfield 288, 3) := by decide +kernel
theorem dX6_count_71 : decode cX6_count 71 = .ok (.ireturn, 1) := by decide +kernel
theorem dX6_count_72 : decode cX6_count 72 = .ok (.aload_n 0, 1) := by decide +kernel
theorem dX6_count_73 : decode cX6_count 73 = .ok (.getfield 47, 3) := by decide +kernel
theorem dX6_count_76 : decode cX6_count 76 = .ok (.getfield 248, 3) := by decide +kernel
theorem dX6_count_79 : decode cX6_count 79 = .ok (.ireturn, 1) := by decide +kernel
theorem dX6_count_80 : decode cX6_count 80 = .ok (.aload_n 0, 1) := by decide +kernel
theorem dX6_count_81 : decode cX6_count 81 = .ok (.getfield 12, 3) := by decide +kernel
theorem dX6_count_84 : decode cX6_count 84 = .ok (.getfield 188, 3) := by decide +kernel
theorem dX6_count_87 : decode cX6_count 87 = .ok (.ireturn, 1) := by decide +kernel
theorem dX6_count_88 : decode cX6_count 88 = .ok (.aload_n 0, 1) := by decide +kernel
theorem dX6_count_89 : decode cX6_count 89 = .ok (.iconst 1, 1) := by decide +kernel
theorem dX6_count_90 : decode cX6_count 90 = .ok (.invokevirtual 55, 3) := by decide +kernel
theorem dX6_count_93 : decode cX6_count 93 = .ok (.ireturn, 1) := by decide +kernel
theorem dX6_told_0 : decode cX6_told 0 = .ok (.iload_n 1, 1) := by decide +kernel
theorem dX6_told_1 : decode cX6_told 1 = .ok (.iconst 1, 1) := by decide +kernel
theorem dX6_told_2 : decode cX6_told 2 = .ok (.if_icmp .lt 9, 3) := by decide +kernel
theorem dX6_told_5 : decode cX6_told 5 = .ok (.iload_n 1, 1) := by decide +kernel
theorem dX6_told_6 : decode cX6_told 6 = .ok (.bipush 6, 2) := by decide +kernel
theorem dX6_told_8 : decode cX6_told 8 = .ok (.if_icmp .le 9, 3) := by decide +kernel
theorem dX6_told_11 : decode cX6_told 11 = .ok (.aload_n 0, 1) := by decide +kernel
theorem dX6_told_12 : decode cX6_told 12 = .ok (.iconst 1, 1) := by decide +kernel
theorem dX6_told_13 : decode cX6_told 13 = .ok (.invokevirtual 55, 3) := by decide +kernel
theorem dX6_told_16 : decode cX6_told 16 = .ok (.ireturn, 1) := by decide +kernel
theorem dX6_told_17 : decode cX6_told 17 = .ok (.aload_n 0, 1) := by decide +kernel
theorem dX6_told_18 : decode cX6_told 18 = .ok (.getfield 19, 3) := by decide +kernel
theorem dX6_told_21 : decode cX6_told 21 = .ok (.iload_n 1, 1) := by decide +kernel
theorem dX6_told_22 : decode cX6_told 22 = .ok (.iaload, 1) := by decide +kernel
theorem dX6_told_23 : decode cX6_told 23 = .ok (.ireturn, 1) := by decide +kernel
theorem dX6_error_0 : decode cX6_error 0 = .ok (.iload_n 1, 1) := by decide +kernel
theorem dX6_error_1 : decode cX6_error 1 = .ok (.ifCond .lt 22, 3) := by decide +kernel
theorem dX6_error_4 : decode cX6_error 4 = .ok (.iload_n 1, 1) := by decide +kernel
theorem dX6_error_5 : decode cX6_error 5 = .ok (.aload_n 0, 1) := by decide +kernel
theorem dX6_error_6 : decode cX6_error 6 = .ok (.getfield 19, 3) := by decide +kernel
theorem dX6_error_9 : decode cX6_error 9 = .ok (.arraylength, 1) := by decide +kernel
theorem dX6_error_10 : decode cX6_error 10 = .ok (.if_icmp .ge 13, 3) := by decide +kernel
theorem dX6_error_13 : decode cX6_error 13 = .ok (.aload_n 0, 1) := by decide +kernel
theorem dX6_error_14 : decode cX6_error 14 = .ok (.getfield 19, 3) := by decide +kernel
theorem dX6_error_17 : decode cX6_error 17 = .ok (.iload_n 1, 1) := by decide +kernel
theorem dX6_error_18 : decode cX6_error 18 = .ok (.dup2, 1) := by decide +kernel
theorem dX6_error_19 : decode cX6_error 19 = .ok (.iaload, 1) := by decide +kernel
theorem dX6_error_20 : decode cX6_error 20 = .ok (.iconst 1, 1) := by decide +kernel
theorem dX6_error_21 : decode cX6_error 21 = .ok (.iadd, 1) := by decide +kernel
theorem dX6_error_22 : decode cX6_error 22 = .ok (.iastore, 1) := by decide +kernel
theorem dX6_error_23 : decode cX6_error 23 = .ok (.ldc_w 294, 3) := by decide +kernel
theorem dX6_error_26 : decode cX6_error 26 = .ok (.iload_n 1, 1) := by decide +kernel
theorem dX6_error_27 : decode cX6_error 27 = .ok (.isub, 1) := by decide +kernel
theorem dX6_error_28 : decode cX6_error 28 = .ok (.ireturn, 1) := by decide +kernel
theorem dX6_notOne_0 : decode cX6_notOne 0 = .ok (.iload_n 1, 1) := by decide +kernel
theorem dX6_notOne_1 : decode cX6_notOne 1 = .ok (.ifCond .lt 14, 3) := by decide +kernel
theorem dX6_notOne_4 : decode cX6_notOne 4 = .ok (.iload_n 1, 1) := by decide +kernel
theorem dX6_notOne_5 : decode cX6_notOne 5 = .ok (.aload_n 0, 1) := by decide +kernel
theorem dX6_notOne_6 : decode cX6_notOne 6 = .ok (.getfield 12, 3) := by decide +kernel
theorem dX6_notOne_9 : decode cX6_notOne 9 = .ok (.getfield 59, 3) := by decide +kernel
theorem dX6_notOne_12 : decode cX6_notOne 12 = .ok (.if_icmp .lt 7, 3) := by decide +kernel
theorem dX6_notOne_15 : decode cX6_notOne 15 = .ok (.iconst 1, 1) := by decide +kernel
theorem dX6_notOne_16 : decode cX6_notOne 16 = .ok (.goto 4, 3) := by decide +kernel
theorem dX6_notOne_19 : decode cX6_notOne 19 = .ok (.iconst 0, 1) := by decide +kernel
theorem dX6_notOne_20 : decode cX6_notOne 20 = .ok (.ireturn, 1) := by decide +kernel
theorem dX6_notTwo_0 : decode cX6_notTwo 0 = .ok (.aload_n 0, 1) := by decide +kernel
theorem dX6_notTwo_1 : decode cX6_notTwo 1 = .ok (.iload_n 1, 1) := by decide +kernel
theorem dX6_notTwo_2 : decode cX6_notTwo 2 = .ok (.invokevirtual 74, 3) := by decide +kernel
theorem dX6_notTwo_5 : decode cX6_notTwo 5 = .ok (.ifCond .ne 16, 3) := by decide +kernel
theorem dX6_notTwo_8 : decode cX6_notTwo 8 = .ok (.aload_n 0, 1) := by decide +kernel
theorem dX6_notTwo_9 : decode cX6_notTwo 9 = .ok (.iload_n 2, 1) := by decide +kernel
theorem dX6_notTwo_10 : decode cX6_notTwo 10 = .ok (.invokevirtual 74, 3) := by decide +kernel
theorem dX6_notTwo_13 : decode cX6_notTwo 13 = .ok (.ifCond .ne 8, 3) := by decide +kernel
theorem dX6_notTwo_16 : decode cX6_notTwo 16 = .ok (.iload_n 1, 1) := by decide +kernel
theorem dX6_notTwo_17 : decode cX6_notTwo 17 = .ok (.iload_n 2, 1) := by decide +kernel
theorem dX6_notTwo_18 : decode cX6_notTwo 18 = .ok (.if_icmp .ne 7, 3) := by decide +kernel
theorem dX6_notTwo_21 : decode cX6_notTwo 21 = .ok (.iconst 1, 1) := by decide +kernel
theorem dX6_notTwo_22 : decode cX6_notTwo 22 = .ok (.goto 4, 3) := by decide +kernel
theorem dX6_notTwo_25 : decode cX6_notTwo 25 = .ok (.iconst 0, 1) := by decide +kernel
theorem dX6_notTwo_26 : decode cX6_notTwo 26 = .ok (.ireturn, 1) := by decide +kernel
theorem dX6_notKm_0 : decode cX6_notKm 0 = .ok (.iload_n 0, 1) := by decide +kernel
theorem dX6_notKm_1 : decode cX6_notKm 1 = .ok (.iconst 0, 1) := by decide +kernel
theorem dX6_notKm_2 : decode cX6_notKm 2 = .ok (.bipush 69, 2) := by decide +kernel
theorem dX6_notKm_4 : decode cX6_notKm 4 = .ok (.invokestatic 115, 3) := by decide +kernel
theorem dX6_notKm_7 : decode cX6_notKm 7 = .ok (.ireturn, 1) := by decide +kernel
theorem dX6_notSort_0 : decode cX6_notSort 0 = .ok (.iload_n 0, 1) := by decide +kernel
theorem dX6_notSort_1 : decode cX6_notSort 1 = .ok (.iconst 0, 1) := by decide +kernel
theorem dX6_notSort_2 : decode cX6_notSort 2 = .ok (.iconst 4, 1) := by decide +kernel
theorem dX6_notSort_3 : decode cX6_notSort 3 = .ok (.invokestatic 115, 3) := by decide +kernel
theorem dX6_notSort_6 : decode cX6_notSort 6 = .ok (.ireturn, 1) := by decide +kernel
theorem dX6_notUse_0 : decode cX6_notUse 0 = .ok (.iload_n 0, 1) := by decide +kernel
theorem dX6_notUse_1 : decode cX6_notUse 1 = .ok (.ifCond .eq 12, 3) := by decide +kernel
theorem dX6_notUse_4 : decode cX6_notUse 4 = .ok (.iload_n 0, 1) := by decide +kernel
theorem dX6_notUse_5 : decode cX6_notUse 5 = .ok (.iconst 1, 1) := by decide +kernel
theorem dX6_notUse_6 : decode cX6_notUse 6 = .ok (.if_icmp .eq 7, 3) := by decide +kernel
theorem dX6_notUse_9 : decode cX6_notUse 9 = .ok (.iconst 1, 1) := by decide +kernel
theorem dX6_notUse_10 : decode cX6_notUse 10 = .ok (.goto 4, 3) := by decide +kernel
theorem dX6_notUse_13 : decode cX6_notUse 13 = .ok (.iconst 0, 1) := by decide +kernel
theorem dX6_notUse_14 : decode cX6_notUse 14 = .ok (.ireturn, 1) := by decide +kernel
theorem dX6_notSheet_0 : decode cX6_notSheet 0 = .ok (.iload_n 0, 1) := by decide +kernel
theorem dX6_notSheet_1 : decode cX6_notSheet 1 = .ok (.iconst 0, 1) := by decide +kernel
theorem dX6_notSheet_2 : decode cX6_notSheet 2 = .ok (.iconst 3, 1) := by decide +kernel
theorem dX6_notSheet_3 : decode cX6_notSheet 3 = .ok (.invokestatic 115, 3) := by decide +kernel
theorem dX6_notSheet_6 : decode cX6_notSheet 6 = .ok (.ireturn, 1) := by decide +kernel
theorem dX6_notWithin_0 : decode cX6_notWithin 0 = .ok (.iload_n 0, 1) := by decide +kernel
theorem dX6_notWithin_1 : decode cX6_notWithin 1 = .ok (.iload_n 1, 1) := by decide +kernel
theorem dX6_notWithin_2 : decode cX6_notWithin 2 = .ok (.if_icmp .lt 8, 3) := by decide +kernel
theorem dX6_notWithin_5 : decode cX6_notWithin 5 = .ok (.iload_n 0, 1) := by decide +kernel
theorem dX6_notWithin_6 : decode cX6_notWithin 6 = .ok (.iload_n 2, 1) := by decide +kernel
theorem dX6_notWithin_7 : decode cX6_notWithin 7 = .ok (.if_icmp .le 7, 3) := by decide +kernel
theorem dX6_notWithin_10 : decode cX6_notWithin 10 = .ok (.iconst 1, 1) := by decide +kernel
theorem dX6_notWithin_11 : decode cX6_notWithin 11 = .ok (.goto 4, 3) := by decide +kernel
theorem dX6_notWithin_14 : decode cX6_notWithin 14 = .ok (.iconst 0, 1) := by decide +kernel
theorem dX6_notWithin_15 : decode cX6_notWithin 15 = .ok (.ireturn, 1) := by decide +kernel
theorem dX6_held_0 : decode cX6_held 0 = .ok (.iload_n 1, 1) := by decide +kernel
theorem dX6_held_1 : decode cX6_held 1 = .ok (.iload_n 2, 1) := by decide +kernel
theorem dX6_held_2 : decode cX6_held 2 = .ok (.iload_n 0, 1) := by decide +kernel
theorem dX6_held_3 : decode cX6_held 3 = .ok (.invokestatic 279, 3) := by decide +kernel
theorem dX6_held_6 : decode cX6_held 6 = .ok (.invokestatic 214, 3) := by decide +kernel
theorem dX6_held_9 : decode cX6_held 9 = .ok (.ireturn, 1) := by decide +kernel
theorem dX6_truth_0 : decode cX6_truth 0 = .ok (.iload_n 0, 1) := by decide +kernel
theorem dX6_truth_1 : decode cX6_truth 1 = .ok (.ifCond .eq 7, 3) := by decide +kernel
theorem dX6_truth_4 : decode cX6_truth 4 = .ok (.iconst 1, 1) := by decide +kernel
theorem dX6_truth_5 : decode cX6_truth 5 = .ok (.goto 4, 3) := by decide +kernel
theorem dX6_truth_8 : decode cX6_truth 8 = .ok (.iconst 0, 1) := by decide +kernel
theorem dX6_truth_9 : decode cX6_truth 9 = .ok (.ireturn, 1) := by decide +kernel
theorem dX6_cell_0 : decode cX6_cell 0 = .ok (.iload_n 0, 1) := by decide +kernel
theorem dX6_cell_1 : decode cX6_cell 1 = .ok (.iconst 5, 1) := by decide +kernel
theorem dX6_cell_2 : decode cX6_cell 2 = .ok (.imul, 1) := by decide +kernel
theorem dX6_cell_3 : decode cX6_cell 3 = .ok (.iload_n 1, 1) := by decide +kernel
theorem dX6_cell_4 : decode cX6_cell 4 = .ok (.iadd, 1) := by decide +kernel
theorem dX6_cell_5 : decode cX6_cell 5 = .ok (.ireturn, 1) := by decide +kernel
theorem dX6_pair_0 : decode cX6_pair 0 = .ok (.iload_n 0, 1) := by decide +kernel
theorem dX6_pair_1 : decode cX6_pair 1 = .ok (.bipush 8, 2) := by decide +kernel
theorem dX6_pair_3 : decode cX6_pair 3 = .ok (.imul, 1) := by decide +kernel
theorem dX6_pair_4 : decode cX6_pair 4 = .ok (.iload_n 1, 1) := by decide +kernel
theorem dX6_pair_5 : decode cX6_pair 5 = .ok (.iadd, 1) := by decide +kernel
theorem dX6_pair_6 : decode cX6_pair 6 = .ok (.ireturn, 1) := by decide +kernel
theorem dX6_together_0 : decode cX6_together 0 = .ok (.iconst 0, 1) := by decide +kernel
theorem dX6_together_1 : decode cX6_together 1 = .ok (.istore_n 2, 1) := by decide +kernel
theorem dX6_together_2 : decode cX6_together 2 = .ok (.iconst 0, 1) := by decide +kernel
theorem dX6_together_3 : decode cX6_together 3 = .ok (.istore_n 3, 1) := by decide +kernel
theorem dX6_together_4 : decode cX6_together 4 = .ok (.iload_n 3, 1) := by decide +kernel
theorem dX6_together_5 : decode cX6_together 5 = .ok (.iconst 5, 1) := by decide +kernel
theorem dX6_together_6 : decode cX6_together 6 = .ok (.if_icmp .ge 19, 3) := by decide +kernel
theorem dX6_together_9 : decode cX6_together 9 = .ok (.iload_n 2, 1) := by decide +kernel
theorem dX6_together_10 : decode cX6_together 10 = .ok (.aload_n 0, 1) := by decide +kernel
theorem dX6_together_11 : decode cX6_together 11 = .ok (.iload_n 1, 1) := by decide +kernel
theorem dX6_together_12 : decode cX6_together 12 = .ok (.iload_n 3, 1) := by decide +kernel
theorem dX6_together_13 : decode cX6_together 13 = .ok (.invokestatic 111, 3) := by decide +kernel
theorem dX6_together_16 : decode cX6_together 16 = .ok (.iaload, 1) := by decide +kernel
theorem dX6_together_17 : decode cX6_together 17 = .ok (.iadd, 1) := by decide +kernel
theorem dX6_together_18 : decode cX6_together 18 = .ok (.istore_n 2, 1) := by decide +kernel
theorem dX6_together_19 : decode cX6_together 19 = .ok (.iinc 3 1, 3) := by decide +kernel
theorem dX6_together_22 : decode cX6_together 22 = .ok (.goto (-18), 3) := by decide +kernel
theorem dX6_together_25 : decode cX6_together 25 = .ok (.iload_n 2, 1) := by decide +kernel
theorem dX6_together_26 : decode cX6_together 26 = .ok (.ireturn, 1) := by decide +kernel
theorem dX6_isUnder_0 : decode cX6_isUnder 0 = .ok (.iload_n 0, 1) := by decide +kernel
theorem dX6_isUnder_1 : decode cX6_isUnder 1 = .ok (.istore_n 2, 1) := by decide +kernel
theorem dX6_isUnder_2 : decode cX6_isUnder 2 = .ok (.iconst 0, 1) := by decide +kernel
theorem dX6_isUnder_3 : decode cX6_isUnder 3 = .ok (.istore_n 3, 1) := by decide +kernel
theorem dX6_isUnder_4 : decode cX6_isUnder 4 = .ok (.iload_n 3, 1) := by decide +kernel
theorem dX6_isUnder_5 : decode cX6_isUnder 5 = .ok (.bipush 7, 2) := by decide +kernel
theorem dX6_isUnder_7 : decode cX6_isUnder 7 = .ok (.if_icmp .ge 26, 3) := by decide +kernel
theorem dX6_isUnder_10 : decode cX6_isUnder 10 = .ok (.iload_n 2, 1) := by decide +kernel
theorem dX6_isUnder_11 : decode cX6_isUnder 11 = .ok (.ifCond .lt 22, 3) := by decide +kernel
theorem dX6_isUnder_14 : decode cX6_isUnder 14 = .ok (.iload_n 2, 1) := by decide +kernel
theorem dX6_isUnder_15 : decode cX6_isUnder 15 = .ok (.iload_n 1, 1) := by decide +kernel
theorem dX6_isUnder_16 : decode cX6_isUnder 16 = .ok (.if_icmp .ne 5, 3) := by decide +kernel
theorem dX6_isUnder_19 : decode cX6_isUnder 19 = .ok (.iconst 1, 1) := by decide +kernel
theorem dX6_isUnder_20 : decode cX6_isUnder 20 = .ok (.ireturn, 1) := by decide +kernel
theorem dX6_isUnder_21 : decode cX6_isUnder 21 = .ok (.getstatic 295, 3) := by decide +kernel
theorem dX6_isUnder_24 : decode cX6_isUnder 24 = .ok (.iload_n 2, 1) := by decide +kernel
theorem dX6_isUnder_25 : decode cX6_isUnder 25 = .ok (.iaload, 1) := by decide +kernel
theorem dX6_isUnder_26 : decode cX6_isUnder 26 = .ok (.istore_n 2, 1) := by decide +kernel
theorem dX6_isUnder_27 : decode cX6_isUnder 27 = .ok (.iinc 3 1, 3) := by decide +kernel
theorem dX6_isUnder_30 : decode cX6_isUnder 30 = .ok (.goto (-26), 3) := by decide +kernel
theorem dX6_isUnder_33 : decode cX6_isUnder 33 = .ok (.iconst 0, 1) := by decide +kernel
theorem dX6_isUnder_34 : decode cX6_isUnder 34 = .ok (.ireturn, 1) := by decide +kernel
theorem dX6_commonDivisor_0 : decode cX6_commonDivisor 0 = .ok (.iload_n 1, 1) := by decide +kernel
theorem dX6_commonDivisor_1 : decode cX6_commonDivisor 1 = .ok (.istore_n 2, 1) := by decide +kernel
theorem dX6_commonDivisor_2 : decode cX6_commonDivisor 2 = .ok (.iload_n 2, 1) := by decide +kernel
theorem dX6_commonDivisor_3 : decode cX6_commonDivisor 3 = .ok (.iconst 1, 1) := by decide +kernel
theorem dX6_commonDivisor_4 : decode cX6_commonDivisor 4 = .ok (.if_icmp .le 23, 3) := by decide +kernel
theorem dX6_commonDivisor_7 : decode cX6_commonDivisor 7 = .ok (.iload_n 0, 1) := by decide +kernel
theorem dX6_commonDivisor_8 : decode cX6_commonDivisor 8 = .ok (.iload_n 2, 1) := by decide +kernel
theorem dX6_commonDivisor_9 : decode cX6_commonDivisor 9 = .ok (.irem, 1) := by decide +kernel
theorem dX6_commonDivisor_10 : decode cX6_commonDivisor 10 = .ok (.ifCond .ne 11, 3) := by decide +kernel
theorem dX6_commonDivisor_13 : decode cX6_commonDivisor 13 = .ok (.iload_n 1, 1) := by decide +kernel
theorem dX6_commonDivisor_14 : decode cX6_commonDivisor 14 = .ok (.iload_n 2, 1) := by decide +kernel
theorem dX6_commonDivisor_15 : decode cX6_commonDivisor 15 = .ok (.irem, 1) := by decide +kernel
theorem dX6_commonDivisor_16 : decode cX6_commonDivisor 16 = .ok (.ifCond .ne 5, 3) := by decide +kernel
theorem dX6_commonDivisor_19 : decode cX6_commonDivisor 19 = .ok (.iload_n 2, 1) := by decide +kernel
theorem dX6_commonDivisor_20 : decode cX6_commonDivisor 20 = .ok (.ireturn, 1) := by decide +kernel
theorem dX6_commonDivisor_21 : decode cX6_commonDivisor 21 = .ok (.iinc 2 (-1), 3) := by decide +kernel
theorem dX6_commonDivisor_24 : decode cX6_commonDivisor 24 = .ok (.goto (-22), 3) := by decide +kernel
theorem dX6_commonDivisor_27 : decode cX6_commonDivisor 27 = .ok (.iconst 1, 1) := by decide +kernel
theorem dX6_commonDivisor_28 : decode cX6_commonDivisor 28 = .ok (.ireturn, 1) := by decide +kernel
theorem dX7_init_0 : decode cX7_init 0 = .ok (.aload_n 0, 1) := by decide +kernel
theorem dX7_init_1 : decode cX7_init 1 = .ok (.invokespecial 1, 3) := by decide +kernel
theorem dX7_init_4 : decode cX7_init 4 = .ok (.aload_n 0, 1) := by decide +kernel
theorem dX7_init_5 : decode cX7_init 5 = .ok (.sipush 476, 3) := by decide +kernel
theorem dX7_init_8 : decode cX7_init 8 = .ok (.newarray .int, 2) := by decide +kernel
theorem dX7_init_10 : decode cX7_init 10 = .ok (.putfield 7, 3) := by decide +kernel
theorem dX7_init_13 : decode cX7_init 13 = .ok (.aload_n 0, 1) := by decide +kernel
theorem dX7_init_14 : decode cX7_init 14 = .ok (.sipush 476, 3) := by decide +kernel
theorem dX7_init_17 : decode cX7_init 17 = .ok (.newarray .int, 2) := by decide +kernel
theorem dX7_init_19 : decode cX7_init 19 = .ok (.putfield 13, 3) := by decide +kernel
theorem dX7_init_22 : decode cX7_init 22 = .ok (.aload_n 0, 1) := by decide +kernel
theorem dX7_init_23 : decode cX7_init 23 = .ok (.sipush 142, 3) := by decide +kernel
theorem dX7_init_26 : decode cX7_init 26 = .ok (.newarray .int, 2) := by decide +kernel
theorem dX7_init_28 : decode cX7_init 28 = .ok (.putfield 16, 3) := by decide +kernel
theorem dX7_init_31 : decode cX7_init 31 = .ok (.aload_n 0, 1) := by decide +kernel
theorem dX7_init_32 : decode cX7_init 32 = .ok (.bipush 7, 2) := by decide +kernel
theorem dX7_init_34 : decode cX7_init 34 = .ok (.newarray .int, 2) := by decide +kernel
theorem dX7_init_36 : decode cX7_init 36 = .ok (.putfield 19, 3) := by decide +kernel
theorem dX7_init_39 : decode cX7_init 39 = .ok (.aload_n 0, 1) := by decide +kernel
theorem dX7_init_40 : decode cX7_init 40 = .ok (.bipush 124, 2) := by decide +kernel
theorem dX7_init_42 : decode cX7_init 42 = .ok (.newarray .int, 2) := by decide +kernel
theorem dX7_init_44 : decode cX7_init 44 = .ok (.putfield 22, 3) := by decide +kernel
theorem dX7_init_47 : decode cX7_init 47 = .ok (.aload_n 0, 1) := by decide +kernel
theorem dX7_init_48 : decode cX7_init 48 = .ok (.sipush 128, 3) := by decide +kernel
theorem dX7_init_51 : decode cX7_init 51 = .ok (.newarray .int, 2) := by decide +kernel
theorem dX7_init_53 : decode cX7_init 53 = .ok (.putfield 25, 3) := by decide +kernel
theorem dX7_init_56 : decode cX7_init 56 = .ok (.aload_n 0, 1) := by decide +kernel
theorem dX7_init_57 : decode cX7_init 57 = .ok (.bipush 64, 2) := by decide +kernel
theorem dX7_init_59 : decode cX7_init 59 = .ok (.newarray .int, 2) := by decide +kernel
theorem dX7_init_61 : decode cX7_init 61 = .ok (.putfield 28, 3) := by decide +kernel
theorem dX7_init_64 : decode cX7_init 64 = .ok (.aload_n 0, 1) := by decide +kernel
theorem dX7_init_65 : decode cX7_init 65 = .ok (.sipush 256, 3) := by decide +kernel
theorem dX7_init_68 : decode cX7_init 68 = .ok (.newarray .int, 2) := by decide +kernel
theorem dX7_init_70 : decode cX7_init 70 = .ok (.putfield 31, 3) := by decide +kernel
theorem dX7_init_73 : decode cX7_init 73 = .ok (.aload_n 0, 1) := by decide +kernel
theorem dX7_init_74 : decode cX7_init 74 = .ok (.sipush 256, 3) := by decide +kernel
theorem dX7_init_77 : decode cX7_init 77 = .ok (.newarray .int, 2) := by decide +kernel
theorem dX7_init_79 : decode cX7_init 79 = .ok (.putfield 34, 3) := by decide +kernel
theorem dX7_init_82 : decode cX7_init 82 = .ok (.aload_n 0, 1) := by decide +kernel
theorem dX7_init_83 : decode cX7_init 83 = .ok (.bipush 30, 2) := by decide +kernel
theorem dX7_init_85 : decode cX7_init 85 = .ok (.newarray .int, 2) := by decide +kernel
theorem dX7_init_87 : decode cX7_init 87 = .ok (.putfield 37, 3) := by decide +kernel
theorem dX7_init_90 : decode cX7_init 90 = .ok (.aload_n 0, 1) := by decide +kernel
theorem dX7_init_91 : decode cX7_init 91 = .ok (.iconst 4, 1) := by decide +kernel
theorem dX7_init_92 : decode cX7_init 92 = .ok (.newarray .int, 2) := by decide +kernel
theorem dX7_init_94 : decode cX7_init 94 = .ok (.putfield 40, 3) := by decide +kernel
theorem dX7_init_97 : decode cX7_init 97 = .ok (.aload_n 0, 1) := by decide +kernel
theorem dX7_init_98 : decode cX7_init 98 = .ok (.iconst 4, 1) := by decide +kernel
theorem dX7_init_99 : decode cX7_init 99 = .ok (.newarray .int, 2) := by decide +kernel
theorem dX7_init_101 : decode cX7_init 101 = .ok (.putfield 43, 3) := by decide +kernel
theorem dX7_init_104 : decode cX7_init 104 = .ok (.aload_n 0, 1) := by decide +kernel
theorem dX7_init_105 : decode cX7_init 105 = .ok (.bipush 96, 2) := by decide +kernel
theorem dX7_init_107 : decode cX7_init 107 = .ok (.newarray .int, 2) := by decide +kernel
theorem dX7_init_109 : decode cX7_init 109 = .ok (.putfield 46, 3) := by decide +kernel
theorem dX7_init_112 : decode cX7_init 112 = .ok (.aload_n 0, 1) := by decide +kernel
theorem dX7_init_113 : decode cX7_init 113 = .ok (.bipush 24, 2) := by decide +kernel
theorem dX7_init_115 : decode cX7_init 115 = .ok (.newarray .int, 2) := by decide +kernel
theorem dX7_init_117 : decode cX7_init 117 = .ok (.putfield 49, 3) := by decide +kernel
theorem dX7_init_120 : decode cX7_init 120 = .ok (.aload_n 0, 1) := by decide +kernel
theorem dX7_init_121 : decode cX7_init 121 = .ok (.getfield 7, 3) := by decide +kernel
theorem dX7_init_124 : decode cX7_init 124 = .ok (.iconst 1, 1) := by decide +kernel
theorem dX7_init_125 : decode cX7_init 125 = .ok (.iconst 1, 1) := by decide +kernel
theorem dX7_init_126 : decode cX7_init 126 = .ok (.iastore, 1) := by decide +kernel
theorem dX7_init_127 : decode cX7_init 127 = .ok (.return_, 1) := by decide +kernel
theorem dX7_error_0 : decode cX7_error 0 = .ok (.aload_n 0, 1) := by decide +kernel
theorem dX7_error_1 : decode cX7_error 1 = .ok (.getfield 19, 3) := by decide +kernel
theorem dX7_error_4 : decode cX7_error 4 = .ok (.iload_n 1, 1) := by decide +kernel
theorem dX7_error_5 : decode cX7_error 5 = .ok (.dup2, 1) := by decide +kernel
theorem dX7_error_6 : decode cX7_error 6 = .ok (.iaload, 1) := by decide +kernel
theorem dX7_error_7 : decode cX7_error 7 = .ok (.iconst 1, 1) := by decide +kernel
theorem dX7_error_8 : decode cX7_error 8 = .ok (.iadd, 1) := by decide +kernel
theorem dX7_error_9 : decode cX7_error 9 = .ok (.iastore, 1) := by decide +kernel
theorem dX7_error_10 : decode cX7_error 10 = .ok (.ldc 52, 2) := by decide +kernel
theorem dX7_error_12 : decode cX7_error 12 = .ok (.iload_n 1, 1) := by decide +kernel
theorem dX7_error_13 : decode cX7_error 13 = .ok (.isub, 1) := by decide +kernel
theorem dX7_error_14 : decode cX7_error 14 = .ok (.ireturn, 1) := by decide +kernel
theorem dX7_in_0 : decode cX7_in 0 = .ok (.iload_n 0, 1) := by decide +kernel
theorem dX7_in_1 : decode cX7_in 1 = .ok (.iload_n 1, 1) := by decide +kernel
theorem dX7_in_2 : decode cX7_in 2 = .ok (.if_icmp .lt 12, 3) := by decide +kernel
theorem dX7_in_5 : decode cX7_in 5 = .ok (.iload_n 0, 1) := by decide +kernel
theorem dX7_in_6 : decode cX7_in 6 = .ok (.iload_n 2, 1) := by decide +kernel
theorem dX7_in_7 : decode cX7_in 7 = .ok (.if_icmp .gt 7, 3) := by decide +kernel
theorem dX7_in_10 : decode cX7_in 10 = .ok (.iconst 1, 1) := by decide +kernel
theorem dX7_in_11 : decode cX7_in 11 = .ok (.goto 4, 3) := by decide +kernel
theorem dX7_in_14 : decode cX7_in 14 = .ok (.iconst 0, 1) := by decide +kernel
theorem dX7_in_15 : decode cX7_in 15 = .ok (.ireturn, 1) := by decide +kernel
theorem dX7_held_0 : decode cX7_held 0 = .ok (.iload_n 0, 1) := by decide +kernel
theorem dX7_held_1 : decode cX7_held 1 = .ok (.iload_n 1, 1) := by decide +kernel
theorem dX7_held_2 : decode cX7_held 2 = .ok (.if_icmp .ge 7, 3) := by decide +kernel
theorem dX7_held_5 : decode cX7_held 5 = .ok (.iload_n 1, 1) := by decide +kernel
theorem dX7_held_6 : decode cX7_held 6 = .ok (.goto 13, 3) := by decide +kernel
theorem dX7_held_9 : decode cX7_held 9 = .ok (.iload_n 0, 1) := by decide +kernel
theorem dX7_held_10 : decode cX7_held 10 = .ok (.iload_n 2, 1) := by decide +kernel
theorem dX7_held_11 : decode cX7_held 11 = .ok (.if_icmp .le 7, 3) := by decide +kernel
theorem dX7_held_14 : decode cX7_held 14 = .ok (.iload_n 2, 1) := by decide +kernel
theorem dX7_held_15 : decode cX7_held 15 = .ok (.goto 4, 3) := by decide +kernel
theorem dX7_held_18 : decode cX7_held 18 = .ok (.iload_n 0, 1) := by decide +kernel
theorem dX7_held_19 : decode cX7_held 19 = .ok (.ireturn, 1) := by decide +kernel
theorem dX7_copyAll_0 : decode cX7_copyAll 0 = .ok (.iconst 0, 1) := by decide +kernel
theorem dX7_copyAll_1 : decode cX7_copyAll 1 = .ok (.istore_n 2, 1) := by decide +kernel
theorem dX7_copyAll_2 : decode cX7_copyAll 2 = .ok (.iload_n 2, 1) := by decide +kernel
theorem dX7_copyAll_3 : decode cX7_copyAll 3 = .ok (.sipush 476, 3) := by decide +kernel
theorem dX7_copyAll_6 : decode cX7_copyAll 6 = .ok (.if_icmp .ge 15, 3) := by decide +kernel
theorem dX7_copyAll_9 : decode cX7_copyAll 9 = .ok (.aload_n 1, 1) := by decide +kernel
theorem dX7_copyAll_10 : decode cX7_copyAll 10 = .ok (.iload_n 2, 1) := by decide +kernel
theorem dX7_copyAll_11 : decode cX7_copyAll 11 = .ok (.aload_n 0, 1) := by decide +kernel
theorem dX7_copyAll_12 : decode cX7_copyAll 12 = .ok (.iload_n 2, 1) := by decide +kernel
theorem dX7_copyAll_13 : decode cX7_copyAll 13 = .ok (.iaload, 1) := by decide +kernel
theorem dX7_copyAll_14 : decode cX7_copyAll 14 = .ok (.iastore, 1) := by decide +kernel
theorem dX7_copyAll_15 : decode cX7_copyAll 15 = .ok (.iinc 2 1, 3) := by decide +kernel
theorem dX7_copyAll_18 : decode cX7_copyAll 18 = .ok (.goto (-16), 3) := by decide +kernel
theorem dX7_copyAll_21 : decode cX7_copyAll 21 = .ok (.return_, 1) := by decide +kernel
theorem dX7_layDown_0 : decode cX7_layDown 0 = .ok (.iconst 0, 1) := by decide +kernel
theorem dX7_layDown_1 : decode cX7_layDown 1 = .ok (.istore_n 1, 1) := by decide +kernel
theorem dX7_layDown_2 : decode cX7_layDown 2 = .ok (.iload_n 1, 1) := by decide +kernel
theorem dX7_layDown_3 : decode cX7_layDown 3 = .ok (.sipush 142, 3) := by decide +kernel
theorem dX7_layDown_6 : decode cX7_layDown 6 = .ok (.if_icmp .ge 21, 3) := by decide +kernel
theorem dX7_layDown_9 : decode cX7_layDown 9 = .ok (.aload_n 0, 1) := by decide +kernel
theorem dX7_layDown_10 : decode cX7_layDown 10 = .ok (.getfield 16, 3) := by decide +kernel
theorem dX7_layDown_13 : decode cX7_layDown 13 = .ok (.iload_n 1, 1) := by decide +kernel
theorem dX7_layDown_14 : decode cX7_layDown 14 = .ok (.aload_n 0, 1) := by decide +kernel
theorem dX7_layDown_15 : decode cX7_layDown 15 = .ok (.getfield 7, 3) := by decide +kernel
theorem dX7_layDown_18 : decode cX7_layDown 18 = .ok (.iload_n 1, 1) := by decide +kernel
theorem dX7_layDown_19 : decode cX7_layDown 19 = .ok (.iaload, 1) := by decide +kernel
theorem dX7_layDown_20 : decode cX7_layDown 20 = .ok (.iastore, 1) := by decide +kernel
theorem dX7_layDown_21 : decode cX7_layDown 21 = .ok (.iinc 1 1, 3) := by decide +kernel
theorem dX7_layDown_24 : decode cX7_layDown 24 = .ok (.goto (-22), 3) := by decide +kernel
theorem dX7_layDown_27 : decode cX7_layDown 27 = .ok (.return_, 1) := by decide +kernel
theorem dX7_layBack_0 : decode cX7_layBack 0 = .ok (.iconst 0, 1) := by decide +kernel
theorem dX7_layBack_1 : decode cX7_layBack 1 = .ok (.istore_n 1, 1) := by decide +kernel
theorem dX7_layBack_2 : decode cX7_layBack 2 = .ok (.iload_n 1, 1) := by decide +kernel
theorem dX7_layBack_3 : decode cX7_layBack 3 = .ok (.sipush 142, 3) := by decide +kernel
theorem dX7_layBack_6 : decode cX7_layBack 6 = .ok (.if_icmp .ge 21, 3) := by decide +kernel
theorem dX7_layBack_9 : decode cX7_layBack 9 = .ok (.aload_n 0, 1) := by decide +kernel
theorem dX7_layBack_10 : decode cX7_layBack 10 = .ok (.getfield 7, 3) := by decide +kernel
theorem dX7_layBack_13 : decode cX7_layBack 13 = .ok (.iload_n 1, 1) := by decide +kernel
theorem dX7_layBack_14 : decode cX7_layBack 14 = .ok (.aload_n 0, 1) := by decide +kernel
theorem dX7_layBack_15 : decode cX7_layBack 15 = .ok (.getfield 16, 3) := by decide +kernel
theorem dX7_layBack_18 : decode cX7_layBack 18 = .ok (.iload_n 1, 1) := by decide +kernel
theorem dX7_layBack_19 : decode cX7_layBack 19 = .ok (.iaload, 1) := by decide +kernel
theorem dX7_layBack_20 : decode cX7_layBack 20 = .ok (.iastore, 1) := by decide +kernel
theorem dX7_layBack_21 : decode cX7_layBack 21 = .ok (.iinc 1 1, 3) := by decide +kernel
theorem dX7_layBack_24 : decode cX7_layBack 24 = .ok (.goto (-22), 3) := by decide +kernel
theorem dX7_layBack_27 : decode cX7_layBack 27 = .ok (.return_, 1) := by decide +kernel
theorem dX7_isPerson_0 : decode cX7_isPerson 0 = .ok (.iload_n 1, 1) := by decide +kernel
theorem dX7_isPerson_1 : decode cX7_isPerson 1 = .ok (.iconst 0, 1) := by decide +kernel
theorem dX7_isPerson_2 : decode cX7_isPerson 2 = .ok (.aload_n 0, 1) := by decide +kernel
theorem dX7_isPerson_3 : decode cX7_isPerson 3 = .ok (.getfield 7, 3) := by decide +kernel
theorem dX7_isPerson_6 : decode cX7_isPerson 6 = .ok (.iconst 4, 1) := by decide +kernel
theorem dX7_isPerson_7 : decode cX7_isPerson 7 = .ok (.iaload, 1) := by decide +kernel
theorem dX7_isPerson_8 : decode cX7_isPerson 8 = .ok (.iconst 1, 1) := by decide +kernel
theorem dX7_isPerson_9 : decode cX7_isPerson 9 = .ok (.isub, 1) := by decide +kernel
theorem dX7_isPerson_10 : decode cX7_isPerson 10 = .ok (.invokestatic 53, 3) := by decide +kernel
theorem dX7_isPerson_13 : decode cX7_isPerson 13 = .ok (.ireturn, 1) := by decide +kernel
theorem dX7_isSort_0 : decode cX7_isSort 0 = .ok (.iload_n 0, 1) := by decide +kernel
theorem dX7_isSort_1 : decode cX7_isSort 1 = .ok (.iconst 0, 1) := by decide +kernel
theorem dX7_isSort_2 : decode cX7_isSort 2 = .ok (.iconst 4, 1) := by decide +kernel
theorem dX7_isSort_3 : decode cX7_isSort 3 = .ok (.invokestatic 53, 3) := by decide +kernel
theorem dX7_isSort_6 : decode cX7_isSort 6 = .ok (.ireturn, 1) := by decide +kernel
theorem dX7_its_0 : decode cX7_its 0 = .ok (.aload_n 0, 1) := by decide +kernel
theorem dX7_its_1 : decode cX7_its 1 = .ok (.getfield 7, 3) := by decide +kernel
theorem dX7_its_4 : decode cX7_its 4 = .ok (.bipush 6, 2) := by decide +kernel
theorem dX7_its_6 : decode cX7_its 6 = .ok (.iconst 4, 1) := by decide +kernel
theorem dX7_its_7 : decode cX7_its 7 = .ok (.iload_n 1, 1) := by decide +kernel
theorem dX7_its_8 : decode cX7_its 8 = .ok (.imul, 1) := by decide +kernel
theorem dX7_its_9 : decode cX7_its 9 = .ok (.iadd, 1) := by decide +kernel
theorem dX7_its_10 : decode cX7_its 10 = .ok (.iload_n 2, 1) := by decide +kernel
theorem dX7_its_11 : decode cX7_its 11 = .ok (.iadd, 1) := by decide +kernel
theorem dX7_its_12 : decode cX7_its 12 = .ok (.iaload, 1) := by decide +kernel
theorem dX7_its_13 : decode cX7_its 13 = .ok (.ireturn, 1) := by decide +kernel
theorem dX7_lays1_0 : decode cX7_lays1 0 = .ok (.aload_n 0, 1) := by decide +kernel
theorem dX7_lays1_1 : decode cX7_lays1 1 = .ok (.getfield 7, 3) := by decide +kernel
theorem dX7_lays1_4 : decode cX7_lays1 4 = .ok (.bipush 6, 2) := by decide +kernel
theorem dX7_lays1_6 : decode cX7_lays1 6 = .ok (.iconst 4, 1) := by decide +kernel
theorem dX7_lays1_7 : decode cX7_lays1 7 = .ok (.iload_n 1, 1) := by decide +kernel
theorem dX7_lays1_8 : decode cX7_lays1 8 = .ok (.imul, 1) := by decide +kernel
theorem dX7_lays1_9 : decode cX7_lays1 9 = .ok (.iadd, 1) := by decide +kernel
theorem dX7_lays1_10 : decode cX7_lays1 10 = .ok (.iload_n 2, 1) := by decide +kernel
theorem dX7_lays1_11 : decode cX7_lays1 11 = .ok (.iadd, 1) := by decide +kernel
theorem dX7_lays1_12 : decode cX7_lays1 12 = .ok (.iload_n 3, 1) := by decide +kernel
theorem dX7_lays1_13 : decode cX7_lays1 13 = .ok (.iastore, 1) := by decide +kernel
theorem dX7_lays1_14 : decode cX7_lays1 14 = .ok (.return_, 1) := by decide +kernel
theorem dX7_has_0 : decode cX7_has 0 = .ok (.aload_n 0, 1) := by decide +kernel
theorem dX7_has_1 : decode cX7_has 1 = .ok (.getfield 7, 3) := by decide +kernel
theorem dX7_has_4 : decode cX7_has 4 = .ok (.bipush 38, 2) := by decide +kernel
theorem dX7_has_6 : decode cX7_has 6 = .ok (.iconst 5, 1) := by decide +kernel
theorem dX7_has_7 : decode cX7_has 7 = .ok (.iload_n 1, 1) := by decide +kernel
theorem dX7_has_8 : decode cX7_has 8 = .ok (.imul, 1) := by decide +kernel
theorem dX7_has_9 : decode cX7_has 9 = .ok (.iadd, 1) := by decide +kernel
theorem dX7_has_10 : decode cX7_has 10 = .ok (.iload_n 2, 1) := by decide +kernel
theorem dX7_has_11 : decode cX7_has 11 = .ok (.iadd, 1) := by decide +kernel
theorem dX7_has_12 : decode cX7_has 12 = .ok (.iaload, 1) := by decide +kernel
theorem dX7_has_13 : decode cX7_has 13 = .ok (.ireturn, 1) := by decide +kernel
theorem dX7_gets_0 : decode cX7_gets 0 = .ok (.aload_n 0, 1) := by decide +kernel
theorem dX7_gets_1 : decode cX7_gets 1 = .ok (.getfield 7, 3) := by decide +kernel
theorem dX7_gets_4 : decode cX7_gets 4 = .ok (.bipush 38, 2) := by decide +kernel
theorem dX7_gets_6 : decode cX7_gets 6 = .ok (.iconst 5, 1) := by decide +kernel
theorem dX7_gets_7 : decode cX7_gets 7 = .ok (.iload_n 1, 1) := by decide +kernel
theorem dX7_gets_8 : decode cX7_gets 8 = .ok (.imul, 1) := by decide +kernel
theorem dX7_gets_9 : decode cX7_gets 9 = .ok (.iadd, 1) := by decide +kernel
theorem dX7_gets_10 : decode cX7_gets 10 = .ok (.iload_n 2, 1) := by decide +kernel
theorem dX7_gets_11 : decode cX7_gets 11 = .ok (.iadd, 1) := by decide +kernel
theorem dX7_gets_12 : decode cX7_gets 12 = .ok (.aload_n 0, 1) := by decide +kernel
theorem dX7_gets_13 : decode cX7_gets 13 = .ok (.iload_n 1, 1) := by decide +kernel
theorem dX7_gets_14 : decode cX7_gets 14 = .ok (.iload_n 2, 1) := by decide +kernel
theorem dX7_gets_15 : decode cX7_gets 15 = .ok (.invokevirtual 57, 3) := by decide +kernel
theorem dX7_gets_18 : decode cX7_gets 18 = .ok (.iload_n 3, 1) := by decide +kernel
theorem dX7_gets_19 : decode cX7_gets 19 = .ok (.iadd, 1) := by decide +kernel
theorem dX7_gets_20 : decode cX7_gets 20 = .ok (.iconst 0, 1) := by decide +kernel
theorem dX7_gets_21 : decode cX7_gets 21 = .ok (.bipush 99, 2) := by decide +kernel
theorem dX7_gets_23 : decode cX7_gets 23 = .ok (.invokestatic 61, 3) := by decide +kernel
theorem dX7_gets_26 : decode cX7_gets 26 = .ok (.iastore, 1) := by decide +kernel
theorem dX7_gets_27 : decode cX7_gets 27 = .ok (.return_, 1) := by decide +kernel
theorem dX7_owed_0 : decode cX7_owed 0 = .ok (.aload_n 0, 1) := by decide +kernel
theorem dX7_owed_1 : decode cX7_owed 1 = .ok (.getfield 7, 3) := by decide +kernel
theorem dX7_owed_4 : decode cX7_owed 4 = .ok (.bipush 78, 2) := by decide +kernel
theorem dX7_owed_6 : decode cX7_owed 6 = .ok (.bipush 8, 2) := by decide +kernel
theorem dX7_owed_8 : decode cX7_owed 8 = .ok (.iload_n 1, 1) := by decide +kernel
theorem dX7_owed_9 : decode cX7_owed 9 = .ok (.imul, 1) := by decide +kernel
theorem dX7_owed_10 : decode cX7_owed 10 = .ok (.iadd, 1) := by decide +kernel
theorem dX7_owed_11 : decode cX7_owed 11 = .ok (.iload_n 2, 1) := by decide +kernel
theorem dX7_owed_12 : decode cX7_owed 12 = .ok (.iadd, 1) := by decide +kernel
theorem dX7_owed_13 : decode cX7_owed 13 = .ok (.iaload, 1) := by decide +kernel
theorem dX7_owed_14 : decode cX7_owed 14 = .ok (.ireturn, 1) := by decide +kernel
theorem dX7_change1_0 : decode cX7_change1 0 = .ok (.aload_n 0, 1) := by decide +kernel
theorem dX7_change1_1 : decode cX7_change1 1 = .ok (.getfield 7, 3) := by decide +kernel
theorem dX7_change1_4 : decode cX7_change1 4 = .ok (.iload_n 1, 1) := by decide +kernel
theorem dX7_change1_5 : decode cX7_change1 5 = .ok (.iaload, 1) := by decide +kernel
theorem dX7_change1_6 : decode cX7_change1 6 = .ok (.istore_n 3, 1) := by decide +kernel
theorem dX7_change1_7 : decode cX7_change1 7 = .ok (.aload_n 0, 1) := by decide +kernel
theorem dX7_change1_8 : decode cX7_change1 8 = .ok (.getfield 7, 3) := by decide +kernel
theorem dX7_change1_11 : decode cX7_change1 11 = .ok (.iload_n 1, 1) := by decide +kernel
theorem dX7_change1_12 : decode cX7_change1 12 = .ok (.iload_n 2, 1) := by decide +kernel
theorem dX7_change1_13 : decode cX7_change1 13 = .ok (.iastore, 1) := by decide +kernel
theorem dX7_change1_14 : decode cX7_change1 14 = .ok (.iload_n 3, 1) := by decide +kernel
theorem dX7_change1_15 : decode cX7_change1 15 = .ok (.ireturn, 1) := by decide +kernel
theorem dX7_heap_0 : decode cX7_heap 0 = .ok (.iconst 0, 1) := by decide +kernel
theorem dX7_heap_1 : decode cX7_heap 1 = .ok (.istore_n 2, 1) := by decide +kernel
theorem dX7_heap_2 : decode cX7_heap 2 = .ok (.iconst 0, 1) := by decide +kernel
theorem dX7_heap_3 : decode cX7_heap 3 = .ok (.istore_n 3, 1) := by decide +kernel
theorem dX7_heap_4 : decode cX7_heap 4 = .ok (.iload_n 3, 1) := by decide +kernel
theorem dX7_heap_5 : decode cX7_heap 5 = .ok (.iconst 5, 1) := by decide +kernel
theorem dX7_heap_6 : decode cX7_heap 6 = .ok (.if_icmp .ge 18, 3) := by decide +kernel
theorem dX7_heap_9 : decode cX7_heap 9 = .ok (.iload_n 2, 1) := by decide +kernel
theorem dX7_heap_10 : decode cX7_heap 10 = .ok (.aload_n 0, 1) := by decide +kernel
theorem dX7_heap_11 : decode cX7_heap 11 = .ok (.iload_n 1, 1) := by decide +kernel
theorem dX7_heap_12 : decode cX7_heap 12 = .ok (.iload_n 3, 1) := by decide +kernel
theorem dX7_heap_13 : decode cX7_heap 13 = .ok (.invokevirtual 57, 3) := by decide +kernel
theorem dX7_heap_16 : decode cX7_heap 16 = .ok (.iadd, 1) := by decide +kernel
theorem dX7_heap_17 : decode cX7_heap 17 = .ok (.istore_n 2, 1) := by decide +kernel
theorem dX7_heap_18 : decode cX7_heap 18 = .ok (.iinc 3 1, 3) := by decide +kernel
theorem dX7_heap_21 : decode cX7_heap 21 = .ok (.goto (-17), 3) := by decide +kernel
theorem dX7_heap_24 : decode cX7_heap 24 = .ok (.iload_n 2, 1) := by decide +kernel
theorem dX7_heap_25 : decode cX7_heap 25 = .ok (.ireturn, 1) := by decide +kernel
theorem dX7_feed_0 : decode cX7_feed 0 = .ok (.iload_n 3, 1) := by decide +kernel
theorem dX7_feed_1 : decode cX7_feed 1 = .ok (.iconst 1, 1) := by decide +kernel
theorem dX7_feed_2 : decode cX7_feed 2 = .ok (.bipush 8, 2) := by decide +kernel
theorem dX7_feed_4 : decode cX7_feed 4 = .ok (.invokestatic 53, 3) := by decide +kernel
theorem dX7_feed_7 : decode cX7_feed 7 = .ok (.ifCond .ne 9, 3) := by decide +kernel
theorem dX7_feed_10 : decode cX7_feed 10 = .ok (.aload_n 0, 1) := by decide +kernel
theorem dX7_feed_11 : decode cX7_feed 11 = .ok (.iconst 1, 1) := by decide +kernel
theorem dX7_feed_12 : decode cX7_feed 12 = .ok (.invokevirtual 65, 3) := by decide +kernel
theorem dX7_feed_15 : decode cX7_feed 15 = .ok (.ireturn, 1) := by decide +kernel
theorem dX7_feed_16 : decode cX7_feed 16 = .ok (.aload_n 0, 1) := by decide +kernel
theorem dX7_feed_17 : decode cX7_feed 17 = .ok (.getfield 7, 3) := by decide +kernel
theorem dX7_feed_20 : decode cX7_feed 20 = .ok (.iconst 2, 1) := by decide +kernel
theorem dX7_feed_21 : decode cX7_feed 21 = .ok (.iaload, 1) := by decide +kernel
theorem dX7_feed_22 : decode cX7_feed 22 = .ok (.iload_n 3, 1) := by decide +kernel
theorem dX7_feed_23 : decode cX7_feed 23 = .ok (.iadd, 1) := by decide +kernel
theorem dX7_feed_24 : decode cX7_feed 24 = .ok (.bipush 60, 2) := by decide +kernel
theorem dX7_feed_26 : decode cX7_feed 26 = .ok (.if_icmp .le 9, 3) := by decide +kernel
theorem dX7_feed_29 : decode cX7_feed 29 = .ok (.aload_n 0, 1) := by decide +kernel
theorem dX7_feed_30 : decode cX7_feed 30 = .ok (.iconst 4, 1) := by decide +kernel
theorem dX7_feed_31 : decode cX7_feed 31 = .ok (.invokevirtual 65, 3) := by decide +kernel
theorem dX7_feed_34 : decode cX7_feed 34 = .ok (.ireturn, 1) := by decide +kernel
theorem dX7_feed_35 : decode cX7_feed 35 = .ok (.iconst 0, 1) := by decide +kernel
theorem dX7_feed_36 : decode cX7_feed 36 = .ok (.istore 4, 2) := by decide +kernel
theorem dX7_feed_38 : decode cX7_feed 38 = .ok (.iload 4, 2) := by decide +kernel
theorem dX7_feed_40 : decode cX7_feed 40 = .ok (.iload_n 3, 1) := by decide +kernel
theorem dX7_feed_41 : decode cX7_feed 41 = .ok (.if_icmp .ge 46, 3) := by decide +kernel
theorem dX7_feed_44 : decode cX7_feed 44 = .ok (.aload_n 0, 1) := by decide +kernel
theorem dX7_feed_45 : decode cX7_feed 45 = .ok (.getfield 7, 3) := by decide +kernel
theorem dX7_feed_48 : decode cX7_feed 48 = .ok (.sipush 392, 3) := by decide +kernel
theorem dX7_feed_51 : decode cX7_feed 51 = .ok (.aload_n 0, 1) := by decide +kernel
theorem dX7_feed_52 : decode cX7_feed 52 = .ok (.getfield 7, 3) := by decide +kernel
theorem dX7_feed_55 : decode cX7_feed 55 = .ok (.iconst 2, 1) := by decide +kernel
theorem dX7_feed_56 : decode cX7_feed 56 = .ok (.iaload, 1) := by decide +kernel
theorem dX7_feed_57 : decode cX7_feed 57 = .ok (.iadd, 1) := by decide +kernel
theorem dX7_feed_58 : decode cX7_feed 58 = .ok (.lload_n 1, 1) := by decide +kernel
theorem dX7_feed_59 : decode cX7_feed 59 = .ok (.bipush 8, 2) := by decide +kernel
theorem dX7_feed_61 : decode cX7_feed 61 = .ok (.iload 4, 2) := by decide +kernel
theorem dX7_feed_63 : decode cX7_feed 63 = .ok (.imul, 1) := by decide +kernel
theorem dX7_feed_64 : decode cX7_feed 64 = .ok (.lshr, 1) := by decide +kernel
theorem dX7_feed_65 : decode cX7_feed 65 = .ok (.ldc2_w 69, 3) := by decide +kernel
theorem dX7_feed_68 : decode cX7_feed 68 = .ok (.land, 1) := by decide +kernel
theorem dX7_feed_69 : decode cX7_feed 69 = .ok (.l2i, 1) := by decide +kernel
theorem dX7_feed_70 : decode cX7_feed 70 = .ok (.iastore, 1) := by decide +kernel
theorem dX7_feed_71 : decode cX7_feed 71 = .ok (.aload_n 0, 1) := by decide +kernel
theorem dX7_feed_72 : decode cX7_feed 72 = .ok (.getfield 7, 3) := by decide +kernel
theorem dX7_feed_75 : decode cX7_feed 75 = .ok (.iconst 2, 1) := by decide +kernel
theorem dX7_feed_76 : decode cX7_feed 76 = .ok (.dup2, 1) := by decide +kernel
theorem dX7_feed_77 : decode cX7_feed 77 = .ok (.iaload, 1) := by decide +kernel
theorem dX7_feed_78 : decode cX7_feed 78 = .ok (.iconst 1, 1) := by decide +kernel
theorem dX7_feed_79 : decode cX7_feed 79 = .ok (.iadd, 1) := by decide +kernel
theorem dX7_feed_80 : decode cX7_feed 80 = .ok (.iastore, 1) := by decide +kernel
theorem dX7_feed_81 : decode cX7_feed 81 = .ok (.iinc 4 1, 3) := by decide +kernel
theorem dX7_feed_84 : decode cX7_feed 84 = .ok (.goto (-46), 3) := by decide +kernel
theorem dX7_feed_87 : decode cX7_feed 87 = .ok (.aload_n 0, 1) := by decide +kernel
theorem dX7_feed_88 : decode cX7_feed 88 = .ok (.getfield 7, 3) := by decide +kernel
theorem dX7_feed_91 : decode cX7_feed 91 = .ok (.iconst 2, 1) := by decide +kernel
theorem dX7_feed_92 : decode cX7_feed 92 = .ok (.iaload, 1) := by decide +kernel
theorem dX7_feed_93 : decode cX7_feed 93 = .ok (.ireturn, 1) := by decide +kernel
theorem dX7_look_0 : decode cX7_look 0 = .ok (.aload_n 0, 1) := by decide +kernel
theorem dX7_look_1 : decode cX7_look 1 = .ok (.getfield 71, 3) := by decide +kernel
theorem dX7_look_4 : decode cX7_look 4 = .ok (.aload_n 0, 1) := by decide +kernel
theorem dX7_look_5 : decode cX7_look 5 = .ok (.getfield 7, 3) := by decide +kernel
theorem dX7_look_8 : decode cX7_look 8 = .ok (.iconst 2, 1) := by decide +kernel
theorem dX7_look_9 : decode cX7_look 9 = .ok (.iaload, 1) := by decide +kernel
theorem dX7_look_10 : decode cX7_look 10 = .ok (.if_icmp .ge 19, 3) := by decide +kernel
theorem dX7_look_13 : decode cX7_look 13 = .ok (.aload_n 0, 1) := by decide +kernel
theorem dX7_look_14 : decode cX7_look 14 = .ok (.getfield 7, 3) := by decide +kernel
theorem dX7_look_17 : decode cX7_look 17 = .ok (.sipush 392, 3) := by decide +kernel
theorem dX7_look_20 : decode cX7_look 20 = .ok (.aload_n 0, 1) := by decide +kernel
theorem dX7_look_21 : decode cX7_look 21 = .ok (.getfield 71, 3) := by decide +kernel
theorem dX7_look_24 : decode cX7_look 24 = .ok (.iadd, 1) := by decide +kernel
theorem dX7_look_25 : decode cX7_look 25 = .ok (.iaload, 1) := by decide +kernel
theorem dX7_look_26 : decode cX7_look 26 = .ok (.goto 4, 3) := by decide +kernel
theorem dX7_look_29 : decode cX7_look 29 = .ok (.iconst (-1), 1) := by decide +kernel
theorem dX7_look_30 : decode cX7_look 30 = .ok (.ireturn, 1) := by decide +kernel
theorem dX7_isName_0 : decode cX7_isName 0 = .ok (.iload_n 1, 1) := by decide +kernel
theorem dX7_isName_1 : decode cX7_isName 1 = .ok (.bipush 115, 2) := by decide +kernel
theorem dX7_isName_3 : decode cX7_isName 3 = .ok (.if_icmp .ne 5, 3) := by decide +kernel
theorem dX7_isName_6 : decode cX7_isName 6 = .ok (.iconst 1, 1) := by decide +kernel
theorem dX7_isName_7 : decode cX7_isName 7 = .ok (.ireturn, 1) := by decide +kernel
theorem dX7_isName_8 : decode cX7_isName 8 = .ok (.aload_n 0, 1) := by decide +kernel
theorem dX7_isName_9 : decode cX7_isName 9 = .ok (.getfield 75, 3) := by decide +kernel
theorem dX7_isName_12 : decode cX7_isName 12 = .ok (.ifCond .ne 23, 3) := by decide +kernel
theorem dX7_isName_15 : decode cX7_isName 15 = .ok (.iload_n 1, 1) := by decide +kernel
theorem dX7_isName_16 : decode cX7_isName 16 = .ok (.bipush 119, 2) := by decide +kernel
theorem dX7_isName_18 : decode cX7_isName 18 = .ok (.if_icmp .eq 9, 3) := by decide +kernel
theorem dX7_isName_21 : decode cX7_isName 21 = .ok (.iload_n 1, 1) := by decide +kernel
theorem dX7_isName_22 : decode cX7_isName 22 = .ok (.bipush 121, 2) := by decide +kernel
theorem dX7_isName_24 : decode cX7_isName 24 = .ok (.if_icmp .ne 7, 3) := by decide +kernel
theorem dX7_isName_27 : decode cX7_isName 27 = .ok (.iconst 1, 1) := by decide +kernel
theorem dX7_isName_28 : decode cX7_isName 28 = .ok (.goto 24, 3) := by decide +kernel
theorem dX7_isName_31 : decode cX7_isName 31 = .ok (.iconst 0, 1) := by decide +kernel
theorem dX7_isName_32 : decode cX7_isName 32 = .ok (.goto 20, 3) := by decide +kernel
theorem dX7_isName_35 : decode cX7_isName 35 = .ok (.iload_n 1, 1) := by decide +kernel
theorem dX7_isName_36 : decode cX7_isName 36 = .ok (.bipush 118, 2) := by decide +kernel
theorem dX7_isName_38 : decode cX7_isName 38 = .ok (.if_icmp .eq 9, 3) := by decide +kernel
theorem dX7_isName_41 : decode cX7_isName 41 = .ok (.iload_n 1, 1) := by decide +kernel
theorem dX7_isName_42 : decode cX7_isName 42 = .ok (.bipush 110, 2) := by decide +kernel
theorem dX7_isName_44 : decode cX7_isName 44 = .ok (.if_icmp .ne 7, 3) := by decide +kernel
theorem dX7_isName_47 : decode cX7_isName 47 = .ok (.iconst 1, 1) := by decide +kernel
theorem dX7_isName_48 : decode cX7_isName 48 = .ok (.goto 4, 3) := by decide +kernel
theorem dX7_isName_51 : decode cX7_isName 51 = .ok (.iconst 0, 1) := by decide +kernel
theorem dX7_isName_52 : decode cX7_isName 52 = .ok (.ireturn, 1) := by decide +kernel
theorem dX7_step1_0 : decode cX7_step1 0 = .ok (.aload_n 0, 1) := by decide +kernel
theorem dX7_step1_1 : decode cX7_step1 1 = .ok (.getfield 22, 3) := by decide +kernel
theorem dX7_step1_4 : decode cX7_step1 4 = .ok (.iconst 2, 1) := by decide +kernel
theorem dX7_step1_5 : decode cX7_step1 5 = .ok (.aload_n 0, 1) := by decide +kernel
theorem dX7_step1_6 : decode cX7_step1 6 = .ok (.getfield 78, 3) := by decide +kernel
theorem dX7_step1_9 : decode cX7_step1 9 = .ok (.imul, 1) := by decide +kernel
theorem dX7_step1_10 : decode cX7_step1 10 = .ok (.iload_n 1, 1) := by decide +kernel
theorem dX7_step1_11 : decode cX7_step1 11 = .ok (.iastore, 1) := by decide +kernel
theorem dX7_step1_12 : decode cX7_step1 12 = .ok (.aload_n 0, 1) := by decide +kernel
theorem dX7_step1_13 : decode cX7_step1 13 = .ok (.getfield 22, 3) := by decide +kernel
theorem dX7_step1_16 : decode cX7_step1 16 = .ok (.iconst 2, 1) := by decide +kernel
theorem dX7_step1_17 : decode cX7_step1 17 = .ok (.aload_n 0, 1) := by decide +kernel
theorem dX7_step1_18 : decode cX7_step1 18 = .ok (.getfield 78, 3) := by decide +kernel
theorem dX7_step1_21 : decode cX7_step1 21 = .ok (.imul, 1) := by decide +kernel
theorem dX7_step1_22 : decode cX7_step1 22 = .ok (.iconst 1, 1) := by decide +kernel
theorem dX7_step1_23 : decode cX7_step1 23 = .ok (.iadd, 1) := by decide +kernel
theorem dX7_step1_24 : decode cX7_step1 24 = .ok (.iload_n 2, 1) := by decide +kernel
theorem dX7_step1_25 : decode cX7_step1 25 = .ok (.iastore, 1) := by decide +kernel
theorem dX7_step1_26 : decode cX7_step1 26 = .ok (.aload_n 0, 1) := by decide +kernel
theorem dX7_step1_27 : decode cX7_step1 27 = .ok (.dup, 1) := by decide +kernel
theorem dX7_step1_28 : decode cX7_step1 28 = .ok (.getfield 78, 3) := by decide +kernel
theorem dX7_step1_31 : decode cX7_step1 31 = .ok (.iconst 1, 1) := by decide +kernel
theorem dX7_step1_32 : decode cX7_step1 32 = .ok (.iadd, 1) := by decide +kernel
theorem dX7_step1_33 : decode cX7_step1 33 = .ok (.putfield 78, 3) := by decide +kernel
theorem dX7_step1_36 : decode cX7_step1 36 = .ok (.return_, 1) := by decide +kernel
theorem dX7_whole_0 : decode cX7_whole 0 = .ok (.aload_n 0, 1) := by decide +kernel
theorem dX7_whole_1 : decode cX7_whole 1 = .ok (.invokevirtual 81, 3) := by decide +kernel
theorem dX7_whole_4 : decode cX7_whole 4 = .ok (.ifCond .ne 5, 3) := by decide +kernel
theorem dX7_whole_7 : decode cX7_whole 7 = .ok (.iconst 0, 1) := by decide +kernel
theorem dX7_whole_8 : decode cX7_whole 8 = .ok (.ireturn, 1) := by decide +kernel
theorem dX7_whole_9 : decode cX7_whole 9 = .ok (.aload_n 0, 1) := by decide +kernel
theorem dX7_whole_10 : decode cX7_whole 10 = .ok (.invokevirtual 85, 3) := by decide +kernel
theorem dX7_whole_13 : decode cX7_whole 13 = .ok (.bipush 124, 2) := by decide +kernel
theorem dX7_whole_15 : decode cX7_whole 15 = .ok (.if_icmp .ne 32, 3) := by decide +kernel
theorem dX7_whole_18 : decode cX7_whole 18 = .ok (.aload_n 0, 1) := by decide +kernel
theorem dX7_whole_19 : decode cX7_whole 19 = .ok (.dup, 1) := by decide +kernel
theorem dX7_whole_20 : decode cX7_whole 20 = .ok (.getfield 71, 3) := by decide +kernel
theorem dX7_whole_23 : decode cX7_whole 23 = .ok (.iconst 1, 1) := by decide +kernel
theorem dX7_whole_24 : decode cX7_whole 24 = .ok (.iadd, 1) := by decide +kernel
theorem dX7_whole_25 : decode cX7_whole 25 = .ok (.putfield 71, 3) := by decide +kernel
theorem dX7_whole_28 : decode cX7_whole 28 = .ok (.aload_n 0, 1) := by decide +kernel
theorem dX7_whole_29 : decode cX7_whole 29 = .ok (.invokevirtual 81, 3) := by decide +kernel
theorem dX7_whole_32 : decode cX7_whole 32 = .ok (.ifCond .ne 5, 3) := by decide +kernel
theorem dX7_whole_35 : decode cX7_whole 35 = .ok (.iconst 0, 1) := by decide +kernel
theorem dX7_whole_36 : decode cX7_whole 36 = .ok (.ireturn, 1) := by decide +kernel
theorem dX7_whole_37 : decode cX7_whole 37 = .ok (.aload_n 0, 1) := by decide +kernel
theorem dX7_whole_38 : decode cX7_whole 38 = .ok (.iconst 3, 1) := by decide +kernel
theorem dX7_whole_39 : decode cX7_whole 39 = .ok (.bipush 124, 2) := by decide +kernel
theorem dX7_whole_41 : decode cX7_whole 41 = .ok (.invokevirtual 89, 3) := by decide +kernel
theorem dX7_whole_44 : decode cX7_whole 44 = .ok (.goto (-35), 3) := by decide +kernel
theorem dX7_whole_47 : decode cX7_whole 47 = .ok (.iconst 1, 1) := by decide +kernel
theorem dX7_whole_48 : decode cX7_whole 48 = .ok (.ireturn, 1) := by decide +kernel
theorem dX7_both_0 : decode cX7_both 0 = .ok (.aload_n 0, 1) := by decide +kernel
theorem dX7_both_1 : decode cX7_both 1 = .ok (.invokevirtual 93, 3) := by decide +kernel
theorem dX7_both_4 : decode cX7_both 4 = .ok (.ifCond .ne 5, 3) := by decide +kernel
theorem dX7_both_7 : decode cX7_both 7 = .ok (.iconst 0, 1) := by decide +kernel
theorem dX7_both_8 : decode cX7_both 8 = .ok (.ireturn, 1) := by decide +kernel
theorem dX7_both_9 : decode cX7_both 9 = .ok (.aload_n 0, 1) := by decide +kernel
theorem dX7_both_10 : decode cX7_both 10 = .ok (.invokevirtual 85, 3) := by decide +kernel
theorem dX7_both_13 : decode cX7_both 13 = .ok (.bipush 38, 2) := by decide +kernel
theorem dX7_both_15 : decode cX7_both 15 = .ok (.if_icmp .ne 32, 3) := by decide +kernel
theorem dX7_both_18 : decode cX7_both 18 = .ok (.aload_n 0, 1) := by decide +kernel
theorem dX7_both_19 : decode cX7_both 19 = .ok (.dup, 1) := by decide +kernel
theorem dX7_both_20 : decode cX7_both 20 = .ok (.getfield 71, 3) := by decide +kernel
theorem dX7_both_23 : decode cX7_both 23 = .ok (.iconst 1, 1) := by decide +kernel
theorem dX7_both_24 : decode cX7_both 24 = .ok (.iadd, 1) := by decide +kernel
theorem dX7_both_25 : decode cX7_both 25 = .ok (.putfield 71, 3) := by decide +kernel
theorem dX7_both_28 : decode cX7_both 28 = .ok (.aload_n 0, 1) := by decide +kernel
theorem dX7_both_29 : decode cX7_both 29 = .ok (.invokevirtual 93, 3) := by decide +kernel
theorem dX7_both_32 : decode cX7_both 32 = .ok (.ifCond .ne 5, 3) := by decide +kernel
theorem dX7_both_35 : decode cX7_both 35 = .ok (.iconst 0, 1) := by decide +kernel
theorem dX7_both_36 : decode cX7_both 36 = .ok (.ireturn, 1) := by decide +kernel
theorem dX7_both_37 : decode cX7_both 37 = .ok (.aload_n 0, 1) := by decide +kernel
theorem dX7_both_38 : decode cX7_both 38 = .ok (.iconst 3, 1) := by decide +kernel
theorem dX7_both_39 : decode cX7_both 39 = .ok (.bipush 38, 2) := by decide +kernel
theorem dX7_both_41 : decode cX7_both 41 = .ok (.invokevirtual 89, 3) := by decide +kernel
theorem dX7_both_44 : decode cX7_both 44 = .ok (.goto (-35), 3) := by decide +kernel
theorem dX7_both_47 : decode cX7_both 47 = .ok (.iconst 1, 1) := by decide +kernel
theorem dX7_both_48 : decode cX7_both 48 = .ok (.ireturn, 1) := by decide +kernel
theorem dX7_compared_0 : decode cX7_compared 0 = .ok (.aload_n 0, 1) := by decide +kernel
theorem dX7_compared_1 : decode cX7_compared 1 = .ok (.invokevirtual 96, 3) := by decide +kernel
theorem dX7_compared_4 : decode cX7_compared 4 = .ok (.ifCond .ne 5, 3) := by decide +kernel
theorem dX7_compared_7 : decode cX7_compared 7 = .ok (.iconst 0, 1) := by decide +kernel
theorem dX7_compared_8 : decode cX7_compared 8 = .ok (.ireturn, 1) := by decide +kernel
theorem dX7_compared_9 : decode cX7_compared 9 = .ok (.aload_n 0, 1) := by decide +kernel
theorem dX7_compared_10 : decode cX7_compared 10 = .ok (.invokevirtual 85, 3) := by decide +kernel
theorem dX7_compared_13 : decode cX7_compared 13 = .ok (.istore_n 1, 1) := by decide +kernel
theorem dX7_compared_14 : decode cX7_compared 14 = .ok (.iload_n 1, 1) := by decide +kernel
theorem dX7_compared_15 : decode cX7_compared 15 = .ok (.bipush 60, 2) := by decide +kernel
theorem dX7_compared_17 : decode cX7_compared 17 = .ok (.if_icmp .eq 17, 3) := by decide +kernel
theorem dX7_compared_20 : decode cX7_compared 20 = .ok (.iload_n 1, 1) := by decide +kernel
theorem dX7_compared_21 : decode cX7_compared 21 = .ok (.bipush 61, 2) := by decide +kernel
theorem dX7_compared_23 : decode cX7_compared 23 = .ok (.if_icmp .eq 11, 3) := by decide +kernel
theorem dX7_compared_26 : decode cX7_compared 26 = .ok (.iload_n 1, 1) := by decide +kernel
theorem dX7_compared_27 : decode cX7_compared 27 = .ok (.bipush 62, 2) := by decide +kernel
theorem dX7_compared_29 : decode cX7_compared 29 = .ok (.if_icmp .eq 5, 3) := by decide +kernel
theorem dX7_compared_32 : decode cX7_compared 32 = .ok (.iconst 1, 1) := by decide +kernel
theorem dX7_compared_33 : decode cX7_compared 33 = .ok (.ireturn, 1) := by decide +kernel
theorem dX7_compared_34 : decode cX7_compared 34 = .ok (.aload_n 0, 1) := by decide +kernel
theorem dX7_compared_35 : decode cX7_compared 35 = .ok (.dup, 1) := by decide +kernel
theorem dX7_compared_36 : decode cX7_compared 36 = .ok (.getfield 71, 3) := by decide +kernel
theorem dX7_compared_39 : decode cX7_compared 39 = .ok (.iconst 1, 1) := by decide +kernel
theorem dX7_compared_40 : decode cX7_compared 40 = .ok (.iadd, 1) := by decide +kernel
theorem dX7_compared_41 : decode cX7_compared 41 = .ok (.putfield 71, 3) := by decide +kernel
theorem dX7_compared_44 : decode cX7_compared 44 = .ok (.aload_n 0, 1) := by decide +kernel
theorem dX7_compared_45 : decode cX7_compared 45 = .ok (.invokevirtual 96, 3) := by decide +kernel
theorem dX7_compared_48 : decode cX7_compared 48 = .ok (.ifCond .ne 5, 3) := by decide +kernel
theorem dX7_compared_51 : decode cX7_compared 51 = .ok (.iconst 0, 1) := by decide +kernel
theorem dX7_compared_52 : decode cX7_compared 52 = .ok (.ireturn, 1) := by decide +kernel
theorem dX7_compared_53 : decode cX7_compared 53 = .ok (.aload_n 0, 1) := by decide +kernel
theorem dX7_compared_54 : decode cX7_compared 54 = .ok (.iconst 3, 1) := by decide +kernel
theorem dX7_compared_55 : decode cX7_compared 55 = .ok (.iload_n 1, 1) := by decide +kernel
theorem dX7_compared_56 : decode cX7_compared 56 = .ok (.invokevirtual 89, 3) := by decide +kernel
theorem dX7_compared_59 : decode cX7_compared 59 = .ok (.iconst 1, 1) := by decide +kernel
theorem dX7_compared_60 : decode cX7_compared 60 = .ok (.ireturn, 1) := by decide +kernel
theorem dX7_sum_0 : decode cX7_sum 0 = .ok (.aload_n 0, 1) := by decide +kernel
theorem dX7_sum_1 : decode cX7_sum 1 = .ok (.invokevirtual 99, 3) := by decide +kernel
theorem dX7_sum_4 : decode cX7_sum 4 = .ok (.ifCond .ne 5, 3) := by decide +kernel
theorem dX7_sum_7 : decode cX7_sum 7 = .ok (.iconst 0, 1) := by decide +kernel
theorem dX7_sum_8 : decode cX7_sum 8 = .ok (.ireturn, 1) := by decide +kernel
theorem dX7_sum_9 : decode cX7_sum 9 = .ok (.aload_n 0, 1) := by decide +kernel
theorem dX7_sum_10 : decode cX7_sum 10 = .ok (.invokevirtual 85, 3) := by decide +kernel
theorem dX7_sum_13 : decode cX7_sum 13 = .ok (.bipush 43, 2) := by decide +kernel
theorem dX7_sum_15 : decode cX7_sum 15 = .ok (.if_icmp .eq 12, 3) := by decide +kernel
theorem dX7_sum_18 : decode cX7_sum 18 = .ok (.aload_n 0, 1) := by decide +kernel
theorem dX7_sum_19 : decode cX7_sum 19 = .ok (.invokevirtual 85, 3) := by decide +kernel
theorem dX7_sum_22 : decode cX7_sum 22 = .ok (.bipush 45, 2) := by decide +kernel
theorem dX7_sum_24 : decode cX7_sum 24 = .ok (.if_icmp .ne 36, 3) := by decide +kernel
theorem dX7_sum_27 : decode cX7_sum 27 = .ok (.aload_n 0, 1) := by decide +kernel
theorem dX7_sum_28 : decode cX7_sum 28 = .ok (.invokevirtual 85, 3) := by decide +kernel
theorem dX7_sum_31 : decode cX7_sum 31 = .ok (.istore_n 1, 1) := by decide +kernel
theorem dX7_sum_32 : decode cX7_sum 32 = .ok (.aload_n 0, 1) := by decide +kernel
theorem dX7_sum_33 : decode cX7_sum 33 = .ok (.dup, 1) := by decide +kernel
theorem dX7_sum_34 : decode cX7_sum 34 = .ok (.getfield 71, 3) := by decide +kernel
theorem dX7_sum_37 : decode cX7_sum 37 = .ok (.iconst 1, 1) := by decide +kernel
theorem dX7_sum_38 : decode cX7_sum 38 = .ok (.iadd, 1) := by decide +kernel
theorem dX7_sum_39 : decode cX7_sum 39 = .ok (.putfield 71, 3) := by decide +kernel
theorem dX7_sum_42 : decode cX7_sum 42 = .ok (.aload_n 0, 1) := by decide +kernel
theorem dX7_sum_43 : decode cX7_sum 43 = .ok (.invokevirtual 99, 3) := by decide +kernel
theorem dX7_sum_46 : decode cX7_sum 46 = .ok (.ifCond .ne 5, 3) := by decide +kernel
theorem dX7_sum_49 : decode cX7_sum 49 = .ok (.iconst 0, 1) := by decide +kernel
theorem dX7_sum_50 : decode cX7_sum 50 = .ok (.ireturn, 1) := by decide +kernel
theorem dX7_sum_51 : decode cX7_sum 51 = .ok (.aload_n 0, 1) := by decide +kernel
theorem dX7_sum_52 : decode cX7_sum 52 = .ok (.iconst 3, 1) := by decide +kernel
theorem dX7_sum_53 : decode cX7_sum 53 = .ok (.iload_n 1, 1) := by decide +kernel
theorem dX7_sum_54 : decode cX7_sum 54 = .ok (.invokevirtual 89, 3) := by decide +kernel
theorem dX7_sum_57 : decode cX7_sum 57 = .ok (.goto (-48), 3) := by decide +kernel
theorem dX7_sum_60 : decode cX7_sum 60 = .ok (.iconst 1, 1) := by decide +kernel
theorem dX7_sum_61 : decode cX7_sum 61 = .ok (.ireturn, 1) := by decide +kernel
theorem dX7_product_0 : decode cX7_product 0 = .ok (.aload_n 0, 1) := by decide +kernel
theorem dX7_product_1 : decode cX7_product 1 = .ok (.invokevirtual 102, 3) := by decide +kernel
theorem dX7_product_4 : decode cX7_product 4 = .ok (.ifCond .ne 5, 3) := by decide +kernel
theorem dX7_product_7 : decode cX7_product 7 = .ok (.iconst 0, 1) := by decide +kernel
theorem dX7_product_8 : decode cX7_product 8 = .ok (.ireturn, 1) := by decide +kernel
theorem dX7_product_9 : decode cX7_product 9 = .ok (.aload_n 0, 1) := by decide +kernel
theorem dX7_product_10 : decode cX7_product 10 = .ok (.invokevirtual 85, 3) := by decide +kernel
theorem dX7_product_13 : decode cX7_product 13 = .ok (.bipush 42, 2) := by decide +kernel
theorem dX7_product_15 : decode cX7_product 15 = .ok (.if_icmp .eq 21, 3) := by decide +kernel
theorem dX7_product_18 : decode cX7_product 18 = .ok (.aload_n 0, 1) := by decide +kernel
theorem dX7_product_19 : decode cX7_product 19 = .ok (.invokevirtual 85, 3) := by decide +kernel
theorem dX7_product_22 : decode cX7_product 22 = .ok (.bipush 47, 2) := by decide +kernel
theorem dX7_product_24 : decode cX7_product 24 = .ok (.if_icmp .eq 12, 3) := by decide +kernel
theorem dX7_product_27 : decode cX7_product 27 = .ok (.aload_n 0, 1) := by decide +kernel
theorem dX7_product_28 : decode cX7_product 28 = .ok (.invokevirtual 85, 3) := by decide +kernel
theorem dX7_product_31 : decode cX7_product 31 = .ok (.bipush 37, 2) := by decide +kernel
theorem dX7_product_33 : decode cX7_product 33 = .ok (.if_icmp .ne 36, 3) := by decide +kernel
theorem dX7_product_36 : decode cX7_product 36 = .ok (.aload_n 0, 1) := by decide +kernel
theorem dX7_product_37 : decode cX7_product 37 = .ok (.invokevirtual 85, 3) := by decide +kernel
theorem dX7_product_40 : decode cX7_product 40 = .ok (.istore_n 1, 1) := by decide +kernel
theorem dX7_product_41 : decode cX7_product 41 = .ok (.aload_n 0, 1) := by decide +kernel
theorem dX7_product_42 : decode cX7_product 42 = .ok (.dup, 1) := by decide +kernel
theorem dX7_product_43 : decode cX7_product 43 = .ok (.getfield 71, 3) := by decide +kernel
theorem dX7_product_46 : decode cX7_product 46 = .ok (.iconst 1, 1) := by decide +kernel
theorem dX7_product_47 : decode cX7_product 47 = .ok (.iadd, 1) := by decide +kernel
theorem dX7_product_48 : decode cX7_product 48 = .ok (.putfield 71, 3) := by decide +kernel
theorem dX7_product_51 : decode cX7_product 51 = .ok (.aload_n 0, 1) := by decide +kernel
theorem dX7_product_52 : decode cX7_product 52 = .ok (.invokevirtual 102, 3) := by decide +kernel
theorem dX7_product_55 : decode cX7_product 55 = .ok (.ifCond .ne 5, 3) := by decide +kernel
theorem dX7_product_58 : decode cX7_product 58 = .ok (.iconst 0, 1) := by decide +kernel
theorem dX7_product_59 : decode cX7_product 59 = .ok (.ireturn, 1) := by decide +kernel
theorem dX7_product_60 : decode cX7_product 60 = .ok (.aload_n 0, 1) := by decide +kernel
theorem dX7_product_61 : decode cX7_product 61 = .ok (.iconst 3, 1) := by decide +kernel
theorem dX7_product_62 : decode cX7_product 62 = .ok (.iload_n 1, 1) := by decide +kernel
theorem dX7_product_63 : decode cX7_product 63 = .ok (.invokevirtual 89, 3) := by decide +kernel
theorem dX7_product_66 : decode cX7_product 66 = .ok (.goto (-57), 3) := by decide +kernel
theorem dX7_product_69 : decode cX7_product 69 = .ok (.iconst 1, 1) := by decide +kernel
theorem dX7_product_70 : decode cX7_product 70 = .ok (.ireturn, 1) := by decide +kernel
theorem dX7_opens_0 : decode cX7_opens 0 = .ok (.aload_n 0, 1) := by decide +kernel
theorem dX7_opens_1 : decode cX7_opens 1 = .ok (.getfield 105, 3) := by decide +kernel
theorem dX7_opens_4 : decode cX7_opens 4 = .ok (.iconst 5, 1) := by decide +kernel
theorem dX7_opens_5 : decode cX7_opens 5 = .ok (.if_icmp .ne 5, 3) := by decide +kernel
theorem dX7_opens_8 : decode cX7_opens 8 = .ok (.iconst 0, 1) := by decide +kernel
theorem dX7_opens_9 : decode cX7_opens 9 = .ok (.ireturn, 1) := by decide +kernel
theorem dX7_opens_10 : decode cX7_opens 10 = .ok (.aload_n 0, 1) := by decide +kernel
theorem dX7_opens_11 : decode cX7_opens 11 = .ok (.dup, 1) := by decide +kernel
theorem dX7_opens_12 : decode cX7_opens 12 = .ok (.getfield 105, 3) := by decide +kernel
theorem dX7_opens_15 : decode cX7_opens 15 = .ok (.iconst 1, 1) := by decide +kernel
theorem dX7_opens_16 : decode cX7_opens 16 = .ok (.iadd, 1) := by decide +kernel
theorem dX7_opens_17 : decode cX7_opens 17 = .ok (.putfield 105, 3) := by decide +kernel
theorem dX7_opens_20 : decode cX7_opens 20 = .ok (.aload_n 0, 1) := by decide +kernel
theorem dX7_opens_21 : decode cX7_opens 21 = .ok (.dup, 1) := by decide +kernel
theorem dX7_opens_22 : decode cX7_opens 22 = .ok (.getfield 71, 3) := by decide +kernel
theorem dX7_opens_25 : decode cX7_opens 25 = .ok (.iconst 1, 1) := by decide +kernel
theorem dX7_opens_26 : decode cX7_opens 26 = .ok (.iadd, 1) := by decide +kernel
theorem dX7_opens_27 : decode cX7_opens 27 = .ok (.putfield 71, 3) := by decide +kernel
theorem dX7_opens_30 : decode cX7_opens 30 = .ok (.iconst 1, 1) := by decide +kernel
theorem dX7_opens_31 : decode cX7_opens 31 = .ok (.ireturn, 1) := by decide +kernel
theorem dX7_one_0 : decode cX7_one 0 = .ok (.aload_n 0, 1) := by decide +kernel
theorem dX7_one_1 : decode cX7_one 1 = .ok (.invokevirtual 85, 3) := by decide +kernel
theorem dX7_one_4 : decode cX7_one 4 = .ok (.istore_n 1, 1) := by decide +kernel
theorem dX7_one_5 : decode cX7_one 5 = .ok (.aload_n 0, 1) := by decide +kernel
theorem dX7_one_6 : decode cX7_one 6 = .ok (.iload_n 1, 1) := by decide +kernel
theorem dX7_one_7 : decode cX7_one 7 = .ok (.invokevirtual 108, 3) := by decide +kernel
theorem dX7_one_10 : decode cX7_one 10 = .ok (.ifCond .eq 21, 3) := by decide +kernel
theorem dX7_one_13 : decode cX7_one 13 = .ok (.aload_n 0, 1) := by decide +kernel
theorem dX7_one_14 : decode cX7_one 14 = .ok (.dup, 1) := by decide +kernel
theorem dX7_one_15 : decode cX7_one 15 = .ok (.getfield 71, 3) := by decide +kernel
theorem dX7_one_18 : decode cX7_one 18 = .ok (.iconst 1, 1) := by decide +kernel
theorem dX7_one_19 : decode cX7_one 19 = .ok (.iadd, 1) := by decide +kernel
theorem dX7_one_20 : decode cX7_one 20 = .ok (.putfield 71, 3) := by decide +kernel
theorem dX7_one_23 : decode cX7_one 23 = .ok (.aload_n 0, 1) := by decide +kernel
theorem dX7_one_24 : decode cX7_one 24 = .ok (.iconst 1, 1) := by decide +kernel
theorem dX7_one_25 : decode cX7_one 25 = .ok (.iload_n 1, 1) := by decide +kernel
theorem dX7_one_26 : decode cX7_one 26 = .ok (.invokevirtual 89, 3) := by decide +kernel
theorem dX7_one_29 : decode cX7_one 29 = .ok (.iconst 1, 1) := by decide +kernel
theorem dX7_one_30 : decode cX7_one 30 = .ok (.ireturn, 1) := by decide +kernel
theorem dX7_one_31 : decode cX7_one 31 = .ok (.iload_n 1, 1) := by decide +kernel
theorem dX7_one_32 : decode cX7_one 32 = .ok (.bipush 48, 2) := by decide +kernel
theorem dX7_one_34 : decode cX7_one 34 = .ok (.bipush 57, 2) := by decide +kernel
theorem dX7_one_36 : decode cX7_one 36 = .ok (.invokestatic 53, 3) := by decide +kernel
theorem dX7_one_39 : decode cX7_one 39 = .ok (.ifCond .eq 63, 3) := by decide +kernel
theorem dX7_one_42 : decode cX7_one 42 = .ok (.iconst 0, 1) := by decide +kernel
theorem dX7_one_43 : decode cX7_one 43 = .ok (.istore_n 2, 1) := by decide +kernel
theorem dX7_one_44 : decode cX7_one 44 = .ok (.iconst 0, 1) := by decide +kernel
theorem dX7_one_45 : decode cX7_one 45 = .ok (.istore_n 3, 1) := by decide +kernel
theorem dX7_one_46 : decode cX7_one 46 = .ok (.iload_n 3, 1) := by decide +kernel
theorem dX7_one_47 : decode cX7_one 47 = .ok (.iconst 4, 1) := by decide +kernel
theorem dX7_one_48 : decode cX7_one 48 = .ok (.if_icmp .ge 46, 3) := by decide +kernel
theorem dX7_one_51 : decode cX7_one 51 = .ok (.aload_n 0, 1) := by decide +kernel
theorem dX7_one_52 : decode cX7_one 52 = .ok (.invokevirtual 85, 3) := by decide +kernel
theorem dX7_one_55 : decode cX7_one 55 = .ok (.bipush 48, 2) := by decide +kernel
theorem dX7_one_57 : decode cX7_one 57 = .ok (.bipush 57, 2) := by decide +kernel
theorem dX7_one_59 : decode cX7_one 59 = .ok (.invokestatic 53, 3) := by decide +kernel
theorem dX7_one_62 : decode cX7_one 62 = .ok (.ifCond .eq 32, 3) := by decide +kernel
theorem dX7_one_65 : decode cX7_one 65 = .ok (.bipush 10, 2) := by decide +kernel
theorem dX7_one_67 : decode cX7_one 67 = .ok (.iload_n 2, 1) := by decide +kernel
theorem dX7_one_68 : decode cX7_one 68 = .ok (.imul, 1) := by decide +kernel
theorem dX7_one_69 : decode cX7_one 69 = .ok (.aload_n 0, 1) := by decide +kernel
theorem dX7_one_70 : decode cX7_one 70 = .ok (.invokevirtual 85, 3) := by decide +kernel
theorem dX7_one_73 : decode cX7_one 73 = .ok (.iadd, 1) := by decide +kernel
theorem dX7_one_74 : decode cX7_one 74 = .ok (.bipush 48, 2) := by decide +kernel
theorem dX7_one_76 : decode cX7_one 76 = .ok (.isub, 1) := by decide +kernel
theorem dX7_one_77 : decode cX7_one 77 = .ok (.istore_n 2, 1) := by decide +kernel
theorem dX7_one_78 : decode cX7_one 78 = .ok (.aload_n 0, 1) := by decide +kernel
theorem dX7_one_79 : decode cX7_one 79 = .ok (.dup, 1) := by decide +kernel
theorem dX7_one_80 : decode cX7_one 80 = .ok (.getfield 71, 3) := by decide +kernel
theorem dX7_one_83 : decode cX7_one 83 = .ok (.iconst 1, 1) := by decide +kernel
theorem dX7_one_84 : decode cX7_one 84 = .ok (.iadd, 1) := by decide +kernel
theorem dX7_one_85 : decode cX7_one 85 = .ok (.putfield 71, 3) := by decide +kernel
theorem dX7_one_88 : decode cX7_one 88 = .ok (.iinc 3 1, 3) := by decide +kernel
theorem dX7_one_91 : decode cX7_one 91 = .ok (.goto (-45), 3) := by decide +kernel
theorem dX7_one_94 : decode cX7_one 94 = .ok (.aload_n 0, 1) := by decide +kernel
theorem dX7_one_95 : decode cX7_one 95 = .ok (.iconst 0, 1) := by decide +kernel
theorem dX7_one_96 : decode cX7_one 96 = .ok (.iload_n 2, 1) := by decide +kernel
theorem dX7_one_97 : decode cX7_one 97 = .ok (.invokevirtual 89, 3) := by decide +kernel
theorem dX7_one_100 : decode cX7_one 100 = .ok (.iconst 1, 1) := by decide +kernel
theorem dX7_one_101 : decode cX7_one 101 = .ok (.ireturn, 1) := by decide +kernel
theorem dX7_one_102 : decode cX7_one 102 = .ok (.iload_n 1, 1) := by decide +kernel
theorem dX7_one_103 : decode cX7_one 103 = .ok (.bipush 33, 2) := by decide +kernel
theorem dX7_one_105 : decode cX7_one 105 = .ok (.if_icmp .ne 37, 3) := by decide +kernel
theorem dX7_one_108 : decode cX7_one 108 = .ok (.aload_n 0, 1) := by decide +kernel
theorem dX7_one_109 : decode cX7_one 109 = .ok (.invokevirtual 112, 3) := by decide +kernel
theorem dX7_one_112 : decode cX7_one 112 = .ok (.ifCond .eq 10, 3) := by decide +kernel
theorem dX7_one_115 : decode cX7_one 115 = .ok (.aload_n 0, 1) := by decide +kernel
theorem dX7_one_116 : decode cX7_one 116 = .ok (.invokevirtual 102, 3) := by decide +kernel
theorem dX7_one_119 : decode cX7_one 119 = .ok (.ifCond .ne 5, 3) := by decide +kernel
theorem dX7_one_122 : decode cX7_one 122 = .ok (.iconst 0, 1) := by decide +kernel
theorem dX7_one_123 : decode cX7_one 123 = .ok (.ireturn, 1) := by decide +kernel
theorem dX7_one_124 : decode cX7_one 124 = .ok (.aload_n 0, 1) := by decide +kernel
theorem dX7_one_125 : decode cX7_one 125 = .ok (.dup, 1) := by decide +kernel
theorem dX7_one_126 : decode cX7_one 126 = .ok (.getfield 105, 3) := by decide +kernel
theorem dX7_one_129 : decode cX7_one 129 = .ok (.iconst 1, 1) := by decide +kernel
theorem dX7_one_130 : decode cX7_one 130 = .ok (.isub, 1) := by decide +kernel
theorem dX7_one_131 : decode cX7_one 131 = .ok (.putfield 105, 3) := by decide +kernel
theorem dX7_one_134 : decode cX7_one 134 = .ok (.aload_n 0, 1) := by decide +kernel
theorem dX7_one_135 : decode cX7_one 135 = .ok (.iconst 2, 1) := by decide +kernel
theorem dX7_one_136 : decode cX7_one 136 = .ok (.iconst 0, 1) := by decide +kernel
theorem dX7_one_137 : decode cX7_one 137 = .ok (.invokevirtual 89, 3) := by decide +kernel
theorem dX7_one_140 : decode cX7_one 140 = .ok (.iconst 1, 1) := by decide +kernel
theorem dX7_one_141 : decode cX7_one 141 = .ok (.ireturn, 1) := by decide +kernel
theorem dX7_one_142 : decode cX7_one 142 = .ok (.iload_n 1, 1) := by decide +kernel
theorem dX7_one_143 : decode cX7_one 143 = .ok (.bipush 40, 2) := by decide +kernel
theorem dX7_one_145 : decode cX7_one 145 = .ok (.if_icmp .ne 26, 3) := by decide +kernel
theorem dX7_one_148 : decode cX7_one 148 = .ok (.aload_n 0, 1) := by decide +kernel
theorem dX7_one_149 : decode cX7_one 149 = .ok (.invokevirtual 112, 3) := by decide +kernel
theorem dX7_one_152 : decode cX7_one 152 = .ok (.ifCond .eq 19, 3) := by decide +kernel
theorem dX7_one_155 : decode cX7_one 155 = .ok (.aload_n 0, 1) := by decide +kernel
theorem dX7_one_156 : decode cX7_one 156 = .ok (.invokevirtual 115, 3) := by decide +kernel
theorem dX7_one_159 : decode cX7_one 159 = .ok (.ifCond .eq 12, 3) := by decide +kernel
theorem dX7_one_162 : decode cX7_one 162 = .ok (.aload_n 0, 1) := by decide +kernel
theorem dX7_one_163 : decode cX7_one 163 = .ok (.invokevirtual 85, 3) := by decide +kernel
theorem dX7_one_166 : decode cX7_one 166 = .ok (.bipush 41, 2) := by decide +kernel
theorem dX7_one_168 : decode cX7_one 168 = .ok (.if_icmp .eq 5, 3) := by decide +kernel
theorem dX7_one_171 : decode cX7_one 171 = .ok (.iconst 0, 1) := by decide +kernel
theorem dX7_one_172 : decode cX7_one 172 = .ok (.ireturn, 1) := by decide +kernel
theorem dX7_one_173 : decode cX7_one 173 = .ok (.aload_n 0, 1) := by decide +kernel
theorem dX7_one_174 : decode cX7_one 174 = .ok (.dup, 1) := by decide +kernel
theorem dX7_one_175 : decode cX7_one 175 = .ok (.getfield 71, 3) := by decide +kernel
theorem dX7_one_178 : decode cX7_one 178 = .ok (.iconst 1, 1) := by decide +kernel
theorem dX7_one_179 : decode cX7_one 179 = .ok (.iadd, 1) := by decide +kernel
theorem dX7_one_180 : decode cX7_one 180 = .ok (.putfield 71, 3) := by decide +kernel
theorem dX7_one_183 : decode cX7_one 183 = .ok (.aload_n 0, 1) := by decide +kernel
theorem dX7_one_184 : decode cX7_one 184 = .ok (.dup, 1) := by decide +kernel
theorem dX7_one_185 : decode cX7_one 185 = .ok (.getfield 105, 3) := by decide +kernel
theorem dX7_one_188 : decode cX7_one 188 = .ok (.iconst 1, 1) := by decide +kernel
theorem dX7_one_189 : decode cX7_one 189 = .ok (.isub, 1) := by decide +kernel
theorem dX7_one_190 : decode cX7_one 190 = .ok (.putfield 105, 3) := by decide +kernel
theorem dX7_one_193 : decode cX7_one 193 = .ok (.iconst 1, 1) := by decide +kernel
theorem dX7_one_194 : decode cX7_one 194 = .ok (.ireturn, 1) := by decide +kernel
theorem dX7_hasText_0 : decode cX7_hasText 0 = .ok (.aload_n 0, 1) := by decide +kernel
theorem dX7_hasText_1 : decode cX7_hasText 1 = .ok (.getfield 7, 3) := by decide +kernel
theorem dX7_hasText_4 : decode cX7_hasText 4 = .ok (.sipush 142, 3) := by decide +kernel
theorem dX7_hasText_7 : decode cX7_hasText 7 = .ok (.bipush 125, 2) := by decide +kernel
theorem dX7_hasText_9 : decode cX7_hasText 9 = .ok (.iload_n 1, 1) := by decide +kernel
theorem dX7_hasText_10 : decode cX7_hasText 10 = .ok (.imul, 1) := by decide +kernel
theorem dX7_hasText_11 : decode cX7_hasText 11 = .ok (.iadd, 1) := by decide +kernel
theorem dX7_hasText_12 : decode cX7_hasText 12 = .ok (.iaload, 1) := by decide +kernel
theorem dX7_hasText_13 : decode cX7_hasText 13 = .ok (.ifCond .le 7, 3) := by decide +kernel
theorem dX7_hasText_16 : decode cX7_hasText 16 = .ok (.iconst 1, 1) := by decide +kernel
theorem dX7_hasText_17 : decode cX7_hasText 17 = .ok (.goto 4, 3) := by decide +kernel
theorem dX7_hasText_20 : decode cX7_hasText 20 = .ok (.iconst 0, 1) := by decide +kernel
theorem dX7_hasText_21 : decode cX7_hasText 21 = .ok (.ireturn, 1) := by decide +kernel
theorem dX7_text_0 : decode cX7_text 0 = .ok (.iload_n 1, 1) := by decide +kernel
theorem dX7_text_1 : decode cX7_text 1 = .ok (.iconst 0, 1) := by decide +kernel
theorem dX7_text_2 : decode cX7_text 2 = .ok (.iconst 1, 1) := by decide +kernel
theorem dX7_text_3 : decode cX7_text 3 = .ok (.invokestatic 53, 3) := by decide +kernel
theorem dX7_text_6 : decode cX7_text 6 = .ok (.ifCond .ne 9, 3) := by decide +kernel
theorem dX7_text_9 : decode cX7_text 9 = .ok (.aload_n 0, 1) := by decide +kernel
theorem dX7_text_10 : decode cX7_text 10 = .ok (.iconst 1, 1) := by decide +kernel
theorem dX7_text_11 : decode cX7_text 11 = .ok (.invokevirtual 65, 3) := by decide +kernel
theorem dX7_text_14 : decode cX7_text 14 = .ok (.ireturn, 1) := by decide +kernel
theorem dX7_text_15 : decode cX7_text 15 = .ok (.aload_n 0, 1) := by decide +kernel
theorem dX7_text_16 : decode cX7_text 16 = .ok (.iload_n 1, 1) := by decide +kernel
theorem dX7_text_17 : decode cX7_text 17 = .ok (.putfield 75, 3) := by decide +kernel
theorem dX7_text_20 : decode cX7_text 20 = .ok (.aload_n 0, 1) := by decide +kernel
theorem dX7_text_21 : decode cX7_text 21 = .ok (.iconst 0, 1) := by decide +kernel
theorem dX7_text_22 : decode cX7_text 22 = .ok (.putfield 71, 3) := by decide +kernel
theorem dX7_text_25 : decode cX7_text 25 = .ok (.aload_n 0, 1) := by decide +kernel
theorem dX7_text_26 : decode cX7_text 26 = .ok (.iconst 0, 1) := by decide +kernel
theorem dX7_text_27 : decode cX7_text 27 = .ok (.putfield 105, 3) := by decide +kernel
theorem dX7_text_30 : decode cX7_text 30 = .ok (.aload_n 0, 1) := by decide +kernel
theorem dX7_text_31 : decode cX7_text 31 = .ok (.iconst 0, 1) := by decide +kernel
theorem dX7_text_32 : decode cX7_text 32 = .ok (.putfield 78, 3) := by decide +kernel
theorem dX7_text_35 : decode cX7_text 35 = .ok (.aload_n 0, 1) := by decide +kernel
theorem dX7_text_36 : decode cX7_text 36 = .ok (.invokevirtual 115, 3) := by decide +kernel
theorem dX7_text_39 : decode cX7_text 39 = .ok (.ifCond .eq 20, 3) := by decide +kernel
theorem dX7_text_42 : decode cX7_text 42 = .ok (.aload_n 0, 1) := by decide +kernel
theorem dX7_text_43 : decode cX7_text 43 = .ok (.getfield 71, 3) := by decide +kernel
theorem dX7_text_46 : decode cX7_text 46 = .ok (.aload_n 0, 1) := by decide +kernel
theorem dX7_text_47 : decode cX7_text 47 = .ok (.getfield 7, 3) := by decide +kernel
theorem dX7_text_50 : decode cX7_text 50 = .ok (.iconst 2, 1) := by decide +kernel
theorem dX7_text_51 : decode cX7_text 51 = .ok (.iaload, 1) := by decide +kernel
theorem dX7_text_52 : decode cX7_text 52 = .ok (.if_icmp .ne 7, 3) := by decide +kernel
theorem dX7_text_55 : decode cX7_text 55 = .ok (.iconst 1, 1) := by decide +kernel
theorem dX7_text_56 : decode cX7_text 56 = .ok (.goto 4, 3) := by decide +kernel
theorem dX7_text_59 : decode cX7_text 59 = .ok (.iconst 0, 1) := by decide +kernel
theorem dX7_text_60 : decode cX7_text 60 = .ok (.istore_n 2, 1) := by decide +kernel
theorem dX7_text_61 : decode cX7_text 61 = .ok (.aload_n 0, 1) := by decide +kernel
theorem dX7_text_62 : decode cX7_text 62 = .ok (.getfield 7, 3) := by decide +kernel
theorem dX7_text_65 : decode cX7_text 65 = .ok (.iconst 2, 1) := by decide +kernel
theorem dX7_text_66 : decode cX7_text 66 = .ok (.iconst 0, 1) := by decide +kernel
theorem dX7_text_67 : decode cX7_text 67 = .ok (.iastore, 1) := by decide +kernel
theorem dX7_text_68 : decode cX7_text 68 = .ok (.iload_n 2, 1) := by decide +kernel
theorem dX7_text_69 : decode cX7_text 69 = .ok (.ifCond .ne 11, 3) := by decide +kernel
theorem dX7_text_72 : decode cX7_text 72 = .ok (.bipush (-10), 2) := by decide +kernel
theorem dX7_text_74 : decode cX7_text 74 = .ok (.aload_n 0, 1) := by decide +kernel
theorem dX7_text_75 : decode cX7_text 75 = .ok (.getfield 71, 3) := by decide +kernel
theorem dX7_text_78 : decode cX7_text 78 = .ok (.isub, 1) := by decide +kernel
theorem dX7_text_79 : decode cX7_text 79 = .ok (.ireturn, 1) := by decide +kernel
theorem dX7_text_80 : decode cX7_text 80 = .ok (.sipush 142, 3) := by decide +kernel
theorem dX7_text_83 : decode cX7_text 83 = .ok (.bipush 125, 2) := by decide +kernel
theorem dX7_text_85 : decode cX7_text 85 = .ok (.iload_n 1, 1) := by decide +kernel
theorem dX7_text_86 : decode cX7_text 86 = .ok (.imul, 1) := by decide +kernel
theorem dX7_text_87 : decode cX7_text 87 = .ok (.iadd, 1) := by decide +kernel
theorem dX7_text_88 : decode cX7_text 88 = .ok (.istore_n 3, 1) := by decide +kernel
theorem dX7_text_89 : decode cX7_text 89 = .ok (.aload_n 0, 1) := by decide +kernel
theorem dX7_text_90 : decode cX7_text 90 = .ok (.getfield 7, 3) := by decide +kernel
theorem dX7_text_93 : decode cX7_text 93 = .ok (.iload_n 3, 1) := by decide +kernel
theorem dX7_text_94 : decode cX7_text 94 = .ok (.aload_n 0, 1) := by decide +kernel
theorem dX7_text_95 : decode cX7_text 95 = .ok (.getfield 78, 3) := by decide +kernel
theorem dX7_text_98 : decode cX7_text 98 = .ok (.iastore, 1) := by decide +kernel
theorem dX7_text_99 : decode cX7_text 99 = .ok (.iconst 0, 1) := by decide +kernel
theorem dX7_text_100 : decode cX7_text 100 = .ok (.istore 4, 2) := by decide +kernel
theorem dX7_text_102 : decode cX7_text 102 = .ok (.iload 4, 2) := by decide +kernel
theorem dX7_text_104 : decode cX7_text 104 = .ok (.iconst 2, 1) := by decide +kernel
theorem dX7_text_105 : decode cX7_text 105 = .ok (.aload_n 0, 1) := by decide +kernel
theorem dX7_text_106 : decode cX7_text 106 = .ok (.getfield 78, 3) := by decide +kernel
theorem dX7_text_109 : decode cX7_text 109 = .ok (.imul, 1) := by decide +kernel
theorem dX7_text_110 : decode cX7_text 110 = .ok (.if_icmp .ge 27, 3) := by decide +kernel
theorem dX7_text_113 : decode cX7_text 113 = .ok (.aload_n 0, 1) := by decide +kernel
theorem dX7_text_114 : decode cX7_text 114 = .ok (.getfield 7, 3) := by decide +kernel
theorem dX7_text_117 : decode cX7_text 117 = .ok (.iload_n 3, 1) := by decide +kernel
theorem dX7_text_118 : decode cX7_text 118 = .ok (.iconst 1, 1) := by decide +kernel
theorem dX7_text_119 : decode cX7_text 119 = .ok (.iadd, 1) := by decide +kernel
theorem dX7_text_120 : decode cX7_text 120 = .ok (.iload 4, 2) := by decide +kernel
theorem dX7_text_122 : decode cX7_text 122 = .ok (.iadd, 1) := by decide +kernel
theorem dX7_text_123 : decode cX7_text 123 = .ok (.aload_n 0, 1) := by decide +kernel
theorem dX7_text_124 : decode cX7_text 124 = .ok (.getfield 22, 3) := by decide +kernel
theorem dX7_text_127 : decode cX7_text 127 = .ok (.iload 4, 2) := by decide +kernel
theorem dX7_text_129 : decode cX7_text 129 = .ok (.iaload, 1) := by decide +kernel
theorem dX7_text_130 : decode cX7_text 130 = .ok (.iastore, 1) := by decide +kernel
theorem dX7_text_131 : decode cX7_text 131 = .ok (.iinc 4 1, 3) := by decide +kernel
theorem dX7_text_134 : decode cX7_text 134 = .ok (.goto (-32), 3) := by decide +kernel
theorem dX7_text_137 : decode cX7_text 137 = .ok (.iconst 1, 1) := by decide +kernel
theorem dX7_text_138 : decode cX7_text 138 = .ok (.ireturn, 1) := by decide +kernel
theorem dX7_untell_0 : decode cX7_untell 0 = .ok (.iload_n 1, 1) := by decide +kernel
theorem dX7_untell_1 : decode cX7_untell 1 = .ok (.iconst 0, 1) := by decide +kernel
theorem dX7_untell_2 : decode cX7_untell 2 = .ok (.iconst 1, 1) := by decide +kernel
theorem dX7_untell_3 : decode cX7_untell 3 = .ok (.invokestatic 53, 3) := by decide +kernel
theorem dX7_untell_6 : decode cX7_untell 6 = .ok (.ifCond .ne 9, 3) := by decide +kernel
theorem dX7_untell_9 : decode cX7_untell 9 = .ok (.aload_n 0, 1) := by decide +kernel
theorem dX7_untell_10 : decode cX7_untell 10 = .ok (.iconst 1, 1) := by decide +kernel
theorem dX7_untell_11 : decode cX7_untell 11 = .ok (.invokevirtual 65, 3) := by decide +kernel
theorem dX7_untell_14 : decode cX7_untell 14 = .ok (.ireturn, 1) := by decide +kernel
theorem dX7_untell_15 : decode cX7_untell 15 = .ok (.aload_n 0, 1) := by decide +kernel
theorem dX7_untell_16 : decode cX7_untell 16 = .ok (.iload_n 1, 1) := by decide +kernel
theorem dX7_untell_17 : decode cX7_untell 17 = .ok (.invokevirtual 118, 3) := by decide +kernel
theorem dX7_untell_20 : decode cX7_untell 20 = .ok (.ifCond .eq 7, 3) := by decide +kernel
theorem dX7_untell_23 : decode cX7_untell 23 = .ok (.iconst 1, 1) := by decide +kernel
theorem dX7_untell_24 : decode cX7_untell 24 = .ok (.goto 4, 3) := by decide +kernel
theorem dX7_untell_27 : decode cX7_untell 27 = .ok (.iconst 0, 1) := by decide +kernel
theorem dX7_untell_28 : decode cX7_untell 28 = .ok (.istore_n 2, 1) := by decide +kernel
theorem dX7_untell_29 : decode cX7_untell 29 = .ok (.aload_n 0, 1) := by decide +kernel
theorem dX7_untell_30 : decode cX7_untell 30 = .ok (.getfield 7, 3) := by decide +kernel
theorem dX7_untell_33 : decode cX7_untell 33 = .ok (.sipush 142, 3) := by decide +kernel
theorem dX7_untell_36 : decode cX7_untell 36 = .ok (.bipush 125, 2) := by decide +kernel
theorem dX7_untell_38 : decode cX7_untell 38 = .ok (.iload_n 1, 1) := by decide +kernel
theorem dX7_untell_39 : decode cX7_untell 39 = .ok (.imul, 1) := by decide +kernel
theorem dX7_untell_40 : decode cX7_untell 40 = .ok (.iadd, 1) := by decide +kernel
theorem dX7_untell_41 : decode cX7_untell 41 = .ok (.iconst 0, 1) := by decide +kernel
theorem dX7_untell_42 : decode cX7_untell 42 = .ok (.iastore, 1) := by decide +kernel
theorem dX7_untell_43 : decode cX7_untell 43 = .ok (.iload_n 2, 1) := by decide +kernel
theorem dX7_untell_44 : decode cX7_untell 44 = .ok (.ireturn, 1) := by decide +kernel
theorem dX7_joined_0 : decode cX7_joined 0 = .ok (.iload_n 0, 1) := by decide +kernel
theorem dX7_joined_1 : decode cX7_joined 1 = .ok (.tableswitch 217 37 62 #[153, 203, 217, 217, 217, 127, 119, 217, 123, 217, 131, 217, 217, 217, 217, 217, 217, 217, 217, 217, 217, 217, 217, 170, 192, 181], 119) := by decide +kernel
theorem dX7_joined_120 : decode cX7_joined 120 = .ok (.iload_n 1, 1) := by decide +kernel
theorem dX7_joined_121 : decode cX7_joined 121 = .ok (.iload_n 2, 1) := by decide +kernel
theorem dX7_joined_122 : decode cX7_joined 122 = .ok (.iadd, 1) := by decide +kernel
theorem dX7_joined_123 : decode cX7_joined 123 = .ok (.ireturn, 1) := by decide +kernel
theorem dX7_joined_124 : decode cX7_joined 124 = .ok (.iload_n 1, 1) := by decide +kernel
theorem dX7_joined_125 : decode cX7_joined 125 = .ok (.iload_n 2, 1) := by decide +kernel
theorem dX7_joined_126 : decode cX7_joined 126 = .ok (.isub, 1) := by decide +kernel
theorem dX7_joined_127 : decode cX7_joined 127 = .ok (.ireturn, 1) := by decide +kernel
theorem dX7_joined_128 : decode cX7_joined 128 = .ok (.iload_n 1, 1) := by decide +kernel
theorem dX7_joined_129 : decode cX7_joined 129 = .ok (.iload_n 2, 1) := by decide +kernel
theorem dX7_joined_130 : decode cX7_joined 130 = .ok (.imul, 1) := by decide +kernel
theorem dX7_joined_131 : decode cX7_joined 131 = .ok (.ireturn, 1) := by decide +kernel
theorem dX7_joined_132 : decode cX7_joined 132 = .ok (.iload_n 2, 1) := by decide +kernel
theorem dX7_joined_133 : decode cX7_joined 133 = .ok (.ifCond .ne 7, 3) := by decide +kernel
theorem dX7_joined_136 : decode cX7_joined 136 = .ok (.iconst 0, 1) := by decide +kernel
theorem dX7_joined_137 : decode cX7_joined 137 = .ok (.goto 16, 3) := by decide +kernel
theorem dX7_joined_140 : decode cX7_joined 140 = .ok (.iload_n 2, 1) := by decide +kernel
theorem dX7_joined_141 : decode cX7_joined 141 = .ok (.iconst (-1), 1) := by decide +kernel
theorem dX7_joined_142 : decode cX7_joined 142 = .ok (.if_icmp .ne 8, 3) := by decide +kernel
theorem dX7_joined_145 : decode cX7_joined 145 = .ok (.iload_n 1, 1) := by decide +kernel
theorem dX7_joined_146 : decode cX7_joined 146 = .ok (.ineg, 1) := by decide +kernel
theorem dX7_joined_147 : decode cX7_joined 147 = .ok (.goto 6, 3) := by decide +kernel
theorem dX7_joined_150 : decode cX7_joined 150 = .ok (.iload_n 1, 1) := by decide +kernel
theorem dX7_joined_151 : decode cX7_joined 151 = .ok (.iload_n 2, 1) := by decide +kernel
theorem dX7_joined_152 : decode cX7_joined 152 = .ok (.idiv, 1) := by decide +kernel
theorem dX7_joined_153 : decode cX7_joined 153 = .ok (.ireturn, 1) := by decide +kernel
theorem dX7_joined_154 : decode cX7_joined 154 = .ok (.iload_n 2, 1) := by decide +kernel
theorem dX7_joined_155 : decode cX7_joined 155 = .ok (.ifCond .eq 8, 3) := by decide +kernel
theorem dX7_joined_158 : decode cX7_joined 158 = .ok (.iload_n 2, 1) := by decide +kernel
theorem dX7_joined_159 : decode cX7_joined 159 = .ok (.iconst (-1), 1) := by decide +kernel
theorem dX7_joined_160 : decode cX7_joined 160 = .ok (.if_icmp .ne 7, 3) := by decide +kernel
theorem dX7_joined_163 : decode cX7_joined 163 = .ok (.iconst 0, 1) := by decide +kernel
theorem dX7_joined_164 : decode cX7_joined 164 = .ok (.goto 6, 3) := by decide +kernel
theorem dX7_joined_167 : decode cX7_joined 167 = .ok (.iload_n 1, 1) := by decide +kernel
theorem dX7_joined_168 : decode cX7_joined 168 = .ok (.iload_n 2, 1) := by decide +kernel
theorem dX7_joined_169 : decode cX7_joined 169 = .ok (.irem, 1) := by decide +kernel
theorem dX7_joined_170 : decode cX7_joined 170 = .ok (.ireturn, 1) := by decide +kernel
theorem dX7_joined_171 : decode cX7_joined 171 = .ok (.iload_n 1, 1) := by decide +kernel
theorem dX7_joined_172 : decode cX7_joined 172 = .ok (.iload_n 2, 1) := by decide +kernel
theorem dX7_joined_173 : decode cX7_joined 173 = .ok (.if_icmp .ge 7, 3) := by decide +kernel
theorem dX7_joined_176 : decode cX7_joined 176 = .ok (.iconst 1, 1) := by decide +kernel
theorem dX7_joined_177 : decode cX7_joined 177 = .ok (.goto 4, 3) := by decide +kernel
theorem dX7_joined_180 : decode cX7_joined 180 = .ok (.iconst 0, 1) := by decide +kernel
theorem dX7_joined_181 : decode cX7_joined 181 = .ok (.ireturn, 1) := by decide +kernel
theorem dX7_joined_182 : decode cX7_joined 182 = .ok (.iload_n 1, 1) := by decide +kernel
theorem dX7_joined_183 : decode cX7_joined 183 = .ok (.iload_n 2, 1) := by decide +kernel
theorem dX7_joined_184 : decode cX7_joined 184 = .ok (.if_icmp .le 7, 3) := by decide +kernel
theorem dX7_joined_187 : decode cX7_joined 187 = .ok (.iconst 1, 1) := by decide +kernel
theorem dX7_joined_188 : decode cX7_joined 188 = .ok (.goto 4, 3) := by decide +kernel
theorem dX7_joined_191 : decode cX7_joined 191 = .ok (.iconst 0, 1) := by decide +kernel
theorem dX7_joined_192 : decode cX7_joined 192 = .ok (.ireturn, 1) := by decide +kernel
theorem dX7_joined_193 : decode cX7_joined 193 = .ok (.iload_n 1, 1) := by decide +kernel
theorem dX7_joined_194 : decode cX7_joined 194 = .ok (.iload_n 2, 1) := by decide +kernel
theorem dX7_joined_195 : decode cX7_joined 195 = .ok (.if_icmp .ne 7, 3) := by decide +kernel
theorem dX7_joined_198 : decode cX7_joined 198 = .ok (.iconst 1, 1) := by decide +kernel
theorem dX7_joined_199 : decode cX7_joined 199 = .ok (.goto 4, 3) := by decide +kernel
theorem dX7_joined_202 : decode cX7_joined 202 = .ok (.iconst 0, 1) := by decide +kernel
theorem dX7_joined_203 : decode cX7_joined 203 = .ok (.ireturn, 1) := by decide +kernel
theorem dX7_joined_204 : decode cX7_joined 204 = .ok (.iload_n 1, 1) := by decide +kernel
theorem dX7_joined_205 : decode cX7_joined 205 = .ok (.ifCond .eq 11, 3) := by decide +kernel
theorem dX7_joined_208 : decode cX7_joined 208 = .ok (.iload_n 2, 1) := by decide +kernel
theorem dX7_joined_209 : decode cX7_joined 209 = .ok (.ifCond .eq 7, 3) := by decide +kernel
theorem dX7_joined_212 : decode cX7_joined 212 = .ok (.iconst 1, 1) := by decide +kernel
theorem dX7_joined_213 : decode cX7_joined 213 = .ok (.goto 4, 3) := by decide +kernel
theorem dX7_joined_216 : decode cX7_joined 216 = .ok (.iconst 0, 1) := by decide +kernel
theorem dX7_joined_217 : decode cX7_joined 217 = .ok (.ireturn, 1) := by decide +kernel
theorem dX7_joined_218 : decode cX7_joined 218 = .ok (.iload_n 1, 1) := by decide +kernel
theorem dX7_joined_219 : decode cX7_joined 219 = .ok (.ifCond .ne 7, 3) := by decide +kernel
theorem dX7_joined_222 : decode cX7_joined 222 = .ok (.iload_n 2, 1) := by decide +kernel
theorem dX7_joined_223 : decode cX7_joined 223 = .ok (.ifCond .eq 7, 3) := by decide +kernel
theorem dX7_joined_226 : decode cX7_joined 226 = .ok (.iconst 1, 1) := by decide +kernel
theorem dX7_joined_227 : decode cX7_joined 227 = .ok (.goto 4, 3) := by decide +kernel
theorem dX7_joined_230 : decode cX7_joined 230 = .ok (.iconst 0, 1) := by decide +kernel
theorem dX7_joined_231 : decode cX7_joined 231 = .ok (.ireturn, 1) := by decide +kernel
theorem dX7_worked_0 : decode cX7_worked 0 = .ok (.sipush 142, 3) := by decide +kernel
theorem dX7_worked_3 : decode cX7_worked 3 = .ok (.bipush 125, 2) := by decide +kernel
theorem dX7_worked_5 : decode cX7_worked 5 = .ok (.iload_n 1, 1) := by decide +kernel
theorem dX7_worked_6 : decode cX7_worked 6 = .ok (.imul, 1) := by decide +kernel
theorem dX7_worked_7 : decode cX7_worked 7 = .ok (.iadd, 1) := by decide +kernel
theorem dX7_worked_8 : decode cX7_worked 8 = .ok (.istore_n 2, 1) := by decide +kernel
theorem dX7_worked_9 : decode cX7_worked 9 = .ok (.iconst 0, 1) := by decide +kernel
theorem dX7_worked_10 : decode cX7_worked 10 = .ok (.istore_n 3, 1) := by decide +kernel
theorem dX7_worked_11 : decode cX7_worked 11 = .ok (.iconst 0, 1) := by decide +kernel
theorem dX7_worked_12 : decode cX7_worked 12 = .ok (.istore 4, 2) := by decide +kernel
theorem dX7_worked_14 : decode cX7_worked 14 = .ok (.iload 4, 2) := by decide +kernel
theorem dX7_worked_16 : decode cX7_worked 16 = .ok (.aload_n 0, 1) := by decide +kernel
theorem dX7_worked_17 : decode cX7_worked 17 = .ok (.getfield 7, 3) := by decide +kernel
theorem dX7_worked_20 : decode cX7_worked 20 = .ok (.iload_n 2, 1) := by decide +kernel
theorem dX7_worked_21 : decode cX7_worked 21 = .ok (.iaload, 1) := by decide +kernel
theorem dX7_worked_22 : decode cX7_worked 22 = .ok (.if_icmp .ge 142, 3) := by decide +kernel
theorem dX7_worked_25 : decode cX7_worked 25 = .ok (.aload_n 0, 1) := by decide +kernel
theorem dX7_worked_26 : decode cX7_worked 26 = .ok (.getfield 7, 3) := by decide +kernel
theorem dX7_worked_29 : decode cX7_worked 29 = .ok (.iload_n 2, 1) := by decide +kernel
theorem dX7_worked_30 : decode cX7_worked 30 = .ok (.iconst 1, 1) := by decide +kernel
theorem dX7_worked_31 : decode cX7_worked 31 = .ok (.iadd, 1) := by decide +kernel
theorem dX7_worked_32 : decode cX7_worked 32 = .ok (.iconst 2, 1) := by decide +kernel
theorem dX7_worked_33 : decode cX7_worked 33 = .ok (.iload 4, 2) := by decide +kernel
theorem dX7_worked_35 : decode cX7_worked 35 = .ok (.imul, 1) := by decide +kernel
theorem dX7_worked_36 : decode cX7_worked 36 = .ok (.iadd, 1) := by decide +kernel
theorem dX7_worked_37 : decode cX7_worked 37 = .ok (.iaload, 1) := by decide +kernel
theorem dX7_worked_38 : decode cX7_worked 38 = .ok (.istore 5, 2) := by decide +kernel
theorem dX7_worked_40 : decode cX7_worked 40 = .ok (.aload_n 0, 1) := by decide +kernel
theorem dX7_worked_41 : decode cX7_worked 41 = .ok (.getfield 7, 3) := by decide +kernel
theorem dX7_worked_44 : decode cX7_worked 44 = .ok (.iload_n 2, 1) := by decide +kernel
theorem dX7_worked_45 : decode cX7_worked 45 = .ok (.iconst 2, 1) := by decide +kernel
theorem dX7_worked_46 : decode cX7_worked 46 = .ok (.iadd, 1) := by decide +kernel
theorem dX7_worked_47 : decode cX7_worked 47 = .ok (.iconst 2, 1) := by decide +kernel
theorem dX7_worked_48 : decode cX7_worked 48 = .ok (.iload 4, 2) := by decide +kernel
theorem dX7_worked_50 : decode cX7_worked 50 = .ok (.imul, 1) := by decide +kernel
theorem dX7_worked_51 : decode cX7_worked 51 = .ok (.iadd, 1) := by decide +kernel
theorem dX7_worked_52 : decode cX7_worked 52 = .ok (.iaload, 1) := by decide +kernel
theorem dX7_worked_53 : decode cX7_worked 53 = .ok (.istore 6, 2) := by decide +kernel
theorem dX7_worked_55 : decode cX7_worked 55 = .ok (.iload 5, 2) := by decide +kernel
theorem dX7_worked_57 : decode cX7_worked 57 = .ok (.ifCond .eq 9, 3) := by decide +kernel
theorem dX7_worked_60 : decode cX7_worked 60 = .ok (.iload 5, 2) := by decide +kernel
theorem dX7_worked_62 : decode cX7_worked 62 = .ok (.iconst 1, 1) := by decide +kernel
theorem dX7_worked_63 : decode cX7_worked 63 = .ok (.if_icmp .ne 32, 3) := by decide +kernel
theorem dX7_worked_66 : decode cX7_worked 66 = .ok (.aload_n 0, 1) := by decide +kernel
theorem dX7_worked_67 : decode cX7_worked 67 = .ok (.getfield 28, 3) := by decide +kernel
theorem dX7_worked_70 : decode cX7_worked 70 = .ok (.iload_n 3, 1) := by decide +kernel
theorem dX7_worked_71 : decode cX7_worked 71 = .ok (.iload 5, 2) := by decide +kernel
theorem dX7_worked_73 : decode cX7_worked 73 = .ok (.ifCond .ne 8, 3) := by decide +kernel
theorem dX7_worked_76 : decode cX7_worked 76 = .ok (.iload 6, 2) := by decide +kernel
theorem dX7_worked_78 : decode cX7_worked 78 = .ok (.goto 10, 3) := by decide +kernel
theorem dX7_worked_81 : decode cX7_worked 81 = .ok (.aload_n 0, 1) := by decide +kernel
theorem dX7_worked_82 : decode cX7_worked 82 = .ok (.getfield 25, 3) := by decide +kernel
theorem dX7_worked_85 : decode cX7_worked 85 = .ok (.iload 6, 2) := by decide +kernel
theorem dX7_worked_87 : decode cX7_worked 87 = .ok (.iaload, 1) := by decide +kernel
theorem dX7_worked_88 : decode cX7_worked 88 = .ok (.iastore, 1) := by decide +kernel
theorem dX7_worked_89 : decode cX7_worked 89 = .ok (.iinc 3 1, 3) := by decide +kernel
theorem dX7_worked_92 : decode cX7_worked 92 = .ok (.goto 66, 3) := by decide +kernel
theorem dX7_worked_95 : decode cX7_worked 95 = .ok (.iload 5, 2) := by decide +kernel
theorem dX7_worked_97 : decode cX7_worked 97 = .ok (.iconst 2, 1) := by decide +kernel
theorem dX7_worked_98 : decode cX7_worked 98 = .ok (.if_icmp .ne 30, 3) := by decide +kernel
theorem dX7_worked_101 : decode cX7_worked 101 = .ok (.aload_n 0, 1) := by decide +kernel
theorem dX7_worked_102 : decode cX7_worked 102 = .ok (.getfield 28, 3) := by decide +kernel
theorem dX7_worked_105 : decode cX7_worked 105 = .ok (.iload_n 3, 1) := by decide +kernel
theorem dX7_worked_106 : decode cX7_worked 106 = .ok (.iconst 1, 1) := by decide +kernel
theorem dX7_worked_107 : decode cX7_worked 107 = .ok (.isub, 1) := by decide +kernel
theorem dX7_worked_108 : decode cX7_worked 108 = .ok (.aload_n 0, 1) := by decide +kernel
theorem dX7_worked_109 : decode cX7_worked 109 = .ok (.getfield 28, 3) := by decide +kernel
theorem dX7_worked_112 : decode cX7_worked 112 = .ok (.iload_n 3, 1) := by decide +kernel
theorem dX7_worked_113 : decode cX7_worked 113 = .ok (.iconst 1, 1) := by decide +kernel
theorem dX7_worked_114 : decode cX7_worked 114 = .ok (.isub, 1) := by decide +kernel
theorem dX7_worked_115 : decode cX7_worked 115 = .ok (.iaload, 1) := by decide +kernel
theorem dX7_worked_116 : decode cX7_worked 116 = .ok (.ifCond .ne 7, 3) := by decide +kernel
theorem dX7_worked_119 : decode cX7_worked 119 = .ok (.iconst 1, 1) := by decide +kernel
theorem dX7_worked_120 : decode cX7_worked 120 = .ok (.goto 4, 3) := by decide +kernel
theorem dX7_worked_123 : decode cX7_worked 123 = .ok (.iconst 0, 1) := by decide +kernel
theorem dX7_worked_124 : decode cX7_worked 124 = .ok (.iastore, 1) := by decide +kernel
theorem dX7_worked_125 : decode cX7_worked 125 = .ok (.goto 33, 3) := by decide +kernel
theorem dX7_worked_128 : decode cX7_worked 128 = .ok (.iinc 3 (-1), 3) := by decide +kernel
theorem dX7_worked_131 : decode cX7_worked 131 = .ok (.aload_n 0, 1) := by decide +kernel
theorem dX7_worked_132 : decode cX7_worked 132 = .ok (.getfield 28, 3) := by decide +kernel
theorem dX7_worked_135 : decode cX7_worked 135 = .ok (.iload_n 3, 1) := by decide +kernel
theorem dX7_worked_136 : decode cX7_worked 136 = .ok (.iconst 1, 1) := by decide +kernel
theorem dX7_worked_137 : decode cX7_worked 137 = .ok (.isub, 1) := by decide +kernel
theorem dX7_worked_138 : decode cX7_worked 138 = .ok (.iload 6, 2) := by decide +kernel
theorem dX7_worked_140 : decode cX7_worked 140 = .ok (.aload_n 0, 1) := by decide +kernel
theorem dX7_worked_141 : decode cX7_worked 141 = .ok (.getfield 28, 3) := by decide +kernel
theorem dX7_worked_144 : decode cX7_worked 144 = .ok (.iload_n 3, 1) := by decide +kernel
theorem dX7_worked_145 : decode cX7_worked 145 = .ok (.iconst 1, 1) := by decide +kernel
theorem dX7_worked_146 : decode cX7_worked 146 = .ok (.isub, 1) := by decide +kernel
theorem dX7_worked_147 : decode cX7_worked 147 = .ok (.iaload, 1) := by decide +kernel
theorem dX7_worked_148 : decode cX7_worked 148 = .ok (.aload_n 0, 1) := by decide +kernel
theorem dX7_worked_149 : decode cX7_worked 149 = .ok (.getfield 28, 3) := by decide +kernel
theorem dX7_worked_152 : decode cX7_worked 152 = .ok (.iload_n 3, 1) := by decide +kernel
theorem dX7_worked_153 : decode cX7_worked 153 = .ok (.iaload, 1) := by decide +kernel
theorem dX7_worked_154 : decode cX7_worked 154 = .ok (.invokestatic 121, 3) := by decide +kernel
theorem dX7_worked_157 : decode cX7_worked 157 = .ok (.iastore, 1) := by decide +kernel
theorem dX7_worked_158 : decode cX7_worked 158 = .ok (.iinc 4 1, 3) := by decide +kernel
theorem dX7_worked_161 : decode cX7_worked 161 = .ok (.goto (-147), 3) := by decide +kernel
theorem dX7_worked_164 : decode cX7_worked 164 = .ok (.aload_n 0, 1) := by decide +kernel
theorem dX7_worked_165 : decode cX7_worked 165 = .ok (.getfield 28, 3) := by decide +kernel
theorem dX7_worked_168 : decode cX7_worked 168 = .ok (.iconst 0, 1) := by decide +kernel
theorem dX7_worked_169 : decode cX7_worked 169 = .ok (.iaload, 1) := by decide +kernel
theorem dX7_worked_170 : decode cX7_worked 170 = .ok (.ireturn, 1) := by decide +kernel
theorem dX7_getsAs_0 : decode cX7_getsAs 0 = .ok (.aload_n 0, 1) := by decide +kernel
theorem dX7_getsAs_1 : decode cX7_getsAs 1 = .ok (.iload_n 2, 1) := by decide +kernel
theorem dX7_getsAs_2 : decode cX7_getsAs 2 = .ok (.iconst 1, 1) := by decide +kernel
theorem dX7_getsAs_3 : decode cX7_getsAs 3 = .ok (.invokevirtual 124, 3) := by decide +kernel
theorem dX7_getsAs_6 : decode cX7_getsAs 6 = .ok (.istore 4, 2) := by decide +kernel
theorem dX7_getsAs_8 : decode cX7_getsAs 8 = .ok (.iload_n 1, 1) := by decide +kernel
theorem dX7_getsAs_9 : decode cX7_getsAs 9 = .ok (.tableswitch 136 1 6 #[39, 57, 67, 85, 103, 113], 39) := by decide +kernel
theorem dX7_getsAs_48 : decode cX7_getsAs 48 = .ok (.aload_n 0, 1) := by decide +kernel
theorem dX7_getsAs_49 : decode cX7_getsAs 49 = .ok (.iconst 0, 1) := by decide +kernel
theorem dX7_getsAs_50 : decode cX7_getsAs 50 = .ok (.iload_n 2, 1) := by decide +kernel
theorem dX7_getsAs_51 : decode cX7_getsAs 51 = .ok (.iload_n 3, 1) := by decide +kernel
theorem dX7_getsAs_52 : decode cX7_getsAs 52 = .ok (.invokevirtual 127, 3) := by decide +kernel
theorem dX7_getsAs_55 : decode cX7_getsAs 55 = .ok (.iload_n 3, 1) := by decide +kernel
theorem dX7_getsAs_56 : decode cX7_getsAs 56 = .ok (.ifCond .ne 7, 3) := by decide +kernel
theorem dX7_getsAs_59 : decode cX7_getsAs 59 = .ok (.iconst 2, 1) := by decide +kernel
theorem dX7_getsAs_60 : decode cX7_getsAs 60 = .ok (.goto 4, 3) := by decide +kernel
theorem dX7_getsAs_63 : decode cX7_getsAs 63 = .ok (.iconst 0, 1) := by decide +kernel
theorem dX7_getsAs_64 : decode cX7_getsAs 64 = .ok (.iadd, 1) := by decide +kernel
theorem dX7_getsAs_65 : decode cX7_getsAs 65 = .ok (.ireturn, 1) := by decide +kernel
theorem dX7_getsAs_66 : decode cX7_getsAs 66 = .ok (.iconst 3, 1) := by decide +kernel
theorem dX7_getsAs_67 : decode cX7_getsAs 67 = .ok (.aload_n 0, 1) := by decide +kernel
theorem dX7_getsAs_68 : decode cX7_getsAs 68 = .ok (.iconst 0, 1) := by decide +kernel
theorem dX7_getsAs_69 : decode cX7_getsAs 69 = .ok (.iload_n 2, 1) := by decide +kernel
theorem dX7_getsAs_70 : decode cX7_getsAs 70 = .ok (.iload_n 3, 1) := by decide +kernel
theorem dX7_getsAs_71 : decode cX7_getsAs 71 = .ok (.invokevirtual 127, 3) := by decide +kernel
theorem dX7_getsAs_74 : decode cX7_getsAs 74 = .ok (.imul, 1) := by decide +kernel
theorem dX7_getsAs_75 : decode cX7_getsAs 75 = .ok (.ireturn, 1) := by decide +kernel
theorem dX7_getsAs_76 : decode cX7_getsAs 76 = .ok (.iload_n 3, 1) := by decide +kernel
theorem dX7_getsAs_77 : decode cX7_getsAs 77 = .ok (.iconst 4, 1) := by decide +kernel
theorem dX7_getsAs_78 : decode cX7_getsAs 78 = .ok (.if_icmp .ne 8, 3) := by decide +kernel
theorem dX7_getsAs_81 : decode cX7_getsAs 81 = .ok (.iload 4, 2) := by decide +kernel
theorem dX7_getsAs_83 : decode cX7_getsAs 83 = .ok (.goto 10, 3) := by decide +kernel
theorem dX7_getsAs_86 : decode cX7_getsAs 86 = .ok (.aload_n 0, 1) := by decide +kernel
theorem dX7_getsAs_87 : decode cX7_getsAs 87 = .ok (.iconst 0, 1) := by decide +kernel
theorem dX7_getsAs_88 : decode cX7_getsAs 88 = .ok (.iload_n 2, 1) := by decide +kernel
theorem dX7_getsAs_89 : decode cX7_getsAs 89 = .ok (.iload_n 3, 1) := by decide +kernel
theorem dX7_getsAs_90 : decode cX7_getsAs 90 = .ok (.invokevirtual 127, 3) := by decide +kernel
theorem dX7_getsAs_93 : decode cX7_getsAs 93 = .ok (.ireturn, 1) := by decide +kernel
theorem dX7_getsAs_94 : decode cX7_getsAs 94 = .ok (.aload_n 0, 1) := by decide +kernel
theorem dX7_getsAs_95 : decode cX7_getsAs 95 = .ok (.iconst 1, 1) := by decide +kernel
theorem dX7_getsAs_96 : decode cX7_getsAs 96 = .ok (.iload_n 2, 1) := by decide +kernel
theorem dX7_getsAs_97 : decode cX7_getsAs 97 = .ok (.iload_n 3, 1) := by decide +kernel
theorem dX7_getsAs_98 : decode cX7_getsAs 98 = .ok (.invokevirtual 127, 3) := by decide +kernel
theorem dX7_getsAs_101 : decode cX7_getsAs 101 = .ok (.aload_n 0, 1) := by decide +kernel
theorem dX7_getsAs_102 : decode cX7_getsAs 102 = .ok (.iload_n 2, 1) := by decide +kernel
theorem dX7_getsAs_103 : decode cX7_getsAs 103 = .ok (.iload_n 3, 1) := by decide +kernel
theorem dX7_getsAs_104 : decode cX7_getsAs 104 = .ok (.invokevirtual 57, 3) := by decide +kernel
theorem dX7_getsAs_107 : decode cX7_getsAs 107 = .ok (.bipush 10, 2) := by decide +kernel
theorem dX7_getsAs_109 : decode cX7_getsAs 109 = .ok (.idiv, 1) := by decide +kernel
theorem dX7_getsAs_110 : decode cX7_getsAs 110 = .ok (.iadd, 1) := by decide +kernel
theorem dX7_getsAs_111 : decode cX7_getsAs 111 = .ok (.ireturn, 1) := by decide +kernel
theorem dX7_getsAs_112 : decode cX7_getsAs 112 = .ok (.aload_n 0, 1) := by decide +kernel
theorem dX7_getsAs_113 : decode cX7_getsAs 113 = .ok (.iconst 2, 1) := by decide +kernel
theorem dX7_getsAs_114 : decode cX7_getsAs 114 = .ok (.iload_n 2, 1) := by decide +kernel
theorem dX7_getsAs_115 : decode cX7_getsAs 115 = .ok (.iload_n 3, 1) := by decide +kernel
theorem dX7_getsAs_116 : decode cX7_getsAs 116 = .ok (.invokevirtual 127, 3) := by decide +kernel
theorem dX7_getsAs_119 : decode cX7_getsAs 119 = .ok (.iconst 1, 1) := by decide +kernel
theorem dX7_getsAs_120 : decode cX7_getsAs 120 = .ok (.isub, 1) := by decide +kernel
theorem dX7_getsAs_121 : decode cX7_getsAs 121 = .ok (.ireturn, 1) := by decide +kernel
theorem dX7_getsAs_122 : decode cX7_getsAs 122 = .ok (.aload_n 0, 1) := by decide +kernel
theorem dX7_getsAs_123 : decode cX7_getsAs 123 = .ok (.getfield 7, 3) := by decide +kernel
theorem dX7_getsAs_126 : decode cX7_getsAs 126 = .ok (.iconst 0, 1) := by decide +kernel
theorem dX7_getsAs_127 : decode cX7_getsAs 127 = .ok (.iaload, 1) := by decide +kernel
theorem dX7_getsAs_128 : decode cX7_getsAs 128 = .ok (.iconst 2, 1) := by decide +kernel
theorem dX7_getsAs_129 : decode cX7_getsAs 129 = .ok (.irem, 1) := by decide +kernel
theorem dX7_getsAs_130 : decode cX7_getsAs 130 = .ok (.ifCond .ne 13, 3) := by decide +kernel
theorem dX7_getsAs_133 : decode cX7_getsAs 133 = .ok (.aload_n 0, 1) := by decide +kernel
theorem dX7_getsAs_134 : decode cX7_getsAs 134 = .ok (.iconst 0, 1) := by decide +kernel
theorem dX7_getsAs_135 : decode cX7_getsAs 135 = .ok (.iload_n 2, 1) := by decide +kernel
theorem dX7_getsAs_136 : decode cX7_getsAs 136 = .ok (.iload_n 3, 1) := by decide +kernel
theorem dX7_getsAs_137 : decode cX7_getsAs 137 = .ok (.invokevirtual 127, 3) := by decide +kernel
theorem dX7_getsAs_140 : decode cX7_getsAs 140 = .ok (.goto 4, 3) := by decide +kernel
theorem dX7_getsAs_143 : decode cX7_getsAs 143 = .ok (.iconst 0, 1) := by decide +kernel
theorem dX7_getsAs_144 : decode cX7_getsAs 144 = .ok (.ireturn, 1) := by decide +kernel
theorem dX7_getsAs_145 : decode cX7_getsAs 145 = .ok (.iload 4, 2) := by decide +kernel
theorem dX7_getsAs_147 : decode cX7_getsAs 147 = .ok (.iconst 5, 1) := by decide +kernel
theorem dX7_getsAs_148 : decode cX7_getsAs 148 = .ok (.irem, 1) := by decide +kernel
theorem dX7_getsAs_149 : decode cX7_getsAs 149 = .ok (.iload_n 3, 1) := by decide +kernel
theorem dX7_getsAs_150 : decode cX7_getsAs 150 = .ok (.if_icmp .ne 7, 3) := by decide +kernel
theorem dX7_getsAs_153 : decode cX7_getsAs 153 = .ok (.iconst 1, 1) := by decide +kernel
theorem dX7_getsAs_154 : decode cX7_getsAs 154 = .ok (.goto 4, 3) := by decide +kernel
theorem dX7_getsAs_157 : decode cX7_getsAs 157 = .ok (.iconst 0, 1) := by decide +kernel
theorem dX7_getsAs_158 : decode cX7_getsAs 158 = .ok (.ireturn, 1) := by decide +kernel
theorem dX7_gainTold_0 : decode cX7_gainTold 0 = .ok (.aload_n 0, 1) := by decide +kernel
theorem dX7_gainTold_1 : decode cX7_gainTold 1 = .ok (.getfield 25, 3) := by decide +kernel
theorem dX7_gainTold_4 : decode cX7_gainTold 4 = .ok (.bipush 119, 2) := by decide +kernel
theorem dX7_gainTold_6 : decode cX7_gainTold 6 = .ok (.iload_n 1, 1) := by decide +kernel
theorem dX7_gainTold_7 : decode cX7_gainTold 7 = .ok (.iastore, 1) := by decide +kernel
theorem dX7_gainTold_8 : decode cX7_gainTold 8 = .ok (.aload_n 0, 1) := by decide +kernel
theorem dX7_gainTold_9 : decode cX7_gainTold 9 = .ok (.getfield 25, 3) := by decide +kernel
theorem dX7_gainTold_12 : decode cX7_gainTold 12 = .ok (.bipush 115, 2) := by decide +kernel
theorem dX7_gainTold_14 : decode cX7_gainTold 14 = .ok (.iload_n 2, 1) := by decide +kernel
theorem dX7_gainTold_15 : decode cX7_gainTold 15 = .ok (.iastore, 1) := by decide +kernel
theorem dX7_gainTold_16 : decode cX7_gainTold 16 = .ok (.aload_n 0, 1) := by decide +kernel
theorem dX7_gainTold_17 : decode cX7_gainTold 17 = .ok (.getfield 25, 3) := by decide +kernel
theorem dX7_gainTold_20 : decode cX7_gainTold 20 = .ok (.bipush 121, 2) := by decide +kernel
theorem dX7_gainTold_22 : decode cX7_gainTold 22 = .ok (.iload_n 3, 1) := by decide +kernel
theorem dX7_gainTold_23 : decode cX7_gainTold 23 = .ok (.iastore, 1) := by decide +kernel
theorem dX7_gainTold_24 : decode cX7_gainTold 24 = .ok (.aload_n 0, 1) := by decide +kernel
theorem dX7_gainTold_25 : decode cX7_gainTold 25 = .ok (.iconst 0, 1) := by decide +kernel
theorem dX7_gainTold_26 : decode cX7_gainTold 26 = .ok (.invokevirtual 118, 3) := by decide +kernel
theorem dX7_gainTold_29 : decode cX7_gainTold 29 = .ok (.ifCond .eq 11, 3) := by decide +kernel
theorem dX7_gainTold_32 : decode cX7_gainTold 32 = .ok (.aload_n 0, 1) := by decide +kernel
theorem dX7_gainTold_33 : decode cX7_gainTold 33 = .ok (.iconst 0, 1) := by decide +kernel
theorem dX7_gainTold_34 : decode cX7_gainTold 34 = .ok (.invokevirtual 130, 3) := by decide +kernel
theorem dX7_gainTold_37 : decode cX7_gainTold 37 = .ok (.goto 4, 3) := by decide +kernel
theorem dX7_gainTold_40 : decode cX7_gainTold 40 = .ok (.iload_n 1, 1) := by decide +kernel
theorem dX7_gainTold_41 : decode cX7_gainTold 41 = .ok (.bipush (-9), 2) := by decide +kernel
theorem dX7_gainTold_43 : decode cX7_gainTold 43 = .ok (.bipush 9, 2) := by decide +kernel
theorem dX7_gainTold_45 : decode cX7_gainTold 45 = .ok (.invokestatic 61, 3) := by decide +kernel
theorem dX7_gainTold_48 : decode cX7_gainTold 48 = .ok (.ireturn, 1) := by decide +kernel
theorem dX7_worthTold_0 : decode cX7_worthTold 0 = .ok (.aload_n 0, 1) := by decide +kernel
theorem dX7_worthTold_1 : decode cX7_worthTold 1 = .ok (.getfield 25, 3) := by decide +kernel
theorem dX7_worthTold_4 : decode cX7_worthTold 4 = .ok (.bipush 118, 2) := by decide +kernel
theorem dX7_worthTold_6 : decode cX7_worthTold 6 = .ok (.iload_n 1, 1) := by decide +kernel
theorem dX7_worthTold_7 : decode cX7_worthTold 7 = .ok (.iastore, 1) := by decide +kernel
theorem dX7_worthTold_8 : decode cX7_worthTold 8 = .ok (.aload_n 0, 1) := by decide +kernel
theorem dX7_worthTold_9 : decode cX7_worthTold 9 = .ok (.getfield 25, 3) := by decide +kernel
theorem dX7_worthTold_12 : decode cX7_worthTold 12 = .ok (.bipush 115, 2) := by decide +kernel
theorem dX7_worthTold_14 : decode cX7_worthTold 14 = .ok (.iload_n 2, 1) := by decide +kernel
theorem dX7_worthTold_15 : decode cX7_worthTold 15 = .ok (.iastore, 1) := by decide +kernel
theorem dX7_worthTold_16 : decode cX7_worthTold 16 = .ok (.aload_n 0, 1) := by decide +kernel
theorem dX7_worthTold_17 : decode cX7_worthTold 17 = .ok (.getfield 25, 3) := by decide +kernel
theorem dX7_worthTold_20 : decode cX7_worthTold 20 = .ok (.bipush 110, 2) := by decide +kernel
theorem dX7_worthTold_22 : decode cX7_worthTold 22 = .ok (.iload_n 3, 1) := by decide +kernel
theorem dX7_worthTold_23 : decode cX7_worthTold 23 = .ok (.iastore, 1) := by decide +kernel
theorem dX7_worthTold_24 : decode cX7_worthTold 24 = .ok (.aload_n 0, 1) := by decide +kernel
theorem dX7_worthTold_25 : decode cX7_worthTold 25 = .ok (.iconst 1, 1) := by decide +kernel
theorem dX7_worthTold_26 : decode cX7_worthTold 26 = .ok (.invokevirtual 118, 3) := by decide +kernel
theorem dX7_worthTold_29 : decode cX7_worthTold 29 = .ok (.ifCond .eq 11, 3) := by decide +kernel
theorem dX7_worthTold_32 : decode cX7_worthTold 32 = .ok (.aload_n 0, 1) := by decide +kernel
theorem dX7_worthTold_33 : decode cX7_worthTold 33 = .ok (.iconst 1, 1) := by decide +kernel
theorem dX7_worthTold_34 : decode cX7_worthTold 34 = .ok (.invokevirtual 130, 3) := by decide +kernel
theorem dX7_worthTold_37 : decode cX7_worthTold 37 = .ok (.goto 4, 3) := by decide +kernel
theorem dX7_worthTold_40 : decode cX7_worthTold 40 = .ok (.iload_n 1, 1) := by decide +kernel
theorem dX7_worthTold_41 : decode cX7_worthTold 41 = .ok (.iconst 0, 1) := by decide +kernel
theorem dX7_worthTold_42 : decode cX7_worthTold 42 = .ok (.sipush 999, 3) := by decide +kernel
theorem dX7_worthTold_45 : decode cX7_worthTold 45 = .ok (.invokestatic 61, 3) := by decide +kernel
theorem dX7_worthTold_48 : decode cX7_worthTold 48 = .ok (.ireturn, 1) := by decide +kernel
theorem dX7_gainOf_0 : decode cX7_gainOf 0 = .ok (.aload_n 0, 1) := by decide +kernel
theorem dX7_gainOf_1 : decode cX7_gainOf 1 = .ok (.aload_n 0, 1) := by decide +kernel
theorem dX7_gainOf_2 : decode cX7_gainOf 2 = .ok (.aload_n 0, 1) := by decide +kernel
theorem dX7_gainOf_3 : decode cX7_gainOf 3 = .ok (.iload_n 1, 1) := by decide +kernel
theorem dX7_gainOf_4 : decode cX7_gainOf 4 = .ok (.iconst 0, 1) := by decide +kernel
theorem dX7_gainOf_5 : decode cX7_gainOf 5 = .ok (.invokevirtual 124, 3) := by decide +kernel
theorem dX7_gainOf_8 : decode cX7_gainOf 8 = .ok (.iload_n 1, 1) := by decide +kernel
theorem dX7_gainOf_9 : decode cX7_gainOf 9 = .ok (.iload_n 2, 1) := by decide +kernel
theorem dX7_gainOf_10 : decode cX7_gainOf 10 = .ok (.invokevirtual 127, 3) := by decide +kernel
theorem dX7_gainOf_13 : decode cX7_gainOf 13 = .ok (.iload_n 2, 1) := by decide +kernel
theorem dX7_gainOf_14 : decode cX7_gainOf 14 = .ok (.aload_n 0, 1) := by decide +kernel
theorem dX7_gainOf_15 : decode cX7_gainOf 15 = .ok (.getfield 7, 3) := by decide +kernel
theorem dX7_gainOf_18 : decode cX7_gainOf 18 = .ok (.iconst 0, 1) := by decide +kernel
theorem dX7_gainOf_19 : decode cX7_gainOf 19 = .ok (.iaload, 1) := by decide +kernel
theorem dX7_gainOf_20 : decode cX7_gainOf 20 = .ok (.invokevirtual 133, 3) := by decide +kernel
theorem dX7_gainOf_23 : decode cX7_gainOf 23 = .ok (.ireturn, 1) := by decide +kernel
theorem dX7_worthOf_0 : decode cX7_worthOf 0 = .ok (.iconst 0, 1) := by decide +kernel
theorem dX7_worthOf_1 : decode cX7_worthOf 1 = .ok (.istore_n 2, 1) := by decide +kernel
theorem dX7_worthOf_2 : decode cX7_worthOf 2 = .ok (.iconst 0, 1) := by decide +kernel
theorem dX7_worthOf_3 : decode cX7_worthOf 3 = .ok (.istore_n 3, 1) := by decide +kernel
theorem dX7_worthOf_4 : decode cX7_worthOf 4 = .ok (.iload_n 3, 1) := by decide +kernel
theorem dX7_worthOf_5 : decode cX7_worthOf 5 = .ok (.iconst 5, 1) := by decide +kernel
theorem dX7_worthOf_6 : decode cX7_worthOf 6 = .ok (.if_icmp .ge 24, 3) := by decide +kernel
theorem dX7_worthOf_9 : decode cX7_worthOf 9 = .ok (.iload_n 2, 1) := by decide +kernel
theorem dX7_worthOf_10 : decode cX7_worthOf 10 = .ok (.aload_n 0, 1) := by decide +kernel
theorem dX7_worthOf_11 : decode cX7_worthOf 11 = .ok (.aload_n 0, 1) := by decide +kernel
theorem dX7_worthOf_12 : decode cX7_worthOf 12 = .ok (.iload_n 1, 1) := by decide +kernel
theorem dX7_worthOf_13 : decode cX7_worthOf 13 = .ok (.iload_n 3, 1) := by decide +kernel
theorem dX7_worthOf_14 : decode cX7_worthOf 14 = .ok (.invokevirtual 57, 3) := by decide +kernel
theorem dX7_worthOf_17 : decode cX7_worthOf 17 = .ok (.iload_n 3, 1) := by decide +kernel
theorem dX7_worthOf_18 : decode cX7_worthOf 18 = .ok (.iload_n 1, 1) := by decide +kernel
theorem dX7_worthOf_19 : decode cX7_worthOf 19 = .ok (.invokevirtual 136, 3) := by decide +kernel
theorem dX7_worthOf_22 : decode cX7_worthOf 22 = .ok (.iadd, 1) := by decide +kernel
theorem dX7_worthOf_23 : decode cX7_worthOf 23 = .ok (.istore_n 2, 1) := by decide +kernel
theorem dX7_worthOf_24 : decode cX7_worthOf 24 = .ok (.iinc 3 1, 3) := by decide +kernel
theorem dX7_worthOf_27 : decode cX7_worthOf 27 = .ok (.goto (-23), 3) := by decide +kernel
theorem dX7_worthOf_30 : decode cX7_worthOf 30 = .ok (.iload_n 2, 1) := by decide +kernel
theorem dX7_worthOf_31 : decode cX7_worthOf 31 = .ok (.ireturn, 1) := by decide +kernel
theorem dX7_fromOf_0 : decode cX7_fromOf 0 = .ok (.iconst 0, 1) := by decide +kernel
theorem dX7_fromOf_1 : decode cX7_fromOf 1 = .ok (.istore_n 2, 1) := by decide +kernel
theorem dX7_fromOf_2 : decode cX7_fromOf 2 = .ok (.iconst 1, 1) := by decide +kernel
theorem dX7_fromOf_3 : decode cX7_fromOf 3 = .ok (.iload_n 1, 1) := by decide +kernel
theorem dX7_fromOf_4 : decode cX7_fromOf 4 = .ok (.ishl, 1) := by decide +kernel
theorem dX7_fromOf_5 : decode cX7_fromOf 5 = .ok (.istore_n 3, 1) := by decide +kernel
theorem dX7_fromOf_6 : decode cX7_fromOf 6 = .ok (.iload_n 3, 1) := by decide +kernel
theorem dX7_fromOf_7 : decode cX7_fromOf 7 = .ok (.ifCond .eq 109, 3) := by decide +kernel
theorem dX7_fromOf_10 : decode cX7_fromOf 10 = .ok (.iconst 0, 1) := by decide +kernel
theorem dX7_fromOf_11 : decode cX7_fromOf 11 = .ok (.istore 4, 2) := by decide +kernel
theorem dX7_fromOf_13 : decode cX7_fromOf 13 = .ok (.iconst 0, 1) := by decide +kernel
theorem dX7_fromOf_14 : decode cX7_fromOf 14 = .ok (.istore 5, 2) := by decide +kernel
theorem dX7_fromOf_16 : decode cX7_fromOf 16 = .ok (.iload 5, 2) := by decide +kernel
theorem dX7_fromOf_18 : decode cX7_fromOf 18 = .ok (.aload_n 0, 1) := by decide +kernel
theorem dX7_fromOf_19 : decode cX7_fromOf 19 = .ok (.getfield 7, 3) := by decide +kernel
theorem dX7_fromOf_22 : decode cX7_fromOf 22 = .ok (.iconst 4, 1) := by decide +kernel
theorem dX7_fromOf_23 : decode cX7_fromOf 23 = .ok (.iaload, 1) := by decide +kernel
theorem dX7_fromOf_24 : decode cX7_fromOf 24 = .ok (.if_icmp .ge 77, 3) := by decide +kernel
theorem dX7_fromOf_27 : decode cX7_fromOf 27 = .ok (.iload_n 3, 1) := by decide +kernel
theorem dX7_fromOf_28 : decode cX7_fromOf 28 = .ok (.iload 5, 2) := by decide +kernel
theorem dX7_fromOf_30 : decode cX7_fromOf 30 = .ok (.ishr, 1) := by decide +kernel
theorem dX7_fromOf_31 : decode cX7_fromOf 31 = .ok (.iconst 1, 1) := by decide +kernel
theorem dX7_fromOf_32 : decode cX7_fromOf 32 = .ok (.iand, 1) := by decide +kernel
theorem dX7_fromOf_33 : decode cX7_fromOf 33 = .ok (.iconst 1, 1) := by decide +kernel
theorem dX7_fromOf_34 : decode cX7_fromOf 34 = .ok (.if_icmp .ne 61, 3) := by decide +kernel
theorem dX7_fromOf_37 : decode cX7_fromOf 37 = .ok (.iload 4, 2) := by decide +kernel
theorem dX7_fromOf_39 : decode cX7_fromOf 39 = .ok (.aload_n 0, 1) := by decide +kernel
theorem dX7_fromOf_40 : decode cX7_fromOf 40 = .ok (.iload 5, 2) := by decide +kernel
theorem dX7_fromOf_42 : decode cX7_fromOf 42 = .ok (.iconst 2, 1) := by decide +kernel
theorem dX7_fromOf_43 : decode cX7_fromOf 43 = .ok (.invokevirtual 124, 3) := by decide +kernel
theorem dX7_fromOf_46 : decode cX7_fromOf 46 = .ok (.iconst (-1), 1) := by decide +kernel
theorem dX7_fromOf_47 : decode cX7_fromOf 47 = .ok (.if_icmp .ne 7, 3) := by decide +kernel
theorem dX7_fromOf_50 : decode cX7_fromOf 50 = .ok (.iconst 0, 1) := by decide +kernel
theorem dX7_fromOf_51 : decode cX7_fromOf 51 = .ok (.goto 12, 3) := by decide +kernel
theorem dX7_fromOf_54 : decode cX7_fromOf 54 = .ok (.iconst 1, 1) := by decide +kernel
theorem dX7_fromOf_55 : decode cX7_fromOf 55 = .ok (.aload_n 0, 1) := by decide +kernel
theorem dX7_fromOf_56 : decode cX7_fromOf 56 = .ok (.iload 5, 2) := by decide +kernel
theorem dX7_fromOf_58 : decode cX7_fromOf 58 = .ok (.iconst 2, 1) := by decide +kernel
theorem dX7_fromOf_59 : decode cX7_fromOf 59 = .ok (.invokevirtual 124, 3) := by decide +kernel
theorem dX7_fromOf_62 : decode cX7_fromOf 62 = .ok (.ishl, 1) := by decide +kernel
theorem dX7_fromOf_63 : decode cX7_fromOf 63 = .ok (.ior, 1) := by decide +kernel
theorem dX7_fromOf_64 : decode cX7_fromOf 64 = .ok (.istore 4, 2) := by decide +kernel
theorem dX7_fromOf_66 : decode cX7_fromOf 66 = .ok (.iload 4, 2) := by decide +kernel
theorem dX7_fromOf_68 : decode cX7_fromOf 68 = .ok (.aload_n 0, 1) := by decide +kernel
theorem dX7_fromOf_69 : decode cX7_fromOf 69 = .ok (.iload 5, 2) := by decide +kernel
theorem dX7_fromOf_71 : decode cX7_fromOf 71 = .ok (.iconst 3, 1) := by decide +kernel
theorem dX7_fromOf_72 : decode cX7_fromOf 72 = .ok (.invokevirtual 124, 3) := by decide +kernel
theorem dX7_fromOf_75 : decode cX7_fromOf 75 = .ok (.iconst (-1), 1) := by decide +kernel
theorem dX7_fromOf_76 : decode cX7_fromOf 76 = .ok (.if_icmp .ne 7, 3) := by decide +kernel
theorem dX7_fromOf_79 : decode cX7_fromOf 79 = .ok (.iconst 0, 1) := by decide +kernel
theorem dX7_fromOf_80 : decode cX7_fromOf 80 = .ok (.goto 12, 3) := by decide +kernel
theorem dX7_fromOf_83 : decode cX7_fromOf 83 = .ok (.iconst 1, 1) := by decide +kernel
theorem dX7_fromOf_84 : decode cX7_fromOf 84 = .ok (.aload_n 0, 1) := by decide +kernel
theorem dX7_fromOf_85 : decode cX7_fromOf 85 = .ok (.iload 5, 2) := by decide +kernel
theorem dX7_fromOf_87 : decode cX7_fromOf 87 = .ok (.iconst 3, 1) := by decide +kernel
theorem dX7_fromOf_88 : decode cX7_fromOf 88 = .ok (.invokevirtual 124, 3) := by decide +kernel
theorem dX7_fromOf_91 : decode cX7_fromOf 91 = .ok (.ishl, 1) := by decide +kernel
theorem dX7_fromOf_92 : decode cX7_fromOf 92 = .ok (.ior, 1) := by decide +kernel
theorem dX7_fromOf_93 : decode cX7_fromOf 93 = .ok (.istore 4, 2) := by decide +kernel
theorem dX7_fromOf_95 : decode cX7_fromOf 95 = .ok (.iinc 5 1, 3) := by decide +kernel
theorem dX7_fromOf_98 : decode cX7_fromOf 98 = .ok (.goto (-82), 3) := by decide +kernel
theorem dX7_fromOf_101 : decode cX7_fromOf 101 = .ok (.iload 4, 2) := by decide +kernel
theorem dX7_fromOf_103 : decode cX7_fromOf 103 = .ok (.iload_n 2, 1) := by decide +kernel
theorem dX7_fromOf_104 : decode cX7_fromOf 104 = .ok (.iconst (-1), 1) := by decide +kernel
theorem dX7_fromOf_105 : decode cX7_fromOf 105 = .ok (.ixor, 1) := by decide +kernel
theorem dX7_fromOf_106 : decode cX7_fromOf 106 = .ok (.iand, 1) := by decide +kernel
theorem dX7_fromOf_107 : decode cX7_fromOf 107 = .ok (.istore_n 3, 1) := by decide +kernel
theorem dX7_fromOf_108 : decode cX7_fromOf 108 = .ok (.iload_n 2, 1) := by decide +kernel
theorem dX7_fromOf_109 : decode cX7_fromOf 109 = .ok (.iload 4, 2) := by decide +kernel
theorem dX7_fromOf_111 : decode cX7_fromOf 111 = .ok (.ior, 1) := by decide +kernel
theorem dX7_fromOf_112 : decode cX7_fromOf 112 = .ok (.istore_n 2, 1) := by decide +kernel
theorem dX7_fromOf_113 : decode cX7_fromOf 113 = .ok (.goto (-107), 3) := by decide +kernel
theorem dX7_fromOf_116 : decode cX7_fromOf 116 = .ok (.iload_n 2, 1) := by decide +kernel
theorem dX7_fromOf_117 : decode cX7_fromOf 117 = .ok (.ireturn, 1) := by decide +kernel
theorem dX7_aYear_0 : decode cX7_aYear 0 = .ok (.iconst 0, 1) := by decide +kernel
theorem dX7_aYear_1 : decode cX7_aYear 1 = .ok (.istore_n 1, 1) := by decide +kernel
theorem dX7_aYear_2 : decode cX7_aYear 2 = .ok (.iload_n 1, 1) := by decide +kernel
theorem dX7_aYear_3 : decode cX7_aYear 3 = .ok (.aload_n 0, 1) := by decide +kernel
theorem dX7_aYear_4 : decode cX7_aYear 4 = .ok (.getfield 7, 3) := by decide +kernel
theorem dX7_aYear_7 : decode cX7_aYear 7 = .ok (.iconst 4, 1) := by decide +kernel
theorem dX7_aYear_8 : decode cX7_aYear 8 = .ok (.iaload, 1) := by decide +kernel
theorem dX7_aYear_9 : decode cX7_aYear 9 = .ok (.if_icmp .ge 34, 3) := by decide +kernel
theorem dX7_aYear_12 : decode cX7_aYear 12 = .ok (.iconst 0, 1) := by decide +kernel
theorem dX7_aYear_13 : decode cX7_aYear 13 = .ok (.istore_n 2, 1) := by decide +kernel
theorem dX7_aYear_14 : decode cX7_aYear 14 = .ok (.iload_n 2, 1) := by decide +kernel
theorem dX7_aYear_15 : decode cX7_aYear 15 = .ok (.iconst 5, 1) := by decide +kernel
theorem dX7_aYear_16 : decode cX7_aYear 16 = .ok (.if_icmp .ge 21, 3) := by decide +kernel
theorem dX7_aYear_19 : decode cX7_aYear 19 = .ok (.aload_n 0, 1) := by decide +kernel
theorem dX7_aYear_20 : decode cX7_aYear 20 = .ok (.iload_n 1, 1) := by decide +kernel
theorem dX7_aYear_21 : decode cX7_aYear 21 = .ok (.iload_n 2, 1) := by decide +kernel
theorem dX7_aYear_22 : decode cX7_aYear 22 = .ok (.aload_n 0, 1) := by decide +kernel
theorem dX7_aYear_23 : decode cX7_aYear 23 = .ok (.iload_n 1, 1) := by decide +kernel
theorem dX7_aYear_24 : decode cX7_aYear 24 = .ok (.iload_n 2, 1) := by decide +kernel
theorem dX7_aYear_25 : decode cX7_aYear 25 = .ok (.invokevirtual 139, 3) := by decide +kernel
theorem dX7_aYear_28 : decode cX7_aYear 28 = .ok (.invokevirtual 142, 3) := by decide +kernel
theorem dX7_aYear_31 : decode cX7_aYear 31 = .ok (.iinc 2 1, 3) := by decide +kernel
theorem dX7_aYear_34 : decode cX7_aYear 34 = .ok (.goto (-20), 3) := by decide +kernel
theorem dX7_aYear_37 : decode cX7_aYear 37 = .ok (.iinc 1 1, 3) := by decide +kernel
theorem dX7_aYear_40 : decode cX7_aYear 40 = .ok (.goto (-38), 3) := by decide +kernel
theorem dX7_aYear_43 : decode cX7_aYear 43 = .ok (.aload_n 0, 1) := by decide +kernel
theorem dX7_aYear_44 : decode cX7_aYear 44 = .ok (.getfield 7, 3) := by decide +kernel
theorem dX7_aYear_47 : decode cX7_aYear 47 = .ok (.iconst 0, 1) := by decide +kernel
theorem dX7_aYear_48 : decode cX7_aYear 48 = .ok (.dup2, 1) := by decide +kernel
theorem dX7_aYear_49 : decode cX7_aYear 49 = .ok (.iaload, 1) := by decide +kernel
theorem dX7_aYear_50 : decode cX7_aYear 50 = .ok (.iconst 1, 1) := by decide +kernel
theorem dX7_aYear_51 : decode cX7_aYear 51 = .ok (.iadd, 1) := by decide +kernel
theorem dX7_aYear_52 : decode cX7_aYear 52 = .ok (.iastore, 1) := by decide +kernel
theorem dX7_aYear_53 : decode cX7_aYear 53 = .ok (.return_, 1) := by decide +kernel
theorem dX7_draw_0 : decode cX7_draw 0 = .ok (.aload_n 0, 1) := by decide +kernel
theorem dX7_draw_1 : decode cX7_draw 1 = .ok (.getfield 7, 3) := by decide +kernel
theorem dX7_draw_4 : decode cX7_draw 4 = .ok (.iconst 1, 1) := by decide +kernel
theorem dX7_draw_5 : decode cX7_draw 5 = .ok (.aload_n 0, 1) := by decide +kernel
theorem dX7_draw_6 : decode cX7_draw 6 = .ok (.getfield 7, 3) := by decide +kernel
theorem dX7_draw_9 : decode cX7_draw 9 = .ok (.iconst 1, 1) := by decide +kernel
theorem dX7_draw_10 : decode cX7_draw 10 = .ok (.iaload, 1) := by decide +kernel
theorem dX7_draw_11 : decode cX7_draw 11 = .ok (.ldc 146, 2) := by decide +kernel
theorem dX7_draw_13 : decode cX7_draw 13 = .ok (.imul, 1) := by decide +kernel
theorem dX7_draw_14 : decode cX7_draw 14 = .ok (.sipush 12345, 3) := by decide +kernel
theorem dX7_draw_17 : decode cX7_draw 17 = .ok (.iadd, 1) := by decide +kernel
theorem dX7_draw_18 : decode cX7_draw 18 = .ok (.iastore, 1) := by decide +kernel
theorem dX7_draw_19 : decode cX7_draw 19 = .ok (.aload_n 0, 1) := by decide +kernel
theorem dX7_draw_20 : decode cX7_draw 20 = .ok (.getfield 7, 3) := by decide +kernel
theorem dX7_draw_23 : decode cX7_draw 23 = .ok (.iconst 1, 1) := by decide +kernel
theorem dX7_draw_24 : decode cX7_draw 24 = .ok (.iaload, 1) := by decide +kernel
theorem dX7_draw_25 : decode cX7_draw 25 = .ok (.bipush 8, 2) := by decide +kernel
theorem dX7_draw_27 : decode cX7_draw 27 = .ok (.iushr, 1) := by decide +kernel
theorem dX7_draw_28 : decode cX7_draw 28 = .ok (.ireturn, 1) := by decide +kernel
theorem dX7_isKind_0 : decode cX7_isKind 0 = .ok (.iload_n 0, 1) := by decide +kernel
theorem dX7_isKind_1 : decode cX7_isKind 1 = .ok (.iconst 0, 1) := by decide +kernel
theorem dX7_isKind_2 : decode cX7_isKind 2 = .ok (.bipush 69, 2) := by decide +kernel
theorem dX7_isKind_4 : decode cX7_isKind 4 = .ok (.invokestatic 53, 3) := by decide +kernel
theorem dX7_isKind_7 : decode cX7_isKind 7 = .ok (.ireturn, 1) := by decide +kernel
theorem dX7_born_0 : decode cX7_born 0 = .ok (.aload_n 0, 1) := by decide +kernel
theorem dX7_born_1 : decode cX7_born 1 = .ok (.getfield 7, 3) := by decide +kernel
theorem dX7_born_4 : decode cX7_born 4 = .ok (.iconst 4, 1) := by decide +kernel
theorem dX7_born_5 : decode cX7_born 5 = .ok (.iaload, 1) := by decide +kernel
theorem dX7_born_6 : decode cX7_born 6 = .ok (.istore 4, 2) := by decide +kernel
theorem dX7_born_8 : decode cX7_born 8 = .ok (.aload_n 0, 1) := by decide +kernel
theorem dX7_born_9 : decode cX7_born 9 = .ok (.iload 4, 2) := by decide +kernel
theorem dX7_born_11 : decode cX7_born 11 = .ok (.iconst 0, 1) := by decide +kernel
theorem dX7_born_12 : decode cX7_born 12 = .ok (.iload_n 1, 1) := by decide +kernel
theorem dX7_born_13 : decode cX7_born 13 = .ok (.bipush 10, 2) := by decide +kernel
theorem dX7_born_15 : decode cX7_born 15 = .ok (.idiv, 1) := by decide +kernel
theorem dX7_born_16 : decode cX7_born 16 = .ok (.invokevirtual 147, 3) := by decide +kernel
theorem dX7_born_19 : decode cX7_born 19 = .ok (.aload_n 0, 1) := by decide +kernel
theorem dX7_born_20 : decode cX7_born 20 = .ok (.iload 4, 2) := by decide +kernel
theorem dX7_born_22 : decode cX7_born 22 = .ok (.iconst 1, 1) := by decide +kernel
theorem dX7_born_23 : decode cX7_born 23 = .ok (.iload_n 1, 1) := by decide +kernel
theorem dX7_born_24 : decode cX7_born 24 = .ok (.bipush 10, 2) := by decide +kernel
theorem dX7_born_26 : decode cX7_born 26 = .ok (.irem, 1) := by decide +kernel
theorem dX7_born_27 : decode cX7_born 27 = .ok (.invokevirtual 147, 3) := by decide +kernel
theorem dX7_born_30 : decode cX7_born 30 = .ok (.aload_n 0, 1) := by decide +kernel
theorem dX7_born_31 : decode cX7_born 31 = .ok (.iload 4, 2) := by decide +kernel
theorem dX7_born_33 : decode cX7_born 33 = .ok (.iconst 2, 1) := by decide +kernel
theorem dX7_born_34 : decode cX7_born 34 = .ok (.iload_n 2, 1) := by decide +kernel
theorem dX7_born_35 : decode cX7_born 35 = .ok (.invokevirtual 147, 3) := by decide +kernel
theorem dX7_born_38 : decode cX7_born 38 = .ok (.aload_n 0, 1) := by decide +kernel
theorem dX7_born_39 : decode cX7_born 39 = .ok (.iload 4, 2) := by decide +kernel
theorem dX7_born_41 : decode cX7_born 41 = .ok (.iconst 3, 1) := by decide +kernel
theorem dX7_born_42 : decode cX7_born 42 = .ok (.iload_n 3, 1) := by decide +kernel
theorem dX7_born_43 : decode cX7_born 43 = .ok (.invokevirtual 147, 3) := by decide +kernel
theorem dX7_born_46 : decode cX7_born 46 = .ok (.iconst 0, 1) := by decide +kernel
theorem dX7_born_47 : decode cX7_born 47 = .ok (.istore 5, 2) := by decide +kernel
theorem dX7_born_49 : decode cX7_born 49 = .ok (.iload 5, 2) := by decide +kernel
theorem dX7_born_51 : decode cX7_born 51 = .ok (.iconst 5, 1) := by decide +kernel
theorem dX7_born_52 : decode cX7_born 52 = .ok (.if_icmp .ge 50, 3) := by decide +kernel
theorem dX7_born_55 : decode cX7_born 55 = .ok (.aload_n 0, 1) := by decide +kernel
theorem dX7_born_56 : decode cX7_born 56 = .ok (.getfield 7, 3) := by decide +kernel
theorem dX7_born_59 : decode cX7_born 59 = .ok (.bipush 38, 2) := by decide +kernel
theorem dX7_born_61 : decode cX7_born 61 = .ok (.iconst 5, 1) := by decide +kernel
theorem dX7_born_62 : decode cX7_born 62 = .ok (.iload 4, 2) := by decide +kernel
theorem dX7_born_64 : decode cX7_born 64 = .ok (.imul, 1) := by decide +kernel
theorem dX7_born_65 : decode cX7_born 65 = .ok (.iadd, 1) := by decide +kernel
theorem dX7_born_66 : decode cX7_born 66 = .ok (.iload 5, 2) := by decide +kernel
theorem dX7_born_68 : decode cX7_born 68 = .ok (.iadd, 1) := by decide +kernel
theorem dX7_born_69 : decode cX7_born 69 = .ok (.iload_n 2, 1) := by decide +kernel
theorem dX7_born_70 : decode cX7_born 70 = .ok (.iconst (-1), 1) := by decide +kernel
theorem dX7_born_71 : decode cX7_born 71 = .ok (.if_icmp .ne 7, 3) := by decide +kernel
theorem dX7_born_74 : decode cX7_born 74 = .ok (.iconst 0, 1) := by decide +kernel
theorem dX7_born_75 : decode cX7_born 75 = .ok (.goto 20, 3) := by decide +kernel
theorem dX7_born_78 : decode cX7_born 78 = .ok (.aload_n 0, 1) := by decide +kernel
theorem dX7_born_79 : decode cX7_born 79 = .ok (.iload_n 2, 1) := by decide +kernel
theorem dX7_born_80 : decode cX7_born 80 = .ok (.iload 5, 2) := by decide +kernel
theorem dX7_born_82 : decode cX7_born 82 = .ok (.invokevirtual 57, 3) := by decide +kernel
theorem dX7_born_85 : decode cX7_born 85 = .ok (.aload_n 0, 1) := by decide +kernel
theorem dX7_born_86 : decode cX7_born 86 = .ok (.iload_n 3, 1) := by decide +kernel
theorem dX7_born_87 : decode cX7_born 87 = .ok (.iload 5, 2) := by decide +kernel
theorem dX7_born_89 : decode cX7_born 89 = .ok (.invokevirtual 57, 3) := by decide +kernel
theorem dX7_born_92 : decode cX7_born 92 = .ok (.iadd, 1) := by decide +kernel
theorem dX7_born_93 : decode cX7_born 93 = .ok (.iconst 2, 1) := by decide +kernel
theorem dX7_born_94 : decode cX7_born 94 = .ok (.idiv, 1) := by decide +kernel
theorem dX7_born_95 : decode cX7_born 95 = .ok (.iastore, 1) := by decide +kernel
theorem dX7_born_96 : decode cX7_born 96 = .ok (.iinc 5 1, 3) := by decide +kernel
theorem dX7_born_99 : decode cX7_born 99 = .ok (.goto (-50), 3) := by decide +kernel
theorem dX7_born_102 : decode cX7_born 102 = .ok (.iconst 0, 1) := by decide +kernel
theorem dX7_born_103 : decode cX7_born 103 = .ok (.istore 5, 2) := by decide +kernel
theorem dX7_born_105 : decode cX7_born 105 = .ok (.iload 5, 2) := by decide +kernel
theorem dX7_born_107 : decode cX7_born 107 = .ok (.bipush 8, 2) := by decide +kernel
theorem dX7_born_109 : decode cX7_born 109 = .ok (.if_icmp .ge 43, 3) := by decide +kernel
theorem dX7_born_112 : decode cX7_born 112 = .ok (.aload_n 0, 1) := by decide +kernel
theorem dX7_born_113 : decode cX7_born 113 = .ok (.getfield 7, 3) := by decide +kernel
theorem dX7_born_116 : decode cX7_born 116 = .ok (.bipush 78, 2) := by decide +kernel
theorem dX7_born_118 : decode cX7_born 118 = .ok (.bipush 8, 2) := by decide +kernel
theorem dX7_born_120 : decode cX7_born 120 = .ok (.iload 4, 2) := by decide +kernel
theorem dX7_born_122 : decode cX7_born 122 = .ok (.imul, 1) := by decide +kernel
theorem dX7_born_123 : decode cX7_born 123 = .ok (.iadd, 1) := by decide +kernel
theorem dX7_born_124 : decode cX7_born 124 = .ok (.iload 5, 2) := by decide +kernel
theorem dX7_born_126 : decode cX7_born 126 = .ok (.iadd, 1) := by decide +kernel
theorem dX7_born_127 : decode cX7_born 127 = .ok (.iconst 0, 1) := by decide +kernel
theorem dX7_born_128 : decode cX7_born 128 = .ok (.iastore, 1) := by decide +kernel
theorem dX7_born_129 : decode cX7_born 129 = .ok (.aload_n 0, 1) := by decide +kernel
theorem dX7_born_130 : decode cX7_born 130 = .ok (.getfield 7, 3) := by decide +kernel
theorem dX7_born_133 : decode cX7_born 133 = .ok (.bipush 78, 2) := by decide +kernel
theorem dX7_born_135 : decode cX7_born 135 = .ok (.bipush 8, 2) := by decide +kernel
theorem dX7_born_137 : decode cX7_born 137 = .ok (.iload 5, 2) := by decide +kernel
theorem dX7_born_139 : decode cX7_born 139 = .ok (.imul, 1) := by decide +kernel
theorem dX7_born_140 : decode cX7_born 140 = .ok (.iadd, 1) := by decide +kernel
theorem dX7_born_141 : decode cX7_born 141 = .ok (.iload 4, 2) := by decide +kernel
theorem dX7_born_143 : decode cX7_born 143 = .ok (.iadd, 1) := by decide +kernel
theorem dX7_born_144 : decode cX7_born 144 = .ok (.iconst 0, 1) := by decide +kernel
theorem dX7_born_145 : decode cX7_born 145 = .ok (.iastore, 1) := by decide +kernel
theorem dX7_born_146 : decode cX7_born 146 = .ok (.iinc 5 1, 3) := by decide +kernel
theorem dX7_born_149 : decode cX7_born 149 = .ok (.goto (-44), 3) := by decide +kernel
theorem dX7_born_152 : decode cX7_born 152 = .ok (.aload_n 0, 1) := by decide +kernel
theorem dX7_born_153 : decode cX7_born 153 = .ok (.getfield 7, 3) := by decide +kernel
theorem dX7_born_156 : decode cX7_born 156 = .ok (.iconst 4, 1) := by decide +kernel
theorem dX7_born_157 : decode cX7_born 157 = .ok (.dup2, 1) := by decide +kernel
theorem dX7_born_158 : decode cX7_born 158 = .ok (.iaload, 1) := by decide +kernel
theorem dX7_born_159 : decode cX7_born 159 = .ok (.iconst 1, 1) := by decide +kernel
theorem dX7_born_160 : decode cX7_born 160 = .ok (.iadd, 1) := by decide +kernel
theorem dX7_born_161 : decode cX7_born 161 = .ok (.iastore, 1) := by decide +kernel
theorem dX7_born_162 : decode cX7_born 162 = .ok (.iload 4, 2) := by decide +kernel
theorem dX7_born_164 : decode cX7_born 164 = .ok (.ireturn, 1) := by decide +kernel
theorem dX7_person_0 : decode cX7_person 0 = .ok (.iload_n 1, 1) := by decide +kernel
theorem dX7_person_1 : decode cX7_person 1 = .ok (.invokestatic 150, 3) := by decide +kernel
theorem dX7_person_4 : decode cX7_person 4 = .ok (.ifCond .ne 9, 3) := by decide +kernel
theorem dX7_person_7 : decode cX7_person 7 = .ok (.aload_n 0, 1) := by decide +kernel
theorem dX7_person_8 : decode cX7_person 8 = .ok (.iconst 1, 1) := by decide +kernel
theorem dX7_person_9 : decode cX7_person 9 = .ok (.invokevirtual 65, 3) := by decide +kernel
theorem dX7_person_12 : decode cX7_person 12 = .ok (.ireturn, 1) := by decide +kernel
theorem dX7_person_13 : decode cX7_person 13 = .ok (.aload_n 0, 1) := by decide +kernel
theorem dX7_person_14 : decode cX7_person 14 = .ok (.getfield 7, 3) := by decide +kernel
theorem dX7_person_17 : decode cX7_person 17 = .ok (.iconst 4, 1) := by decide +kernel
theorem dX7_person_18 : decode cX7_person 18 = .ok (.iaload, 1) := by decide +kernel
theorem dX7_person_19 : decode cX7_person 19 = .ok (.bipush 8, 2) := by decide +kernel
theorem dX7_person_21 : decode cX7_person 21 = .ok (.if_icmp .ne 11, 3) := by decide +kernel
theorem dX7_person_24 : decode cX7_person 24 = .ok (.aload_n 0, 1) := by decide +kernel
theorem dX7_person_25 : decode cX7_person 25 = .ok (.iconst 4, 1) := by decide +kernel
theorem dX7_person_26 : decode cX7_person 26 = .ok (.invokevirtual 65, 3) := by decide +kernel
theorem dX7_person_29 : decode cX7_person 29 = .ok (.goto 10, 3) := by decide +kernel
theorem dX7_person_32 : decode cX7_person 32 = .ok (.aload_n 0, 1) := by decide +kernel
theorem dX7_person_33 : decode cX7_person 33 = .ok (.iload_n 1, 1) := by decide +kernel
theorem dX7_person_34 : decode cX7_person 34 = .ok (.iconst (-1), 1) := by decide +kernel
theorem dX7_person_35 : decode cX7_person 35 = .ok (.iconst (-1), 1) := by decide +kernel
theorem dX7_person_36 : decode cX7_person 36 = .ok (.invokevirtual 153, 3) := by decide +kernel
theorem dX7_person_39 : decode cX7_person 39 = .ok (.ireturn, 1) := by decide +kernel
theorem dX7_areTwo_0 : decode cX7_areTwo 0 = .ok (.aload_n 0, 1) := by decide +kernel
theorem dX7_areTwo_1 : decode cX7_areTwo 1 = .ok (.iload_n 1, 1) := by decide +kernel
theorem dX7_areTwo_2 : decode cX7_areTwo 2 = .ok (.invokevirtual 156, 3) := by decide +kernel
theorem dX7_areTwo_5 : decode cX7_areTwo 5 = .ok (.ifCond .eq 20, 3) := by decide +kernel
theorem dX7_areTwo_8 : decode cX7_areTwo 8 = .ok (.aload_n 0, 1) := by decide +kernel
theorem dX7_areTwo_9 : decode cX7_areTwo 9 = .ok (.iload_n 2, 1) := by decide +kernel
theorem dX7_areTwo_10 : decode cX7_areTwo 10 = .ok (.invokevirtual 156, 3) := by decide +kernel
theorem dX7_areTwo_13 : decode cX7_areTwo 13 = .ok (.ifCond .eq 12, 3) := by decide +kernel
theorem dX7_areTwo_16 : decode cX7_areTwo 16 = .ok (.iload_n 1, 1) := by decide +kernel
theorem dX7_areTwo_17 : decode cX7_areTwo 17 = .ok (.iload_n 2, 1) := by decide +kernel
theorem dX7_areTwo_18 : decode cX7_areTwo 18 = .ok (.if_icmp .eq 7, 3) := by decide +kernel
theorem dX7_areTwo_21 : decode cX7_areTwo 21 = .ok (.iconst 1, 1) := by decide +kernel
theorem dX7_areTwo_22 : decode cX7_areTwo 22 = .ok (.goto 4, 3) := by decide +kernel
theorem dX7_areTwo_25 : decode cX7_areTwo 25 = .ok (.iconst 0, 1) := by decide +kernel
theorem dX7_areTwo_26 : decode cX7_areTwo 26 = .ok (.ireturn, 1) := by decide +kernel
theorem dX7_child_0 : decode cX7_child 0 = .ok (.iload_n 1, 1) := by decide +kernel
theorem dX7_child_1 : decode cX7_child 1 = .ok (.invokestatic 150, 3) := by decide +kernel
theorem dX7_child_4 : decode cX7_child 4 = .ok (.ifCond .eq 12, 3) := by decide +kernel
theorem dX7_child_7 : decode cX7_child 7 = .ok (.aload_n 0, 1) := by decide +kernel
theorem dX7_child_8 : decode cX7_child 8 = .ok (.iload_n 2, 1) := by decide +kernel
theorem dX7_child_9 : decode cX7_child 9 = .ok (.iload_n 3, 1) := by decide +kernel
theorem dX7_child_10 : decode cX7_child 10 = .ok (.invokevirtual 159, 3) := by decide +kernel
theorem dX7_child_13 : decode cX7_child 13 = .ok (.ifCond .ne 9, 3) := by decide +kernel
theorem dX7_child_16 : decode cX7_child 16 = .ok (.aload_n 0, 1) := by decide +kernel
theorem dX7_child_17 : decode cX7_child 17 = .ok (.iconst 1, 1) := by decide +kernel
theorem dX7_child_18 : decode cX7_child 18 = .ok (.invokevirtual 65, 3) := by decide +kernel
theorem dX7_child_21 : decode cX7_child 21 = .ok (.ireturn, 1) := by decide +kernel
theorem dX7_child_22 : decode cX7_child 22 = .ok (.aload_n 0, 1) := by decide +kernel
theorem dX7_child_23 : decode cX7_child 23 = .ok (.getfield 7, 3) := by decide +kernel
theorem dX7_child_26 : decode cX7_child 26 = .ok (.iconst 4, 1) := by decide +kernel
theorem dX7_child_27 : decode cX7_child 27 = .ok (.iaload, 1) := by decide +kernel
theorem dX7_child_28 : decode cX7_child 28 = .ok (.bipush 8, 2) := by decide +kernel
theorem dX7_child_30 : decode cX7_child 30 = .ok (.if_icmp .ne 11, 3) := by decide +kernel
theorem dX7_child_33 : decode cX7_child 33 = .ok (.aload_n 0, 1) := by decide +kernel
theorem dX7_child_34 : decode cX7_child 34 = .ok (.iconst 4, 1) := by decide +kernel
theorem dX7_child_35 : decode cX7_child 35 = .ok (.invokevirtual 65, 3) := by decide +kernel
theorem dX7_child_38 : decode cX7_child 38 = .ok (.goto 10, 3) := by decide +kernel
theorem dX7_child_41 : decode cX7_child 41 = .ok (.aload_n 0, 1) := by decide +kernel
theorem dX7_child_42 : decode cX7_child 42 = .ok (.iload_n 1, 1) := by decide +kernel
theorem dX7_child_43 : decode cX7_child 43 = .ok (.iload_n 2, 1) := by decide +kernel
theorem dX7_child_44 : decode cX7_child 44 = .ok (.iload_n 3, 1) := by decide +kernel
theorem dX7_child_45 : decode cX7_child 45 = .ok (.invokevirtual 153, 3) := by decide +kernel
theorem dX7_child_48 : decode cX7_child 48 = .ok (.ireturn, 1) := by decide +kernel
theorem dX7_personIs_0 : decode cX7_personIs 0 = .ok (.aload_n 0, 1) := by decide +kernel
theorem dX7_personIs_1 : decode cX7_personIs 1 = .ok (.iload_n 1, 1) := by decide +kernel
theorem dX7_personIs_2 : decode cX7_personIs 2 = .ok (.invokevirtual 156, 3) := by decide +kernel
theorem dX7_personIs_5 : decode cX7_personIs 5 = .ok (.ifCond .eq 13, 3) := by decide +kernel
theorem dX7_personIs_8 : decode cX7_personIs 8 = .ok (.iload_n 2, 1) := by decide +kernel
theorem dX7_personIs_9 : decode cX7_personIs 9 = .ok (.iconst 0, 1) := by decide +kernel
theorem dX7_personIs_10 : decode cX7_personIs 10 = .ok (.bipush 6, 2) := by decide +kernel
theorem dX7_personIs_12 : decode cX7_personIs 12 = .ok (.invokestatic 53, 3) := by decide +kernel
theorem dX7_personIs_15 : decode cX7_personIs 15 = .ok (.ifCond .ne 9, 3) := by decide +kernel
theorem dX7_personIs_18 : decode cX7_personIs 18 = .ok (.aload_n 0, 1) := by decide +kernel
theorem dX7_personIs_19 : decode cX7_personIs 19 = .ok (.iconst 1, 1) := by decide +kernel
theorem dX7_personIs_20 : decode cX7_personIs 20 = .ok (.invokevirtual 65, 3) := by decide +kernel
theorem dX7_personIs_23 : decode cX7_personIs 23 = .ok (.ireturn, 1) := by decide +kernel
theorem dX7_personIs_24 : decode cX7_personIs 24 = .ok (.iload_n 2, 1) := by decide +kernel
theorem dX7_personIs_25 : decode cX7_personIs 25 = .ok (.iconst 4, 1) := by decide +kernel
theorem dX7_personIs_26 : decode cX7_personIs 26 = .ok (.if_icmp .ge 12, 3) := by decide +kernel
theorem dX7_personIs_29 : decode cX7_personIs 29 = .ok (.aload_n 0, 1) := by decide +kernel
theorem dX7_personIs_30 : decode cX7_personIs 30 = .ok (.iload_n 1, 1) := by decide +kernel
theorem dX7_personIs_31 : decode cX7_personIs 31 = .ok (.iload_n 2, 1) := by decide +kernel
theorem dX7_personIs_32 : decode cX7_personIs 32 = .ok (.invokevirtual 124, 3) := by decide +kernel
theorem dX7_personIs_35 : decode cX7_personIs 35 = .ok (.goto 34, 3) := by decide +kernel
theorem dX7_personIs_38 : decode cX7_personIs 38 = .ok (.iload_n 2, 1) := by decide +kernel
theorem dX7_personIs_39 : decode cX7_personIs 39 = .ok (.iconst 4, 1) := by decide +kernel
theorem dX7_personIs_40 : decode cX7_personIs 40 = .ok (.if_icmp .ne 11, 3) := by decide +kernel
theorem dX7_personIs_43 : decode cX7_personIs 43 = .ok (.aload_n 0, 1) := by decide +kernel
theorem dX7_personIs_44 : decode cX7_personIs 44 = .ok (.iload_n 1, 1) := by decide +kernel
theorem dX7_personIs_45 : decode cX7_personIs 45 = .ok (.invokevirtual 163, 3) := by decide +kernel
theorem dX7_personIs_48 : decode cX7_personIs 48 = .ok (.goto 21, 3) := by decide +kernel
theorem dX7_personIs_51 : decode cX7_personIs 51 = .ok (.iload_n 2, 1) := by decide +kernel
theorem dX7_personIs_52 : decode cX7_personIs 52 = .ok (.iconst 5, 1) := by decide +kernel
theorem dX7_personIs_53 : decode cX7_personIs 53 = .ok (.if_icmp .ne 11, 3) := by decide +kernel
theorem dX7_personIs_56 : decode cX7_personIs 56 = .ok (.aload_n 0, 1) := by decide +kernel
theorem dX7_personIs_57 : decode cX7_personIs 57 = .ok (.iload_n 1, 1) := by decide +kernel
theorem dX7_personIs_58 : decode cX7_personIs 58 = .ok (.invokevirtual 166, 3) := by decide +kernel
theorem dX7_personIs_61 : decode cX7_personIs 61 = .ok (.goto 8, 3) := by decide +kernel
theorem dX7_personIs_64 : decode cX7_personIs 64 = .ok (.aload_n 0, 1) := by decide +kernel
theorem dX7_personIs_65 : decode cX7_personIs 65 = .ok (.iload_n 1, 1) := by decide +kernel
theorem dX7_personIs_66 : decode cX7_personIs 66 = .ok (.invokevirtual 169, 3) := by decide +kernel
theorem dX7_personIs_69 : decode cX7_personIs 69 = .ok (.ireturn, 1) := by decide +kernel
theorem dX7_become_0 : decode cX7_become 0 = .ok (.aload_n 0, 1) := by decide +kernel
theorem dX7_become_1 : decode cX7_become 1 = .ok (.iload_n 1, 1) := by decide +kernel
theorem dX7_become_2 : decode cX7_become 2 = .ok (.invokevirtual 156, 3) := by decide +kernel
theorem dX7_become_5 : decode cX7_become 5 = .ok (.ifCond .eq 10, 3) := by decide +kernel
theorem dX7_become_8 : decode cX7_become 8 = .ok (.iload_n 2, 1) := by decide +kernel
theorem dX7_become_9 : decode cX7_become 9 = .ok (.invokestatic 150, 3) := by decide +kernel
theorem dX7_become_12 : decode cX7_become 12 = .ok (.ifCond .ne 9, 3) := by decide +kernel
theorem dX7_become_15 : decode cX7_become 15 = .ok (.aload_n 0, 1) := by decide +kernel
theorem dX7_become_16 : decode cX7_become 16 = .ok (.iconst 1, 1) := by decide +kernel
theorem dX7_become_17 : decode cX7_become 17 = .ok (.invokevirtual 65, 3) := by decide +kernel
theorem dX7_become_20 : decode cX7_become 20 = .ok (.ireturn, 1) := by decide +kernel
theorem dX7_become_21 : decode cX7_become 21 = .ok (.aload_n 0, 1) := by decide +kernel
theorem dX7_become_22 : decode cX7_become 22 = .ok (.iload_n 1, 1) := by decide +kernel
theorem dX7_become_23 : decode cX7_become 23 = .ok (.iconst 1, 1) := by decide +kernel
theorem dX7_become_24 : decode cX7_become 24 = .ok (.iload_n 2, 1) := by decide +kernel
theorem dX7_become_25 : decode cX7_become 25 = .ok (.bipush 10, 2) := by decide +kernel
theorem dX7_become_27 : decode cX7_become 27 = .ok (.irem, 1) := by decide +kernel
theorem dX7_become_28 : decode cX7_become 28 = .ok (.invokevirtual 147, 3) := by decide +kernel
theorem dX7_become_31 : decode cX7_become 31 = .ok (.aload_n 0, 1) := by decide +kernel
theorem dX7_become_32 : decode cX7_become 32 = .ok (.bipush 6, 2) := by decide +kernel
theorem dX7_become_34 : decode cX7_become 34 = .ok (.iconst 4, 1) := by decide +kernel
theorem dX7_become_35 : decode cX7_become 35 = .ok (.iload_n 1, 1) := by decide +kernel
theorem dX7_become_36 : decode cX7_become 36 = .ok (.imul, 1) := by decide +kernel
theorem dX7_become_37 : decode cX7_become 37 = .ok (.iadd, 1) := by decide +kernel
theorem dX7_become_38 : decode cX7_become 38 = .ok (.iconst 0, 1) := by decide +kernel
theorem dX7_become_39 : decode cX7_become 39 = .ok (.iadd, 1) := by decide +kernel
theorem dX7_become_40 : decode cX7_become 40 = .ok (.iload_n 2, 1) := by decide +kernel
theorem dX7_become_41 : decode cX7_become 41 = .ok (.bipush 10, 2) := by decide +kernel
theorem dX7_become_43 : decode cX7_become 43 = .ok (.idiv, 1) := by decide +kernel
theorem dX7_become_44 : decode cX7_become 44 = .ok (.invokevirtual 172, 3) := by decide +kernel
theorem dX7_become_47 : decode cX7_become 47 = .ok (.ireturn, 1) := by decide +kernel
theorem dX7_as_0 : decode cX7_as 0 = .ok (.aload_n 0, 1) := by decide +kernel
theorem dX7_as_1 : decode cX7_as 1 = .ok (.iload_n 1, 1) := by decide +kernel
theorem dX7_as_2 : decode cX7_as 2 = .ok (.invokevirtual 156, 3) := by decide +kernel
theorem dX7_as_5 : decode cX7_as 5 = .ok (.ifCond .eq 13, 3) := by decide +kernel
theorem dX7_as_8 : decode cX7_as 8 = .ok (.iload_n 2, 1) := by decide +kernel
theorem dX7_as_9 : decode cX7_as 9 = .ok (.iconst 0, 1) := by decide +kernel
theorem dX7_as_10 : decode cX7_as 10 = .ok (.bipush 6, 2) := by decide +kernel
theorem dX7_as_12 : decode cX7_as 12 = .ok (.invokestatic 53, 3) := by decide +kernel
theorem dX7_as_15 : decode cX7_as 15 = .ok (.ifCond .ne 9, 3) := by decide +kernel
theorem dX7_as_18 : decode cX7_as 18 = .ok (.aload_n 0, 1) := by decide +kernel
theorem dX7_as_19 : decode cX7_as 19 = .ok (.iconst 1, 1) := by decide +kernel
theorem dX7_as_20 : decode cX7_as 20 = .ok (.invokevirtual 65, 3) := by decide +kernel
theorem dX7_as_23 : decode cX7_as 23 = .ok (.ireturn, 1) := by decide +kernel
theorem dX7_as_24 : decode cX7_as 24 = .ok (.aload_n 0, 1) := by decide +kernel
theorem dX7_as_25 : decode cX7_as 25 = .ok (.iload_n 1, 1) := by decide +kernel
theorem dX7_as_26 : decode cX7_as 26 = .ok (.iconst 0, 1) := by decide +kernel
theorem dX7_as_27 : decode cX7_as 27 = .ok (.invokevirtual 124, 3) := by decide +kernel
theorem dX7_as_30 : decode cX7_as 30 = .ok (.istore_n 3, 1) := by decide +kernel
theorem dX7_as_31 : decode cX7_as 31 = .ok (.iload_n 3, 1) := by decide +kernel
theorem dX7_as_32 : decode cX7_as 32 = .ok (.iload_n 2, 1) := by decide +kernel
theorem dX7_as_33 : decode cX7_as 33 = .ok (.if_icmp .eq 15, 3) := by decide +kernel
theorem dX7_as_36 : decode cX7_as 36 = .ok (.iload_n 3, 1) := by decide +kernel
theorem dX7_as_37 : decode cX7_as 37 = .ok (.ifCond .eq 11, 3) := by decide +kernel
theorem dX7_as_40 : decode cX7_as 40 = .ok (.iload_n 3, 1) := by decide +kernel
theorem dX7_as_41 : decode cX7_as 41 = .ok (.invokestatic 175, 3) := by decide +kernel
theorem dX7_as_44 : decode cX7_as 44 = .ok (.istore_n 3, 1) := by decide +kernel
theorem dX7_as_45 : decode cX7_as 45 = .ok (.goto (-14), 3) := by decide +kernel
theorem dX7_as_48 : decode cX7_as 48 = .ok (.iload_n 3, 1) := by decide +kernel
theorem dX7_as_49 : decode cX7_as 49 = .ok (.iload_n 2, 1) := by decide +kernel
theorem dX7_as_50 : decode cX7_as 50 = .ok (.if_icmp .ne 12, 3) := by decide +kernel
theorem dX7_as_53 : decode cX7_as 53 = .ok (.aload_n 0, 1) := by decide +kernel
theorem dX7_as_54 : decode cX7_as 54 = .ok (.iload_n 1, 1) := by decide +kernel
theorem dX7_as_55 : decode cX7_as 55 = .ok (.iconst 1, 1) := by decide +kernel
theorem dX7_as_56 : decode cX7_as 56 = .ok (.invokevirtual 124, 3) := by decide +kernel
theorem dX7_as_59 : decode cX7_as 59 = .ok (.goto 8, 3) := by decide +kernel
theorem dX7_as_62 : decode cX7_as 62 = .ok (.aload_n 0, 1) := by decide +kernel
theorem dX7_as_63 : decode cX7_as 63 = .ok (.iconst 5, 1) := by decide +kernel
theorem dX7_as_64 : decode cX7_as 64 = .ok (.invokevirtual 65, 3) := by decide +kernel
theorem dX7_as_67 : decode cX7_as 67 = .ok (.ireturn, 1) := by decide +kernel
theorem dX7_hold_0 : decode cX7_hold 0 = .ok (.aload_n 0, 1) := by decide +kernel
theorem dX7_hold_1 : decode cX7_hold 1 = .ok (.iload_n 1, 1) := by decide +kernel
theorem dX7_hold_2 : decode cX7_hold 2 = .ok (.invokevirtual 156, 3) := by decide +kernel
theorem dX7_hold_5 : decode cX7_hold 5 = .ok (.ifCond .eq 19, 3) := by decide +kernel
theorem dX7_hold_8 : decode cX7_hold 8 = .ok (.iload_n 2, 1) := by decide +kernel
theorem dX7_hold_9 : decode cX7_hold 9 = .ok (.invokestatic 178, 3) := by decide +kernel
theorem dX7_hold_12 : decode cX7_hold 12 = .ok (.ifCond .eq 12, 3) := by decide +kernel
theorem dX7_hold_15 : decode cX7_hold 15 = .ok (.aload_n 0, 1) := by decide +kernel
theorem dX7_hold_16 : decode cX7_hold 16 = .ok (.iload_n 1, 1) := by decide +kernel
theorem dX7_hold_17 : decode cX7_hold 17 = .ok (.iload_n 2, 1) := by decide +kernel
theorem dX7_hold_18 : decode cX7_hold 18 = .ok (.invokevirtual 57, 3) := by decide +kernel
theorem dX7_hold_21 : decode cX7_hold 21 = .ok (.goto 8, 3) := by decide +kernel
theorem dX7_hold_24 : decode cX7_hold 24 = .ok (.aload_n 0, 1) := by decide +kernel
theorem dX7_hold_25 : decode cX7_hold 25 = .ok (.iconst 1, 1) := by decide +kernel
theorem dX7_hold_26 : decode cX7_hold 26 = .ok (.invokevirtual 65, 3) := by decide +kernel
theorem dX7_hold_29 : decode cX7_hold 29 = .ok (.ireturn, 1) := by decide +kernel
theorem dX7_spoon_0 : decode cX7_spoon 0 = .ok (.aload_n 0, 1) := by decide +kernel
theorem dX7_spoon_1 : decode cX7_spoon 1 = .ok (.iload_n 1, 1) := by decide +kernel
theorem dX7_spoon_2 : decode cX7_spoon 2 = .ok (.invokevirtual 156, 3) := by decide +kernel
theorem dX7_spoon_5 : decode cX7_spoon 5 = .ok (.ifCond .eq 36, 3) := by decide +kernel
theorem dX7_spoon_8 : decode cX7_spoon 8 = .ok (.iload_n 2, 1) := by decide +kernel
theorem dX7_spoon_9 : decode cX7_spoon 9 = .ok (.invokestatic 178, 3) := by decide +kernel
theorem dX7_spoon_12 : decode cX7_spoon 12 = .ok (.ifCond .eq 29, 3) := by decide +kernel
theorem dX7_spoon_15 : decode cX7_spoon 15 = .ok (.iload_n 3, 1) := by decide +kernel
theorem dX7_spoon_16 : decode cX7_spoon 16 = .ok (.iconst 0, 1) := by decide +kernel
theorem dX7_spoon_17 : decode cX7_spoon 17 = .ok (.bipush 99, 2) := by decide +kernel
theorem dX7_spoon_19 : decode cX7_spoon 19 = .ok (.invokestatic 53, 3) := by decide +kernel
theorem dX7_spoon_22 : decode cX7_spoon 22 = .ok (.ifCond .eq 19, 3) := by decide +kernel
theorem dX7_spoon_25 : decode cX7_spoon 25 = .ok (.aload_n 0, 1) := by decide +kernel
theorem dX7_spoon_26 : decode cX7_spoon 26 = .ok (.bipush 38, 2) := by decide +kernel
theorem dX7_spoon_28 : decode cX7_spoon 28 = .ok (.iconst 5, 1) := by decide +kernel
theorem dX7_spoon_29 : decode cX7_spoon 29 = .ok (.iload_n 1, 1) := by decide +kernel
theorem dX7_spoon_30 : decode cX7_spoon 30 = .ok (.imul, 1) := by decide +kernel
theorem dX7_spoon_31 : decode cX7_spoon 31 = .ok (.iadd, 1) := by decide +kernel
theorem dX7_spoon_32 : decode cX7_spoon 32 = .ok (.iload_n 2, 1) := by decide +kernel
theorem dX7_spoon_33 : decode cX7_spoon 33 = .ok (.iadd, 1) := by decide +kernel
theorem dX7_spoon_34 : decode cX7_spoon 34 = .ok (.iload_n 3, 1) := by decide +kernel
theorem dX7_spoon_35 : decode cX7_spoon 35 = .ok (.invokevirtual 172, 3) := by decide +kernel
theorem dX7_spoon_38 : decode cX7_spoon 38 = .ok (.goto 8, 3) := by decide +kernel
theorem dX7_spoon_41 : decode cX7_spoon 41 = .ok (.aload_n 0, 1) := by decide +kernel
theorem dX7_spoon_42 : decode cX7_spoon 42 = .ok (.iconst 1, 1) := by decide +kernel
theorem dX7_spoon_43 : decode cX7_spoon 43 = .ok (.invokevirtual 65, 3) := by decide +kernel
theorem dX7_spoon_46 : decode cX7_spoon 46 = .ok (.ireturn, 1) := by decide +kernel
theorem dX7_gain_0 : decode cX7_gain 0 = .ok (.aload_n 0, 1) := by decide +kernel
theorem dX7_gain_1 : decode cX7_gain 1 = .ok (.iload_n 1, 1) := by decide +kernel
theorem dX7_gain_2 : decode cX7_gain 2 = .ok (.invokevirtual 156, 3) := by decide +kernel
theorem dX7_gain_5 : decode cX7_gain 5 = .ok (.ifCond .eq 19, 3) := by decide +kernel
theorem dX7_gain_8 : decode cX7_gain 8 = .ok (.iload_n 2, 1) := by decide +kernel
theorem dX7_gain_9 : decode cX7_gain 9 = .ok (.invokestatic 178, 3) := by decide +kernel
theorem dX7_gain_12 : decode cX7_gain 12 = .ok (.ifCond .eq 12, 3) := by decide +kernel
theorem dX7_gain_15 : decode cX7_gain 15 = .ok (.aload_n 0, 1) := by decide +kernel
theorem dX7_gain_16 : decode cX7_gain 16 = .ok (.iload_n 1, 1) := by decide +kernel
theorem dX7_gain_17 : decode cX7_gain 17 = .ok (.iload_n 2, 1) := by decide +kernel
theorem dX7_gain_18 : decode cX7_gain 18 = .ok (.invokevirtual 139, 3) := by decide +kernel
theorem dX7_gain_21 : decode cX7_gain 21 = .ok (.goto 8, 3) := by decide +kernel
theorem dX7_gain_24 : decode cX7_gain 24 = .ok (.aload_n 0, 1) := by decide +kernel
theorem dX7_gain_25 : decode cX7_gain 25 = .ok (.iconst 1, 1) := by decide +kernel
theorem dX7_gain_26 : decode cX7_gain 26 = .ok (.invokevirtual 65, 3) := by decide +kernel
theorem dX7_gain_29 : decode cX7_gain 29 = .ok (.ireturn, 1) := by decide +kernel
theorem dX7_areGiven_0 : decode cX7_areGiven 0 = .ok (.aload_n 0, 1) := by decide +kernel
theorem dX7_areGiven_1 : decode cX7_areGiven 1 = .ok (.iload_n 1, 1) := by decide +kernel
theorem dX7_areGiven_2 : decode cX7_areGiven 2 = .ok (.iload_n 2, 1) := by decide +kernel
theorem dX7_areGiven_3 : decode cX7_areGiven 3 = .ok (.invokevirtual 159, 3) := by decide +kernel
theorem dX7_areGiven_6 : decode cX7_areGiven 6 = .ok (.ifCond .eq 25, 3) := by decide +kernel
theorem dX7_areGiven_9 : decode cX7_areGiven 9 = .ok (.iload_n 3, 1) := by decide +kernel
theorem dX7_areGiven_10 : decode cX7_areGiven 10 = .ok (.invokestatic 178, 3) := by decide +kernel
theorem dX7_areGiven_13 : decode cX7_areGiven 13 = .ok (.ifCond .eq 18, 3) := by decide +kernel
theorem dX7_areGiven_16 : decode cX7_areGiven 16 = .ok (.iload 4, 2) := by decide +kernel
theorem dX7_areGiven_18 : decode cX7_areGiven 18 = .ok (.iconst 1, 1) := by decide +kernel
theorem dX7_areGiven_19 : decode cX7_areGiven 19 = .ok (.bipush 99, 2) := by decide +kernel
theorem dX7_areGiven_21 : decode cX7_areGiven 21 = .ok (.invokestatic 53, 3) := by decide +kernel
theorem dX7_areGiven_24 : decode cX7_areGiven 24 = .ok (.ifCond .eq 7, 3) := by decide +kernel
theorem dX7_areGiven_27 : decode cX7_areGiven 27 = .ok (.iconst 1, 1) := by decide +kernel
theorem dX7_areGiven_28 : decode cX7_areGiven 28 = .ok (.goto 4, 3) := by decide +kernel
theorem dX7_areGiven_31 : decode cX7_areGiven 31 = .ok (.iconst 0, 1) := by decide +kernel
theorem dX7_areGiven_32 : decode cX7_areGiven 32 = .ok (.ireturn, 1) := by decide +kernel
theorem dX7_canGo_0 : decode cX7_canGo 0 = .ok (.aload_n 0, 1) := by decide +kernel
theorem dX7_canGo_1 : decode cX7_canGo 1 = .ok (.iload_n 1, 1) := by decide +kernel
theorem dX7_canGo_2 : decode cX7_canGo 2 = .ok (.iload_n 3, 1) := by decide +kernel
theorem dX7_canGo_3 : decode cX7_canGo 3 = .ok (.invokevirtual 57, 3) := by decide +kernel
theorem dX7_canGo_6 : decode cX7_canGo 6 = .ok (.iload 4, 2) := by decide +kernel
theorem dX7_canGo_8 : decode cX7_canGo 8 = .ok (.if_icmp .lt 21, 3) := by decide +kernel
theorem dX7_canGo_11 : decode cX7_canGo 11 = .ok (.aload_n 0, 1) := by decide +kernel
theorem dX7_canGo_12 : decode cX7_canGo 12 = .ok (.iload_n 2, 1) := by decide +kernel
theorem dX7_canGo_13 : decode cX7_canGo 13 = .ok (.iload_n 3, 1) := by decide +kernel
theorem dX7_canGo_14 : decode cX7_canGo 14 = .ok (.invokevirtual 57, 3) := by decide +kernel
theorem dX7_canGo_17 : decode cX7_canGo 17 = .ok (.iload 4, 2) := by decide +kernel
theorem dX7_canGo_19 : decode cX7_canGo 19 = .ok (.iadd, 1) := by decide +kernel
theorem dX7_canGo_20 : decode cX7_canGo 20 = .ok (.bipush 99, 2) := by decide +kernel
theorem dX7_canGo_22 : decode cX7_canGo 22 = .ok (.if_icmp .gt 7, 3) := by decide +kernel
theorem dX7_canGo_25 : decode cX7_canGo 25 = .ok (.iconst 1, 1) := by decide +kernel
theorem dX7_canGo_26 : decode cX7_canGo 26 = .ok (.goto 4, 3) := by decide +kernel
theorem dX7_canGo_29 : decode cX7_canGo 29 = .ok (.iconst 0, 1) := by decide +kernel
theorem dX7_canGo_30 : decode cX7_canGo 30 = .ok (.ireturn, 1) := by decide +kernel
theorem dX7_go_0 : decode cX7_go 0 = .ok (.aload_n 0, 1) := by decide +kernel
theorem dX7_go_1 : decode cX7_go 1 = .ok (.iload_n 1, 1) := by decide +kernel
theorem dX7_go_2 : decode cX7_go 2 = .ok (.iload_n 3, 1) := by decide +kernel
theorem dX7_go_3 : decode cX7_go 3 = .ok (.iload 4, 2) := by decide +kernel
theorem dX7_go_5 : decode cX7_go 5 = .ok (.ineg, 1) := by decide +kernel
theorem dX7_go_6 : decode cX7_go 6 = .ok (.invokevirtual 142, 3) := by decide +kernel
theorem dX7_go_9 : decode cX7_go 9 = .ok (.aload_n 0, 1) := by decide +kernel
theorem dX7_go_10 : decode cX7_go 10 = .ok (.iload_n 2, 1) := by decide +kernel
theorem dX7_go_11 : decode cX7_go 11 = .ok (.iload_n 3, 1) := by decide +kernel
theorem dX7_go_12 : decode cX7_go 12 = .ok (.iload 4, 2) := by decide +kernel
theorem dX7_go_14 : decode cX7_go 14 = .ok (.invokevirtual 142, 3) := by decide +kernel
theorem dX7_go_17 : decode cX7_go 17 = .ok (.return_, 1) := by decide +kernel
theorem dX7_lend_0 : decode cX7_lend 0 = .ok (.aload_n 0, 1) := by decide +kernel
theorem dX7_lend_1 : decode cX7_lend 1 = .ok (.iload_n 1, 1) := by decide +kernel
theorem dX7_lend_2 : decode cX7_lend 2 = .ok (.iload_n 2, 1) := by decide +kernel
theorem dX7_lend_3 : decode cX7_lend 3 = .ok (.iload_n 3, 1) := by decide +kernel
theorem dX7_lend_4 : decode cX7_lend 4 = .ok (.iload 4, 2) := by decide +kernel
theorem dX7_lend_6 : decode cX7_lend 6 = .ok (.invokevirtual 181, 3) := by decide +kernel
theorem dX7_lend_9 : decode cX7_lend 9 = .ok (.ifCond .ne 9, 3) := by decide +kernel
theorem dX7_lend_12 : decode cX7_lend 12 = .ok (.aload_n 0, 1) := by decide +kernel
theorem dX7_lend_13 : decode cX7_lend 13 = .ok (.iconst 1, 1) := by decide +kernel
theorem dX7_lend_14 : decode cX7_lend 14 = .ok (.invokevirtual 65, 3) := by decide +kernel
theorem dX7_lend_17 : decode cX7_lend 17 = .ok (.ireturn, 1) := by decide +kernel
theorem dX7_lend_18 : decode cX7_lend 18 = .ok (.aload_n 0, 1) := by decide +kernel
theorem dX7_lend_19 : decode cX7_lend 19 = .ok (.iload_n 1, 1) := by decide +kernel
theorem dX7_lend_20 : decode cX7_lend 20 = .ok (.iload_n 2, 1) := by decide +kernel
theorem dX7_lend_21 : decode cX7_lend 21 = .ok (.iload_n 3, 1) := by decide +kernel
theorem dX7_lend_22 : decode cX7_lend 22 = .ok (.iload 4, 2) := by decide +kernel
theorem dX7_lend_24 : decode cX7_lend 24 = .ok (.invokevirtual 185, 3) := by decide +kernel
theorem dX7_lend_27 : decode cX7_lend 27 = .ok (.ifCond .eq 18, 3) := by decide +kernel
theorem dX7_lend_30 : decode cX7_lend 30 = .ok (.aload_n 0, 1) := by decide +kernel
theorem dX7_lend_31 : decode cX7_lend 31 = .ok (.iload_n 2, 1) := by decide +kernel
theorem dX7_lend_32 : decode cX7_lend 32 = .ok (.iload_n 1, 1) := by decide +kernel
theorem dX7_lend_33 : decode cX7_lend 33 = .ok (.invokevirtual 188, 3) := by decide +kernel
theorem dX7_lend_36 : decode cX7_lend 36 = .ok (.iload 4, 2) := by decide +kernel
theorem dX7_lend_38 : decode cX7_lend 38 = .ok (.iadd, 1) := by decide +kernel
theorem dX7_lend_39 : decode cX7_lend 39 = .ok (.sipush 999, 3) := by decide +kernel
theorem dX7_lend_42 : decode cX7_lend 42 = .ok (.if_icmp .le 9, 3) := by decide +kernel
theorem dX7_lend_45 : decode cX7_lend 45 = .ok (.aload_n 0, 1) := by decide +kernel
theorem dX7_lend_46 : decode cX7_lend 46 = .ok (.iconst 3, 1) := by decide +kernel
theorem dX7_lend_47 : decode cX7_lend 47 = .ok (.invokevirtual 65, 3) := by decide +kernel
theorem dX7_lend_50 : decode cX7_lend 50 = .ok (.ireturn, 1) := by decide +kernel
theorem dX7_lend_51 : decode cX7_lend 51 = .ok (.aload_n 0, 1) := by decide +kernel
theorem dX7_lend_52 : decode cX7_lend 52 = .ok (.iload_n 1, 1) := by decide +kernel
theorem dX7_lend_53 : decode cX7_lend 53 = .ok (.iload_n 2, 1) := by decide +kernel
theorem dX7_lend_54 : decode cX7_lend 54 = .ok (.iload_n 3, 1) := by decide +kernel
theorem dX7_lend_55 : decode cX7_lend 55 = .ok (.iload 4, 2) := by decide +kernel
theorem dX7_lend_57 : decode cX7_lend 57 = .ok (.invokevirtual 191, 3) := by decide +kernel
theorem dX7_lend_60 : decode cX7_lend 60 = .ok (.aload_n 0, 1) := by decide +kernel
theorem dX7_lend_61 : decode cX7_lend 61 = .ok (.getfield 7, 3) := by decide +kernel
theorem dX7_lend_64 : decode cX7_lend 64 = .ok (.bipush 78, 2) := by decide +kernel
theorem dX7_lend_66 : decode cX7_lend 66 = .ok (.bipush 8, 2) := by decide +kernel
theorem dX7_lend_68 : decode cX7_lend 68 = .ok (.iload_n 2, 1) := by decide +kernel
theorem dX7_lend_69 : decode cX7_lend 69 = .ok (.imul, 1) := by decide +kernel
theorem dX7_lend_70 : decode cX7_lend 70 = .ok (.iadd, 1) := by decide +kernel
theorem dX7_lend_71 : decode cX7_lend 71 = .ok (.iload_n 1, 1) := by decide +kernel
theorem dX7_lend_72 : decode cX7_lend 72 = .ok (.iadd, 1) := by decide +kernel
theorem dX7_lend_73 : decode cX7_lend 73 = .ok (.dup2, 1) := by decide +kernel
theorem dX7_lend_74 : decode cX7_lend 74 = .ok (.iaload, 1) := by decide +kernel
theorem dX7_lend_75 : decode cX7_lend 75 = .ok (.iload 4, 2) := by decide +kernel
theorem dX7_lend_77 : decode cX7_lend 77 = .ok (.iadd, 1) := by decide +kernel
theorem dX7_lend_78 : decode cX7_lend 78 = .ok (.iastore, 1) := by decide +kernel
theorem dX7_lend_79 : decode cX7_lend 79 = .ok (.aload_n 0, 1) := by decide +kernel
theorem dX7_lend_80 : decode cX7_lend 80 = .ok (.iload_n 2, 1) := by decide +kernel
theorem dX7_lend_81 : decode cX7_lend 81 = .ok (.iload_n 1, 1) := by decide +kernel
theorem dX7_lend_82 : decode cX7_lend 82 = .ok (.invokevirtual 188, 3) := by decide +kernel
theorem dX7_lend_85 : decode cX7_lend 85 = .ok (.ireturn, 1) := by decide +kernel
theorem dX7_repay_0 : decode cX7_repay 0 = .ok (.aload_n 0, 1) := by decide +kernel
theorem dX7_repay_1 : decode cX7_repay 1 = .ok (.iload_n 1, 1) := by decide +kernel
theorem dX7_repay_2 : decode cX7_repay 2 = .ok (.iload_n 2, 1) := by decide +kernel
theorem dX7_repay_3 : decode cX7_repay 3 = .ok (.iload_n 3, 1) := by decide +kernel
theorem dX7_repay_4 : decode cX7_repay 4 = .ok (.iload 4, 2) := by decide +kernel
theorem dX7_repay_6 : decode cX7_repay 6 = .ok (.invokevirtual 181, 3) := by decide +kernel
theorem dX7_repay_9 : decode cX7_repay 9 = .ok (.ifCond .ne 9, 3) := by decide +kernel
theorem dX7_repay_12 : decode cX7_repay 12 = .ok (.aload_n 0, 1) := by decide +kernel
theorem dX7_repay_13 : decode cX7_repay 13 = .ok (.iconst 1, 1) := by decide +kernel
theorem dX7_repay_14 : decode cX7_repay 14 = .ok (.invokevirtual 65, 3) := by decide +kernel
theorem dX7_repay_17 : decode cX7_repay 17 = .ok (.ireturn, 1) := by decide +kernel
theorem dX7_repay_18 : decode cX7_repay 18 = .ok (.aload_n 0, 1) := by decide +kernel
theorem dX7_repay_19 : decode cX7_repay 19 = .ok (.iload_n 1, 1) := by decide +kernel
theorem dX7_repay_20 : decode cX7_repay 20 = .ok (.iload_n 2, 1) := by decide +kernel
theorem dX7_repay_21 : decode cX7_repay 21 = .ok (.invokevirtual 188, 3) := by decide +kernel
theorem dX7_repay_24 : decode cX7_repay 24 = .ok (.iload 4, 2) := by decide +kernel
theorem dX7_repay_26 : decode cX7_repay 26 = .ok (.if_icmp .lt 15, 3) := by decide +kernel
theorem dX7_repay_29 : decode cX7_repay 29 = .ok (.aload_n 0, 1) := by decide +kernel
theorem dX7_repay_30 : decode cX7_repay 30 = .ok (.iload_n 1, 1) := by decide +kernel
theorem dX7_repay_31 : decode cX7_repay 31 = .ok (.iload_n 2, 1) := by decide +kernel
theorem dX7_repay_32 : decode cX7_repay 32 = .ok (.iload_n 3, 1) := by decide +kernel
theorem dX7_repay_33 : decode cX7_repay 33 = .ok (.iload 4, 2) := by decide +kernel
theorem dX7_repay_35 : decode cX7_repay 35 = .ok (.invokevirtual 185, 3) := by decide +kernel
theorem dX7_repay_38 : decode cX7_repay 38 = .ok (.ifCond .ne 9, 3) := by decide +kernel
theorem dX7_repay_41 : decode cX7_repay 41 = .ok (.aload_n 0, 1) := by decide +kernel
theorem dX7_repay_42 : decode cX7_repay 42 = .ok (.iconst 3, 1) := by decide +kernel
theorem dX7_repay_43 : decode cX7_repay 43 = .ok (.invokevirtual 65, 3) := by decide +kernel
theorem dX7_repay_46 : decode cX7_repay 46 = .ok (.ireturn, 1) := by decide +kernel
theorem dX7_repay_47 : decode cX7_repay 47 = .ok (.aload_n 0, 1) := by decide +kernel
theorem dX7_repay_48 : decode cX7_repay 48 = .ok (.iload_n 1, 1) := by decide +kernel
theorem dX7_repay_49 : decode cX7_repay 49 = .ok (.iload_n 2, 1) := by decide +kernel
theorem dX7_repay_50 : decode cX7_repay 50 = .ok (.iload_n 3, 1) := by decide +kernel
theorem dX7_repay_51 : decode cX7_repay 51 = .ok (.iload 4, 2) := by decide +kernel
theorem dX7_repay_53 : decode cX7_repay 53 = .ok (.invokevirtual 191, 3) := by decide +kernel
theorem dX7_repay_56 : decode cX7_repay 56 = .ok (.aload_n 0, 1) := by decide +kernel
theorem dX7_repay_57 : decode cX7_repay 57 = .ok (.getfield 7, 3) := by decide +kernel
theorem dX7_repay_60 : decode cX7_repay 60 = .ok (.bipush 78, 2) := by decide +kernel
theorem dX7_repay_62 : decode cX7_repay 62 = .ok (.bipush 8, 2) := by decide +kernel
theorem dX7_repay_64 : decode cX7_repay 64 = .ok (.iload_n 1, 1) := by decide +kernel
theorem dX7_repay_65 : decode cX7_repay 65 = .ok (.imul, 1) := by decide +kernel
theorem dX7_repay_66 : decode cX7_repay 66 = .ok (.iadd, 1) := by decide +kernel
theorem dX7_repay_67 : decode cX7_repay 67 = .ok (.iload_n 2, 1) := by decide +kernel
theorem dX7_repay_68 : decode cX7_repay 68 = .ok (.iadd, 1) := by decide +kernel
theorem dX7_repay_69 : decode cX7_repay 69 = .ok (.dup2, 1) := by decide +kernel
theorem dX7_repay_70 : decode cX7_repay 70 = .ok (.iaload, 1) := by decide +kernel
theorem dX7_repay_71 : decode cX7_repay 71 = .ok (.iload 4, 2) := by decide +kernel
theorem dX7_repay_73 : decode cX7_repay 73 = .ok (.isub, 1) := by decide +kernel
theorem dX7_repay_74 : decode cX7_repay 74 = .ok (.iastore, 1) := by decide +kernel
theorem dX7_repay_75 : decode cX7_repay 75 = .ok (.aload_n 0, 1) := by decide +kernel
theorem dX7_repay_76 : decode cX7_repay 76 = .ok (.iload_n 1, 1) := by decide +kernel
theorem dX7_repay_77 : decode cX7_repay 77 = .ok (.iload_n 2, 1) := by decide +kernel
theorem dX7_repay_78 : decode cX7_repay 78 = .ok (.invokevirtual 188, 3) := by decide +kernel
theorem dX7_repay_81 : decode cX7_repay 81 = .ok (.ireturn, 1) := by decide +kernel
theorem dX7_owes_0 : decode cX7_owes 0 = .ok (.aload_n 0, 1) := by decide +kernel
theorem dX7_owes_1 : decode cX7_owes 1 = .ok (.iload_n 1, 1) := by decide +kernel
theorem dX7_owes_2 : decode cX7_owes 2 = .ok (.iload_n 2, 1) := by decide +kernel
theorem dX7_owes_3 : decode cX7_owes 3 = .ok (.invokevirtual 159, 3) := by decide +kernel
theorem dX7_owes_6 : decode cX7_owes 6 = .ok (.ifCond .eq 12, 3) := by decide +kernel
theorem dX7_owes_9 : decode cX7_owes 9 = .ok (.aload_n 0, 1) := by decide +kernel
theorem dX7_owes_10 : decode cX7_owes 10 = .ok (.iload_n 1, 1) := by decide +kernel
theorem dX7_owes_11 : decode cX7_owes 11 = .ok (.iload_n 2, 1) := by decide +kernel
theorem dX7_owes_12 : decode cX7_owes 12 = .ok (.invokevirtual 188, 3) := by decide +kernel
theorem dX7_owes_15 : decode cX7_owes 15 = .ok (.goto 8, 3) := by decide +kernel
theorem dX7_owes_18 : decode cX7_owes 18 = .ok (.aload_n 0, 1) := by decide +kernel
theorem dX7_owes_19 : decode cX7_owes 19 = .ok (.iconst 1, 1) := by decide +kernel
theorem dX7_owes_20 : decode cX7_owes 20 = .ok (.invokevirtual 65, 3) := by decide +kernel
theorem dX7_owes_23 : decode cX7_owes 23 = .ok (.ireturn, 1) := by decide +kernel
theorem dX7_law_0 : decode cX7_law 0 = .ok (.iload_n 1, 1) := by decide +kernel
theorem dX7_law_1 : decode cX7_law 1 = .ok (.iconst 0, 1) := by decide +kernel
theorem dX7_law_2 : decode cX7_law 2 = .ok (.iconst 1, 1) := by decide +kernel
theorem dX7_law_3 : decode cX7_law 3 = .ok (.invokestatic 53, 3) := by decide +kernel
theorem dX7_law_6 : decode cX7_law 6 = .ok (.ifCond .ne 9, 3) := by decide +kernel
theorem dX7_law_9 : decode cX7_law 9 = .ok (.aload_n 0, 1) := by decide +kernel
theorem dX7_law_10 : decode cX7_law 10 = .ok (.iconst 1, 1) := by decide +kernel
theorem dX7_law_11 : decode cX7_law 11 = .ok (.invokevirtual 65, 3) := by decide +kernel
theorem dX7_law_14 : decode cX7_law 14 = .ok (.ireturn, 1) := by decide +kernel
theorem dX7_law_15 : decode cX7_law 15 = .ok (.iload_n 1, 1) := by decide +kernel
theorem dX7_law_16 : decode cX7_law 16 = .ok (.ifCond .ne 14, 3) := by decide +kernel
theorem dX7_law_19 : decode cX7_law 19 = .ok (.aload_n 0, 1) := by decide +kernel
theorem dX7_law_20 : decode cX7_law 20 = .ok (.iload_n 2, 1) := by decide +kernel
theorem dX7_law_21 : decode cX7_law 21 = .ok (.iload_n 3, 1) := by decide +kernel
theorem dX7_law_22 : decode cX7_law 22 = .ok (.iload 4, 2) := by decide +kernel
theorem dX7_law_24 : decode cX7_law 24 = .ok (.invokevirtual 133, 3) := by decide +kernel
theorem dX7_law_27 : decode cX7_law 27 = .ok (.goto 11, 3) := by decide +kernel
theorem dX7_law_30 : decode cX7_law 30 = .ok (.aload_n 0, 1) := by decide +kernel
theorem dX7_law_31 : decode cX7_law 31 = .ok (.iload_n 2, 1) := by decide +kernel
theorem dX7_law_32 : decode cX7_law 32 = .ok (.iload_n 3, 1) := by decide +kernel
theorem dX7_law_33 : decode cX7_law 33 = .ok (.iload 4, 2) := by decide +kernel
theorem dX7_law_35 : decode cX7_law 35 = .ok (.invokevirtual 136, 3) := by decide +kernel
theorem dX7_law_38 : decode cX7_law 38 = .ok (.ireturn, 1) := by decide +kernel
theorem dX7_whyNot_0 : decode cX7_whyNot 0 = .ok (.iload_n 1, 1) := by decide +kernel
theorem dX7_whyNot_1 : decode cX7_whyNot 1 = .ok (.iconst 1, 1) := by decide +kernel
theorem dX7_whyNot_2 : decode cX7_whyNot 2 = .ok (.iload_n 2, 1) := by decide +kernel
theorem dX7_whyNot_3 : decode cX7_whyNot 3 = .ok (.invokestatic 53, 3) := by decide +kernel
theorem dX7_whyNot_6 : decode cX7_whyNot 6 = .ok (.ifCond .ne 7, 3) := by decide +kernel
theorem dX7_whyNot_9 : decode cX7_whyNot 9 = .ok (.iconst 1, 1) := by decide +kernel
theorem dX7_whyNot_10 : decode cX7_whyNot 10 = .ok (.goto 22, 3) := by decide +kernel
theorem dX7_whyNot_13 : decode cX7_whyNot 13 = .ok (.aload_n 0, 1) := by decide +kernel
theorem dX7_whyNot_14 : decode cX7_whyNot 14 = .ok (.getfield 7, 3) := by decide +kernel
theorem dX7_whyNot_17 : decode cX7_whyNot 17 = .ok (.iconst 0, 1) := by decide +kernel
theorem dX7_whyNot_18 : decode cX7_whyNot 18 = .ok (.iaload, 1) := by decide +kernel
theorem dX7_whyNot_19 : decode cX7_whyNot 19 = .ok (.iload_n 1, 1) := by decide +kernel
theorem dX7_whyNot_20 : decode cX7_whyNot 20 = .ok (.iadd, 1) := by decide +kernel
theorem dX7_whyNot_21 : decode cX7_whyNot 21 = .ok (.sipush 999, 3) := by decide +kernel
theorem dX7_whyNot_24 : decode cX7_whyNot 24 = .ok (.if_icmp .le 7, 3) := by decide +kernel
theorem dX7_whyNot_27 : decode cX7_whyNot 27 = .ok (.iconst 3, 1) := by decide +kernel
theorem dX7_whyNot_28 : decode cX7_whyNot 28 = .ok (.goto 4, 3) := by decide +kernel
theorem dX7_whyNot_31 : decode cX7_whyNot 31 = .ok (.iconst 0, 1) := by decide +kernel
theorem dX7_whyNot_32 : decode cX7_whyNot 32 = .ok (.ireturn, 1) := by decide +kernel
theorem dX7_years_0 : decode cX7_years 0 = .ok (.aload_n 0, 1) := by decide +kernel
theorem dX7_years_1 : decode cX7_years 1 = .ok (.iload_n 1, 1) := by decide +kernel
theorem dX7_years_2 : decode cX7_years 2 = .ok (.bipush 60, 2) := by decide +kernel
theorem dX7_years_4 : decode cX7_years 4 = .ok (.invokevirtual 195, 3) := by decide +kernel
theorem dX7_years_7 : decode cX7_years 7 = .ok (.istore_n 2, 1) := by decide +kernel
theorem dX7_years_8 : decode cX7_years 8 = .ok (.iload_n 2, 1) := by decide +kernel
theorem dX7_years_9 : decode cX7_years 9 = .ok (.ifCond .eq 9, 3) := by decide +kernel
theorem dX7_years_12 : decode cX7_years 12 = .ok (.aload_n 0, 1) := by decide +kernel
theorem dX7_years_13 : decode cX7_years 13 = .ok (.iload_n 2, 1) := by decide +kernel
theorem dX7_years_14 : decode cX7_years 14 = .ok (.invokevirtual 65, 3) := by decide +kernel
theorem dX7_years_17 : decode cX7_years 17 = .ok (.ireturn, 1) := by decide +kernel
theorem dX7_years_18 : decode cX7_years 18 = .ok (.iconst 0, 1) := by decide +kernel
theorem dX7_years_19 : decode cX7_years 19 = .ok (.istore_n 3, 1) := by decide +kernel
theorem dX7_years_20 : decode cX7_years 20 = .ok (.iload_n 3, 1) := by decide +kernel
theorem dX7_years_21 : decode cX7_years 21 = .ok (.iload_n 1, 1) := by decide +kernel
theorem dX7_years_22 : decode cX7_years 22 = .ok (.if_icmp .ge 13, 3) := by decide +kernel
theorem dX7_years_25 : decode cX7_years 25 = .ok (.aload_n 0, 1) := by decide +kernel
theorem dX7_years_26 : decode cX7_years 26 = .ok (.invokevirtual 198, 3) := by decide +kernel
theorem dX7_years_29 : decode cX7_years 29 = .ok (.iinc 3 1, 3) := by decide +kernel
theorem dX7_years_32 : decode cX7_years 32 = .ok (.goto (-12), 3) := by decide +kernel
theorem dX7_years_35 : decode cX7_years 35 = .ok (.aload_n 0, 1) := by decide +kernel
theorem dX7_years_36 : decode cX7_years 36 = .ok (.getfield 7, 3) := by decide +kernel
theorem dX7_years_39 : decode cX7_years 39 = .ok (.iconst 0, 1) := by decide +kernel
theorem dX7_years_40 : decode cX7_years 40 = .ok (.iaload, 1) := by decide +kernel
theorem dX7_years_41 : decode cX7_years 41 = .ok (.ireturn, 1) := by decide +kernel
theorem dX7_steals_0 : decode cX7_steals 0 = .ok (.aload_n 0, 1) := by decide +kernel
theorem dX7_steals_1 : decode cX7_steals 1 = .ok (.getfield 7, 3) := by decide +kernel
theorem dX7_steals_4 : decode cX7_steals 4 = .ok (.iconst 4, 1) := by decide +kernel
theorem dX7_steals_5 : decode cX7_steals 5 = .ok (.iaload, 1) := by decide +kernel
theorem dX7_steals_6 : decode cX7_steals 6 = .ok (.ifCond .ne 5, 3) := by decide +kernel
theorem dX7_steals_9 : decode cX7_steals 9 = .ok (.iconst 0, 1) := by decide +kernel
theorem dX7_steals_10 : decode cX7_steals 10 = .ok (.ireturn, 1) := by decide +kernel
theorem dX7_steals_11 : decode cX7_steals 11 = .ok (.aload_n 0, 1) := by decide +kernel
theorem dX7_steals_12 : decode cX7_steals 12 = .ok (.invokevirtual 201, 3) := by decide +kernel
theorem dX7_steals_15 : decode cX7_steals 15 = .ok (.aload_n 0, 1) := by decide +kernel
theorem dX7_steals_16 : decode cX7_steals 16 = .ok (.getfield 7, 3) := by decide +kernel
theorem dX7_steals_19 : decode cX7_steals 19 = .ok (.iconst 4, 1) := by decide +kernel
theorem dX7_steals_20 : decode cX7_steals 20 = .ok (.iaload, 1) := by decide +kernel
theorem dX7_steals_21 : decode cX7_steals 21 = .ok (.irem, 1) := by decide +kernel
theorem dX7_steals_22 : decode cX7_steals 22 = .ok (.istore_n 1, 1) := by decide +kernel
theorem dX7_steals_23 : decode cX7_steals 23 = .ok (.aload_n 0, 1) := by decide +kernel
theorem dX7_steals_24 : decode cX7_steals 24 = .ok (.invokevirtual 201, 3) := by decide +kernel
theorem dX7_steals_27 : decode cX7_steals 27 = .ok (.aload_n 0, 1) := by decide +kernel
theorem dX7_steals_28 : decode cX7_steals 28 = .ok (.getfield 7, 3) := by decide +kernel
theorem dX7_steals_31 : decode cX7_steals 31 = .ok (.iconst 4, 1) := by decide +kernel
theorem dX7_steals_32 : decode cX7_steals 32 = .ok (.iaload, 1) := by decide +kernel
theorem dX7_steals_33 : decode cX7_steals 33 = .ok (.irem, 1) := by decide +kernel
theorem dX7_steals_34 : decode cX7_steals 34 = .ok (.istore_n 2, 1) := by decide +kernel
theorem dX7_steals_35 : decode cX7_steals 35 = .ok (.aload_n 0, 1) := by decide +kernel
theorem dX7_steals_36 : decode cX7_steals 36 = .ok (.invokevirtual 201, 3) := by decide +kernel
theorem dX7_steals_39 : decode cX7_steals 39 = .ok (.iconst 5, 1) := by decide +kernel
theorem dX7_steals_40 : decode cX7_steals 40 = .ok (.irem, 1) := by decide +kernel
theorem dX7_steals_41 : decode cX7_steals 41 = .ok (.istore_n 3, 1) := by decide +kernel
theorem dX7_steals_42 : decode cX7_steals 42 = .ok (.bipush 99, 2) := by decide +kernel
theorem dX7_steals_44 : decode cX7_steals 44 = .ok (.aload_n 0, 1) := by decide +kernel
theorem dX7_steals_45 : decode cX7_steals 45 = .ok (.iload_n 2, 1) := by decide +kernel
theorem dX7_steals_46 : decode cX7_steals 46 = .ok (.iload_n 3, 1) := by decide +kernel
theorem dX7_steals_47 : decode cX7_steals 47 = .ok (.invokevirtual 57, 3) := by decide +kernel
theorem dX7_steals_50 : decode cX7_steals 50 = .ok (.isub, 1) := by decide +kernel
theorem dX7_steals_51 : decode cX7_steals 51 = .ok (.istore 4, 2) := by decide +kernel
theorem dX7_steals_53 : decode cX7_steals 53 = .ok (.aload_n 0, 1) := by decide +kernel
theorem dX7_steals_54 : decode cX7_steals 54 = .ok (.iload_n 1, 1) := by decide +kernel
theorem dX7_steals_55 : decode cX7_steals 55 = .ok (.iload_n 3, 1) := by decide +kernel
theorem dX7_steals_56 : decode cX7_steals 56 = .ok (.invokevirtual 57, 3) := by decide +kernel
theorem dX7_steals_59 : decode cX7_steals 59 = .ok (.iload 4, 2) := by decide +kernel
theorem dX7_steals_61 : decode cX7_steals 61 = .ok (.if_icmp .ge 12, 3) := by decide +kernel
theorem dX7_steals_64 : decode cX7_steals 64 = .ok (.aload_n 0, 1) := by decide +kernel
theorem dX7_steals_65 : decode cX7_steals 65 = .ok (.iload_n 1, 1) := by decide +kernel
theorem dX7_steals_66 : decode cX7_steals 66 = .ok (.iload_n 3, 1) := by decide +kernel
theorem dX7_steals_67 : decode cX7_steals 67 = .ok (.invokevirtual 57, 3) := by decide +kernel
theorem dX7_steals_70 : decode cX7_steals 70 = .ok (.goto 5, 3) := by decide +kernel
theorem dX7_steals_73 : decode cX7_steals 73 = .ok (.iload 4, 2) := by decide +kernel
theorem dX7_steals_75 : decode cX7_steals 75 = .ok (.iconst 2, 1) := by decide +kernel
theorem dX7_steals_76 : decode cX7_steals 76 = .ok (.idiv, 1) := by decide +kernel
theorem dX7_steals_77 : decode cX7_steals 77 = .ok (.istore 5, 2) := by decide +kernel
theorem dX7_steals_79 : decode cX7_steals 79 = .ok (.iload_n 1, 1) := by decide +kernel
theorem dX7_steals_80 : decode cX7_steals 80 = .ok (.iload_n 2, 1) := by decide +kernel
theorem dX7_steals_81 : decode cX7_steals 81 = .ok (.if_icmp .ne 5, 3) := by decide +kernel
theorem dX7_steals_84 : decode cX7_steals 84 = .ok (.iconst 0, 1) := by decide +kernel
theorem dX7_steals_85 : decode cX7_steals 85 = .ok (.ireturn, 1) := by decide +kernel
theorem dX7_steals_86 : decode cX7_steals 86 = .ok (.aload_n 0, 1) := by decide +kernel
theorem dX7_steals_87 : decode cX7_steals 87 = .ok (.iload_n 1, 1) := by decide +kernel
theorem dX7_steals_88 : decode cX7_steals 88 = .ok (.iload_n 2, 1) := by decide +kernel
theorem dX7_steals_89 : decode cX7_steals 89 = .ok (.iload_n 3, 1) := by decide +kernel
theorem dX7_steals_90 : decode cX7_steals 90 = .ok (.iload 5, 2) := by decide +kernel
theorem dX7_steals_92 : decode cX7_steals 92 = .ok (.invokevirtual 191, 3) := by decide +kernel
theorem dX7_steals_95 : decode cX7_steals 95 = .ok (.iload 5, 2) := by decide +kernel
theorem dX7_steals_97 : decode cX7_steals 97 = .ok (.ireturn, 1) := by decide +kernel
theorem dX7_loose_0 : decode cX7_loose 0 = .ok (.aload_n 0, 1) := by decide +kernel
theorem dX7_loose_1 : decode cX7_loose 1 = .ok (.iload_n 1, 1) := by decide +kernel
theorem dX7_loose_2 : decode cX7_loose 2 = .ok (.bipush 20, 2) := by decide +kernel
theorem dX7_loose_4 : decode cX7_loose 4 = .ok (.invokevirtual 195, 3) := by decide +kernel
theorem dX7_loose_7 : decode cX7_loose 7 = .ok (.istore_n 2, 1) := by decide +kernel
theorem dX7_loose_8 : decode cX7_loose 8 = .ok (.iload_n 2, 1) := by decide +kernel
theorem dX7_loose_9 : decode cX7_loose 9 = .ok (.ifCond .eq 9, 3) := by decide +kernel
theorem dX7_loose_12 : decode cX7_loose 12 = .ok (.aload_n 0, 1) := by decide +kernel
theorem dX7_loose_13 : decode cX7_loose 13 = .ok (.iload_n 2, 1) := by decide +kernel
theorem dX7_loose_14 : decode cX7_loose 14 = .ok (.invokevirtual 65, 3) := by decide +kernel
theorem dX7_loose_17 : decode cX7_loose 17 = .ok (.ireturn, 1) := by decide +kernel
theorem dX7_loose_18 : decode cX7_loose 18 = .ok (.iconst 0, 1) := by decide +kernel
theorem dX7_loose_19 : decode cX7_loose 19 = .ok (.istore_n 3, 1) := by decide +kernel
theorem dX7_loose_20 : decode cX7_loose 20 = .ok (.iconst 0, 1) := by decide +kernel
theorem dX7_loose_21 : decode cX7_loose 21 = .ok (.istore 4, 2) := by decide +kernel
theorem dX7_loose_23 : decode cX7_loose 23 = .ok (.iload 4, 2) := by decide +kernel
theorem dX7_loose_25 : decode cX7_loose 25 = .ok (.iload_n 1, 1) := by decide +kernel
theorem dX7_loose_26 : decode cX7_loose 26 = .ok (.if_icmp .ge 20, 3) := by decide +kernel
theorem dX7_loose_29 : decode cX7_loose 29 = .ok (.iload_n 3, 1) := by decide +kernel
theorem dX7_loose_30 : decode cX7_loose 30 = .ok (.aload_n 0, 1) := by decide +kernel
theorem dX7_loose_31 : decode cX7_loose 31 = .ok (.invokevirtual 204, 3) := by decide +kernel
theorem dX7_loose_34 : decode cX7_loose 34 = .ok (.iadd, 1) := by decide +kernel
theorem dX7_loose_35 : decode cX7_loose 35 = .ok (.istore_n 3, 1) := by decide +kernel
theorem dX7_loose_36 : decode cX7_loose 36 = .ok (.aload_n 0, 1) := by decide +kernel
theorem dX7_loose_37 : decode cX7_loose 37 = .ok (.invokevirtual 198, 3) := by decide +kernel
theorem dX7_loose_40 : decode cX7_loose 40 = .ok (.iinc 4 1, 3) := by decide +kernel
theorem dX7_loose_43 : decode cX7_loose 43 = .ok (.goto (-20), 3) := by decide +kernel
theorem dX7_loose_46 : decode cX7_loose 46 = .ok (.iload_n 3, 1) := by decide +kernel
theorem dX7_loose_47 : decode cX7_loose 47 = .ok (.ireturn, 1) := by decide +kernel
theorem dX7_year_0 : decode cX7_year 0 = .ok (.iload_n 1, 1) := by decide +kernel
theorem dX7_year_1 : decode cX7_year 1 = .ok (.iconst 0, 1) := by decide +kernel
theorem dX7_year_2 : decode cX7_year 2 = .ok (.sipush 999, 3) := by decide +kernel
theorem dX7_year_5 : decode cX7_year 5 = .ok (.invokestatic 53, 3) := by decide +kernel
theorem dX7_year_8 : decode cX7_year 8 = .ok (.ifCond .eq 12, 3) := by decide +kernel
theorem dX7_year_11 : decode cX7_year 11 = .ok (.aload_n 0, 1) := by decide +kernel
theorem dX7_year_12 : decode cX7_year 12 = .ok (.iconst 0, 1) := by decide +kernel
theorem dX7_year_13 : decode cX7_year 13 = .ok (.iload_n 1, 1) := by decide +kernel
theorem dX7_year_14 : decode cX7_year 14 = .ok (.invokevirtual 172, 3) := by decide +kernel
theorem dX7_year_17 : decode cX7_year 17 = .ok (.goto 8, 3) := by decide +kernel
theorem dX7_year_20 : decode cX7_year 20 = .ok (.aload_n 0, 1) := by decide +kernel
theorem dX7_year_21 : decode cX7_year 21 = .ok (.iconst 1, 1) := by decide +kernel
theorem dX7_year_22 : decode cX7_year 22 = .ok (.invokevirtual 65, 3) := by decide +kernel
theorem dX7_year_25 : decode cX7_year 25 = .ok (.ireturn, 1) := by decide +kernel
theorem dX7_seed_0 : decode cX7_seed 0 = .ok (.aload_n 0, 1) := by decide +kernel
theorem dX7_seed_1 : decode cX7_seed 1 = .ok (.iconst 1, 1) := by decide +kernel
theorem dX7_seed_2 : decode cX7_seed 2 = .ok (.iload_n 1, 1) := by decide +kernel
theorem dX7_seed_3 : decode cX7_seed 3 = .ok (.invokevirtual 172, 3) := by decide +kernel
theorem dX7_seed_6 : decode cX7_seed 6 = .ok (.ireturn, 1) := by decide +kernel
theorem dX7_then_0 : decode cX7_then 0 = .ok (.aload_n 0, 1) := by decide +kernel
theorem dX7_then_1 : decode cX7_then 1 = .ok (.iload_n 1, 1) := by decide +kernel
theorem dX7_then_2 : decode cX7_then 2 = .ok (.invokevirtual 156, 3) := by decide +kernel
theorem dX7_then_5 : decode cX7_then 5 = .ok (.ifCond .eq 20, 3) := by decide +kernel
theorem dX7_then_8 : decode cX7_then 8 = .ok (.iload_n 2, 1) := by decide +kernel
theorem dX7_then_9 : decode cX7_then 9 = .ok (.invokestatic 178, 3) := by decide +kernel
theorem dX7_then_12 : decode cX7_then 12 = .ok (.ifCond .eq 13, 3) := by decide +kernel
theorem dX7_then_15 : decode cX7_then 15 = .ok (.iload_n 3, 1) := by decide +kernel
theorem dX7_then_16 : decode cX7_then 16 = .ok (.iconst 0, 1) := by decide +kernel
theorem dX7_then_17 : decode cX7_then 17 = .ok (.bipush 60, 2) := by decide +kernel
theorem dX7_then_19 : decode cX7_then 19 = .ok (.invokestatic 53, 3) := by decide +kernel
theorem dX7_then_22 : decode cX7_then 22 = .ok (.ifCond .ne 9, 3) := by decide +kernel
theorem dX7_then_25 : decode cX7_then 25 = .ok (.aload_n 0, 1) := by decide +kernel
theorem dX7_then_26 : decode cX7_then 26 = .ok (.iconst 1, 1) := by decide +kernel
theorem dX7_then_27 : decode cX7_then 27 = .ok (.invokevirtual 65, 3) := by decide +kernel
theorem dX7_then_30 : decode cX7_then 30 = .ok (.ireturn, 1) := by decide +kernel
theorem dX7_then_31 : decode cX7_then 31 = .ok (.aload_n 0, 1) := by decide +kernel
theorem dX7_then_32 : decode cX7_then 32 = .ok (.invokevirtual 207, 3) := by decide +kernel
theorem dX7_then_35 : decode cX7_then 35 = .ok (.iconst 0, 1) := by decide +kernel
theorem dX7_then_36 : decode cX7_then 36 = .ok (.istore 4, 2) := by decide +kernel
theorem dX7_then_38 : decode cX7_then 38 = .ok (.iload 4, 2) := by decide +kernel
theorem dX7_then_40 : decode cX7_then 40 = .ok (.iload_n 3, 1) := by decide +kernel
theorem dX7_then_41 : decode cX7_then 41 = .ok (.if_icmp .ge 13, 3) := by decide +kernel
theorem dX7_then_44 : decode cX7_then 44 = .ok (.aload_n 0, 1) := by decide +kernel
theorem dX7_then_45 : decode cX7_then 45 = .ok (.invokevirtual 198, 3) := by decide +kernel
theorem dX7_then_48 : decode cX7_then 48 = .ok (.iinc 4 1, 3) := by decide +kernel
theorem dX7_then_51 : decode cX7_then 51 = .ok (.goto (-13), 3) := by decide +kernel
theorem dX7_then_54 : decode cX7_then 54 = .ok (.aload_n 0, 1) := by decide +kernel
theorem dX7_then_55 : decode cX7_then 55 = .ok (.iload_n 1, 1) := by decide +kernel
theorem dX7_then_56 : decode cX7_then 56 = .ok (.iload_n 2, 1) := by decide +kernel
theorem dX7_then_57 : decode cX7_then 57 = .ok (.invokevirtual 57, 3) := by decide +kernel
theorem dX7_then_60 : decode cX7_then 60 = .ok (.istore 4, 2) := by decide +kernel
theorem dX7_then_62 : decode cX7_then 62 = .ok (.aload_n 0, 1) := by decide +kernel
theorem dX7_then_63 : decode cX7_then 63 = .ok (.invokevirtual 210, 3) := by decide +kernel
theorem dX7_then_66 : decode cX7_then 66 = .ok (.iload 4, 2) := by decide +kernel
theorem dX7_then_68 : decode cX7_then 68 = .ok (.ireturn, 1) := by decide +kernel
theorem dX7_whoIsClean_0 : decode cX7_whoIsClean 0 = .ok (.iconst (-1), 1) := by decide +kernel
theorem dX7_whoIsClean_1 : decode cX7_whoIsClean 1 = .ok (.istore_n 2, 1) := by decide +kernel
theorem dX7_whoIsClean_2 : decode cX7_whoIsClean 2 = .ok (.aload_n 0, 1) := by decide +kernel
theorem dX7_whoIsClean_3 : decode cX7_whoIsClean 3 = .ok (.getfield 7, 3) := by decide +kernel
theorem dX7_whoIsClean_6 : decode cX7_whoIsClean 6 = .ok (.iconst 4, 1) := by decide +kernel
theorem dX7_whoIsClean_7 : decode cX7_whoIsClean 7 = .ok (.iaload, 1) := by decide +kernel
theorem dX7_whoIsClean_8 : decode cX7_whoIsClean 8 = .ok (.iconst 1, 1) := by decide +kernel
theorem dX7_whoIsClean_9 : decode cX7_whoIsClean 9 = .ok (.isub, 1) := by decide +kernel
theorem dX7_whoIsClean_10 : decode cX7_whoIsClean 10 = .ok (.istore_n 3, 1) := by decide +kernel
theorem dX7_whoIsClean_11 : decode cX7_whoIsClean 11 = .ok (.iload_n 3, 1) := by decide +kernel
theorem dX7_whoIsClean_12 : decode cX7_whoIsClean 12 = .ok (.ifCond .lt 24, 3) := by decide +kernel
theorem dX7_whoIsClean_15 : decode cX7_whoIsClean 15 = .ok (.aload_n 0, 1) := by decide +kernel
theorem dX7_whoIsClean_16 : decode cX7_whoIsClean 16 = .ok (.iload_n 3, 1) := by decide +kernel
theorem dX7_whoIsClean_17 : decode cX7_whoIsClean 17 = .ok (.invokevirtual 163, 3) := by decide +kernel
theorem dX7_whoIsClean_20 : decode cX7_whoIsClean 20 = .ok (.iload_n 1, 1) := by decide +kernel
theorem dX7_whoIsClean_21 : decode cX7_whoIsClean 21 = .ok (.if_icmp .ge 7, 3) := by decide +kernel
theorem dX7_whoIsClean_24 : decode cX7_whoIsClean 24 = .ok (.iload_n 3, 1) := by decide +kernel
theorem dX7_whoIsClean_25 : decode cX7_whoIsClean 25 = .ok (.goto 4, 3) := by decide +kernel
theorem dX7_whoIsClean_28 : decode cX7_whoIsClean 28 = .ok (.iload_n 2, 1) := by decide +kernel
theorem dX7_whoIsClean_29 : decode cX7_whoIsClean 29 = .ok (.istore_n 2, 1) := by decide +kernel
theorem dX7_whoIsClean_30 : decode cX7_whoIsClean 30 = .ok (.iinc 3 (-1), 3) := by decide +kernel
theorem dX7_whoIsClean_33 : decode cX7_whoIsClean 33 = .ok (.goto (-22), 3) := by decide +kernel
theorem dX7_whoIsClean_36 : decode cX7_whoIsClean 36 = .ok (.iload_n 2, 1) := by decide +kernel
theorem dX7_whoIsClean_37 : decode cX7_whoIsClean 37 = .ok (.ireturn, 1) := by decide +kernel
theorem dX7_clean_0 : decode cX7_clean 0 = .ok (.iload_n 1, 1) := by decide +kernel
theorem dX7_clean_1 : decode cX7_clean 1 = .ok (.iconst 0, 1) := by decide +kernel
theorem dX7_clean_2 : decode cX7_clean 2 = .ok (.sipush 500, 3) := by decide +kernel
theorem dX7_clean_5 : decode cX7_clean 5 = .ok (.invokestatic 53, 3) := by decide +kernel
theorem dX7_clean_8 : decode cX7_clean 8 = .ok (.ifCond .eq 12, 3) := by decide +kernel
theorem dX7_clean_11 : decode cX7_clean 11 = .ok (.iload_n 2, 1) := by decide +kernel
theorem dX7_clean_12 : decode cX7_clean 12 = .ok (.iconst 0, 1) := by decide +kernel
theorem dX7_clean_13 : decode cX7_clean 13 = .ok (.iconst 1, 1) := by decide +kernel
theorem dX7_clean_14 : decode cX7_clean 14 = .ok (.invokestatic 53, 3) := by decide +kernel
theorem dX7_clean_17 : decode cX7_clean 17 = .ok (.ifCond .ne 9, 3) := by decide +kernel
theorem dX7_clean_20 : decode cX7_clean 20 = .ok (.aload_n 0, 1) := by decide +kernel
theorem dX7_clean_21 : decode cX7_clean 21 = .ok (.iconst 1, 1) := by decide +kernel
theorem dX7_clean_22 : decode cX7_clean 22 = .ok (.invokevirtual 65, 3) := by decide +kernel
theorem dX7_clean_25 : decode cX7_clean 25 = .ok (.ireturn, 1) := by decide +kernel
theorem dX7_clean_26 : decode cX7_clean 26 = .ok (.aload_n 0, 1) := by decide +kernel
theorem dX7_clean_27 : decode cX7_clean 27 = .ok (.invokevirtual 207, 3) := by decide +kernel
theorem dX7_clean_30 : decode cX7_clean 30 = .ok (.iconst 0, 1) := by decide +kernel
theorem dX7_clean_31 : decode cX7_clean 31 = .ok (.istore_n 3, 1) := by decide +kernel
theorem dX7_clean_32 : decode cX7_clean 32 = .ok (.iload_n 3, 1) := by decide +kernel
theorem dX7_clean_33 : decode cX7_clean 33 = .ok (.bipush 60, 2) := by decide +kernel
theorem dX7_clean_35 : decode cX7_clean 35 = .ok (.if_icmp .gt 22, 3) := by decide +kernel
theorem dX7_clean_38 : decode cX7_clean 38 = .ok (.aload_n 0, 1) := by decide +kernel
theorem dX7_clean_39 : decode cX7_clean 39 = .ok (.iload_n 1, 1) := by decide +kernel
theorem dX7_clean_40 : decode cX7_clean 40 = .ok (.invokevirtual 213, 3) := by decide +kernel
theorem dX7_clean_43 : decode cX7_clean 43 = .ok (.iconst (-1), 1) := by decide +kernel
theorem dX7_clean_44 : decode cX7_clean 44 = .ok (.if_icmp .ne 13, 3) := by decide +kernel
theorem dX7_clean_47 : decode cX7_clean 47 = .ok (.aload_n 0, 1) := by decide +kernel
theorem dX7_clean_48 : decode cX7_clean 48 = .ok (.invokevirtual 198, 3) := by decide +kernel
theorem dX7_clean_51 : decode cX7_clean 51 = .ok (.iinc 3 1, 3) := by decide +kernel
theorem dX7_clean_54 : decode cX7_clean 54 = .ok (.goto (-22), 3) := by decide +kernel
theorem dX7_clean_57 : decode cX7_clean 57 = .ok (.aload_n 0, 1) := by decide +kernel
theorem dX7_clean_58 : decode cX7_clean 58 = .ok (.iload_n 1, 1) := by decide +kernel
theorem dX7_clean_59 : decode cX7_clean 59 = .ok (.invokevirtual 213, 3) := by decide +kernel
theorem dX7_clean_62 : decode cX7_clean 62 = .ok (.istore 4, 2) := by decide +kernel
theorem dX7_clean_64 : decode cX7_clean 64 = .ok (.aload_n 0, 1) := by decide +kernel
theorem dX7_clean_65 : decode cX7_clean 65 = .ok (.invokevirtual 210, 3) := by decide +kernel
theorem dX7_clean_68 : decode cX7_clean 68 = .ok (.iload_n 3, 1) := by decide +kernel
theorem dX7_clean_69 : decode cX7_clean 69 = .ok (.bipush 60, 2) := by decide +kernel
theorem dX7_clean_71 : decode cX7_clean 71 = .ok (.if_icmp .le 11, 3) := by decide +kernel
theorem dX7_clean_74 : decode cX7_clean 74 = .ok (.aload_n 0, 1) := by decide +kernel
theorem dX7_clean_75 : decode cX7_clean 75 = .ok (.iconst 2, 1) := by decide +kernel
theorem dX7_clean_76 : decode cX7_clean 76 = .ok (.invokevirtual 65, 3) := by decide +kernel
theorem dX7_clean_79 : decode cX7_clean 79 = .ok (.goto 13, 3) := by decide +kernel
theorem dX7_clean_82 : decode cX7_clean 82 = .ok (.iload_n 2, 1) := by decide +kernel
theorem dX7_clean_83 : decode cX7_clean 83 = .ok (.ifCond .ne 8, 3) := by decide +kernel
theorem dX7_clean_86 : decode cX7_clean 86 = .ok (.iload 4, 2) := by decide +kernel
theorem dX7_clean_88 : decode cX7_clean 88 = .ok (.goto 4, 3) := by decide +kernel
theorem dX7_clean_91 : decode cX7_clean 91 = .ok (.iload_n 3, 1) := by decide +kernel
theorem dX7_clean_92 : decode cX7_clean 92 = .ok (.ireturn, 1) := by decide +kernel
theorem dX7_arePoured_0 : decode cX7_arePoured 0 = .ok (.iconst 1, 1) := by decide +kernel
theorem dX7_arePoured_1 : decode cX7_arePoured 1 = .ok (.istore 4, 2) := by decide +kernel
theorem dX7_arePoured_3 : decode cX7_arePoured 3 = .ok (.iconst 0, 1) := by decide +kernel
theorem dX7_arePoured_4 : decode cX7_arePoured 4 = .ok (.istore 5, 2) := by decide +kernel
theorem dX7_arePoured_6 : decode cX7_arePoured 6 = .ok (.iload 5, 2) := by decide +kernel
theorem dX7_arePoured_8 : decode cX7_arePoured 8 = .ok (.iconst 5, 1) := by decide +kernel
theorem dX7_arePoured_9 : decode cX7_arePoured 9 = .ok (.if_icmp .ge 48, 3) := by decide +kernel
theorem dX7_arePoured_12 : decode cX7_arePoured 12 = .ok (.iload 4, 2) := by decide +kernel
theorem dX7_arePoured_14 : decode cX7_arePoured 14 = .ok (.ifCond .eq 34, 3) := by decide +kernel
theorem dX7_arePoured_17 : decode cX7_arePoured 17 = .ok (.aload_n 0, 1) := by decide +kernel
theorem dX7_arePoured_18 : decode cX7_arePoured 18 = .ok (.iload_n 1, 1) := by decide +kernel
theorem dX7_arePoured_19 : decode cX7_arePoured 19 = .ok (.iload 5, 2) := by decide +kernel
theorem dX7_arePoured_21 : decode cX7_arePoured 21 = .ok (.invokevirtual 57, 3) := by decide +kernel
theorem dX7_arePoured_24 : decode cX7_arePoured 24 = .ok (.aload_n 0, 1) := by decide +kernel
theorem dX7_arePoured_25 : decode cX7_arePoured 25 = .ok (.iload_n 2, 1) := by decide +kernel
theorem dX7_arePoured_26 : decode cX7_arePoured 26 = .ok (.iload 5, 2) := by decide +kernel
theorem dX7_arePoured_28 : decode cX7_arePoured 28 = .ok (.invokevirtual 57, 3) := by decide +kernel
theorem dX7_arePoured_31 : decode cX7_arePoured 31 = .ok (.iadd, 1) := by decide +kernel
theorem dX7_arePoured_32 : decode cX7_arePoured 32 = .ok (.iconst 2, 1) := by decide +kernel
theorem dX7_arePoured_33 : decode cX7_arePoured 33 = .ok (.idiv, 1) := by decide +kernel
theorem dX7_arePoured_34 : decode cX7_arePoured 34 = .ok (.aload_n 0, 1) := by decide +kernel
theorem dX7_arePoured_35 : decode cX7_arePoured 35 = .ok (.iload_n 3, 1) := by decide +kernel
theorem dX7_arePoured_36 : decode cX7_arePoured 36 = .ok (.iload 5, 2) := by decide +kernel
theorem dX7_arePoured_38 : decode cX7_arePoured 38 = .ok (.invokevirtual 57, 3) := by decide +kernel
theorem dX7_arePoured_41 : decode cX7_arePoured 41 = .ok (.if_icmp .ne 7, 3) := by decide +kernel
theorem dX7_arePoured_44 : decode cX7_arePoured 44 = .ok (.iconst 1, 1) := by decide +kernel
theorem dX7_arePoured_45 : decode cX7_arePoured 45 = .ok (.goto 4, 3) := by decide +kernel
theorem dX7_arePoured_48 : decode cX7_arePoured 48 = .ok (.iconst 0, 1) := by decide +kernel
theorem dX7_arePoured_49 : decode cX7_arePoured 49 = .ok (.istore 4, 2) := by decide +kernel
