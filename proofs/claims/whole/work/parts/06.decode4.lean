theorem dX4_odds_18 : decode cX4_odds 18 = .ok (.aload_n 0, 1) := by decide +kernel
theorem dX4_odds_19 : decode cX4_odds 19 = .ok (.iload_n 1, 1) := by decide +kernel
theorem dX4_odds_20 : decode cX4_odds 20 = .ok (.aload_n 0, 1) := by decide +kernel
theorem dX4_odds_21 : decode cX4_odds 21 = .ok (.getfield 7, 3) := by decide +kernel
theorem dX4_odds_24 : decode cX4_odds 24 = .ok (.iconst 1, 1) := by decide +kernel
theorem dX4_odds_25 : decode cX4_odds 25 = .ok (.iaload, 1) := by decide +kernel
theorem dX4_odds_26 : decode cX4_odds 26 = .ok (.invokevirtual 228, 3) := by decide +kernel
theorem dX4_odds_29 : decode cX4_odds 29 = .ok (.aload_n 0, 1) := by decide +kernel
theorem dX4_odds_30 : decode cX4_odds 30 = .ok (.iload_n 1, 1) := by decide +kernel
theorem dX4_odds_31 : decode cX4_odds 31 = .ok (.iconst 0, 1) := by decide +kernel
theorem dX4_odds_32 : decode cX4_odds 32 = .ok (.invokevirtual 228, 3) := by decide +kernel
theorem dX4_odds_35 : decode cX4_odds 35 = .ok (.invokevirtual 232, 3) := by decide +kernel
theorem dX4_odds_38 : decode cX4_odds 38 = .ok (.iconst 1, 1) := by decide +kernel
theorem dX4_odds_39 : decode cX4_odds 39 = .ok (.ireturn, 1) := by decide +kernel
theorem dX4_best_0 : decode cX4_best 0 = .ok (.iload_n 1, 1) := by decide +kernel
theorem dX4_best_1 : decode cX4_best 1 = .ok (.i2l, 1) := by decide +kernel
theorem dX4_best_2 : decode cX4_best 2 = .ok (.lconst 0, 1) := by decide +kernel
theorem dX4_best_3 : decode cX4_best 3 = .ok (.ldc2_w 226, 3) := by decide +kernel
theorem dX4_best_6 : decode cX4_best 6 = .ok (.invokestatic 52, 3) := by decide +kernel
theorem dX4_best_9 : decode cX4_best 9 = .ok (.ifCond .eq 15, 3) := by decide +kernel
theorem dX4_best_12 : decode cX4_best 12 = .ok (.iload_n 2, 1) := by decide +kernel
theorem dX4_best_13 : decode cX4_best 13 = .ok (.i2l, 1) := by decide +kernel
theorem dX4_best_14 : decode cX4_best 14 = .ok (.lconst 0, 1) := by decide +kernel
theorem dX4_best_15 : decode cX4_best 15 = .ok (.ldc2_w 226, 3) := by decide +kernel
theorem dX4_best_18 : decode cX4_best 18 = .ok (.invokestatic 52, 3) := by decide +kernel
theorem dX4_best_21 : decode cX4_best 21 = .ok (.ifCond .ne 8, 3) := by decide +kernel
theorem dX4_best_24 : decode cX4_best 24 = .ok (.aload_n 0, 1) := by decide +kernel
theorem dX4_best_25 : decode cX4_best 25 = .ok (.invokevirtual 64, 3) := by decide +kernel
theorem dX4_best_28 : decode cX4_best 28 = .ok (.ireturn, 1) := by decide +kernel
theorem dX4_best_29 : decode cX4_best 29 = .ok (.iconst 1, 1) := by decide +kernel
theorem dX4_best_30 : decode cX4_best 30 = .ok (.istore_n 3, 1) := by decide +kernel
theorem dX4_best_31 : decode cX4_best 31 = .ok (.iconst 2, 1) := by decide +kernel
theorem dX4_best_32 : decode cX4_best 32 = .ok (.istore 4, 2) := by decide +kernel
theorem dX4_best_34 : decode cX4_best 34 = .ok (.iload 4, 2) := by decide +kernel
theorem dX4_best_36 : decode cX4_best 36 = .ok (.iconst 4, 1) := by decide +kernel
theorem dX4_best_37 : decode cX4_best 37 = .ok (.if_icmp .gt 54, 3) := by decide +kernel
theorem dX4_best_40 : decode cX4_best 40 = .ok (.aload_n 0, 1) := by decide +kernel
theorem dX4_best_41 : decode cX4_best 41 = .ok (.iload_n 1, 1) := by decide +kernel
theorem dX4_best_42 : decode cX4_best 42 = .ok (.iload 4, 2) := by decide +kernel
theorem dX4_best_44 : decode cX4_best 44 = .ok (.invokevirtual 228, 3) := by decide +kernel
theorem dX4_best_47 : decode cX4_best 47 = .ok (.aload_n 0, 1) := by decide +kernel
theorem dX4_best_48 : decode cX4_best 48 = .ok (.iload_n 2, 1) := by decide +kernel
theorem dX4_best_49 : decode cX4_best 49 = .ok (.iload 4, 2) := by decide +kernel
theorem dX4_best_51 : decode cX4_best 51 = .ok (.invokevirtual 228, 3) := by decide +kernel
theorem dX4_best_54 : decode cX4_best 54 = .ok (.lsub, 1) := by decide +kernel
theorem dX4_best_55 : decode cX4_best 55 = .ok (.aload_n 0, 1) := by decide +kernel
theorem dX4_best_56 : decode cX4_best 56 = .ok (.iload_n 1, 1) := by decide +kernel
theorem dX4_best_57 : decode cX4_best 57 = .ok (.iload_n 3, 1) := by decide +kernel
theorem dX4_best_58 : decode cX4_best 58 = .ok (.invokevirtual 228, 3) := by decide +kernel
theorem dX4_best_61 : decode cX4_best 61 = .ok (.lsub, 1) := by decide +kernel
theorem dX4_best_62 : decode cX4_best 62 = .ok (.aload_n 0, 1) := by decide +kernel
theorem dX4_best_63 : decode cX4_best 63 = .ok (.iload_n 2, 1) := by decide +kernel
theorem dX4_best_64 : decode cX4_best 64 = .ok (.iload_n 3, 1) := by decide +kernel
theorem dX4_best_65 : decode cX4_best 65 = .ok (.invokevirtual 228, 3) := by decide +kernel
theorem dX4_best_68 : decode cX4_best 68 = .ok (.ladd, 1) := by decide +kernel
theorem dX4_best_69 : decode cX4_best 69 = .ok (.lstore 5, 2) := by decide +kernel
theorem dX4_best_71 : decode cX4_best 71 = .ok (.lload 5, 2) := by decide +kernel
theorem dX4_best_73 : decode cX4_best 73 = .ok (.lconst 0, 1) := by decide +kernel
theorem dX4_best_74 : decode cX4_best 74 = .ok (.lcmp, 1) := by decide +kernel
theorem dX4_best_75 : decode cX4_best 75 = .ok (.ifCond .lt 8, 3) := by decide +kernel
theorem dX4_best_78 : decode cX4_best 78 = .ok (.iload 4, 2) := by decide +kernel
theorem dX4_best_80 : decode cX4_best 80 = .ok (.goto 4, 3) := by decide +kernel
theorem dX4_best_83 : decode cX4_best 83 = .ok (.iload_n 3, 1) := by decide +kernel
theorem dX4_best_84 : decode cX4_best 84 = .ok (.istore_n 3, 1) := by decide +kernel
theorem dX4_best_85 : decode cX4_best 85 = .ok (.iinc 4 1, 3) := by decide +kernel
theorem dX4_best_88 : decode cX4_best 88 = .ok (.goto (-54), 3) := by decide +kernel
theorem dX4_best_91 : decode cX4_best 91 = .ok (.iload_n 3, 1) := by decide +kernel
theorem dX4_best_92 : decode cX4_best 92 = .ok (.ireturn, 1) := by decide +kernel
theorem dX4_must_0 : decode cX4_must 0 = .ok (.iload_n 1, 1) := by decide +kernel
theorem dX4_must_1 : decode cX4_must 1 = .ok (.i2l, 1) := by decide +kernel
theorem dX4_must_2 : decode cX4_must 2 = .ok (.lconst 0, 1) := by decide +kernel
theorem dX4_must_3 : decode cX4_must 3 = .ok (.ldc2_w 197, 3) := by decide +kernel
theorem dX4_must_6 : decode cX4_must 6 = .ok (.invokestatic 52, 3) := by decide +kernel
theorem dX4_must_9 : decode cX4_must 9 = .ok (.ifCond .ne 8, 3) := by decide +kernel
theorem dX4_must_12 : decode cX4_must 12 = .ok (.aload_n 0, 1) := by decide +kernel
theorem dX4_must_13 : decode cX4_must 13 = .ok (.invokevirtual 64, 3) := by decide +kernel
theorem dX4_must_16 : decode cX4_must 16 = .ok (.ireturn, 1) := by decide +kernel
theorem dX4_must_17 : decode cX4_must 17 = .ok (.aload_n 0, 1) := by decide +kernel
theorem dX4_must_18 : decode cX4_must 18 = .ok (.aload_n 0, 1) := by decide +kernel
theorem dX4_must_19 : decode cX4_must 19 = .ok (.invokevirtual 220, 3) := by decide +kernel
theorem dX4_must_22 : decode cX4_must 22 = .ok (.iload_n 1, 1) := by decide +kernel
theorem dX4_must_23 : decode cX4_must 23 = .ok (.invokevirtual 159, 3) := by decide +kernel
theorem dX4_must_26 : decode cX4_must 26 = .ok (.iconst 1, 1) := by decide +kernel
theorem dX4_must_27 : decode cX4_must 27 = .ok (.if_icmp .eq 5, 3) := by decide +kernel
theorem dX4_must_30 : decode cX4_must 30 = .ok (.iconst 0, 1) := by decide +kernel
theorem dX4_must_31 : decode cX4_must 31 = .ok (.ireturn, 1) := by decide +kernel
theorem dX4_must_32 : decode cX4_must 32 = .ok (.iconst 0, 1) := by decide +kernel
theorem dX4_must_33 : decode cX4_must 33 = .ok (.istore_n 2, 1) := by decide +kernel
theorem dX4_must_34 : decode cX4_must 34 = .ok (.iconst 0, 1) := by decide +kernel
theorem dX4_must_35 : decode cX4_must 35 = .ok (.istore_n 3, 1) := by decide +kernel
theorem dX4_must_36 : decode cX4_must 36 = .ok (.iload_n 3, 1) := by decide +kernel
theorem dX4_must_37 : decode cX4_must 37 = .ok (.aload_n 0, 1) := by decide +kernel
theorem dX4_must_38 : decode cX4_must 38 = .ok (.getfield 7, 3) := by decide +kernel
theorem dX4_must_41 : decode cX4_must 41 = .ok (.bipush 8, 2) := by decide +kernel
theorem dX4_must_43 : decode cX4_must 43 = .ok (.iaload, 1) := by decide +kernel
theorem dX4_must_44 : decode cX4_must 44 = .ok (.if_icmp .ge 38, 3) := by decide +kernel
theorem dX4_must_47 : decode cX4_must 47 = .ok (.iload_n 2, 1) := by decide +kernel
theorem dX4_must_48 : decode cX4_must 48 = .ok (.aload_n 0, 1) := by decide +kernel
theorem dX4_must_49 : decode cX4_must 49 = .ok (.aload_n 0, 1) := by decide +kernel
theorem dX4_must_50 : decode cX4_must 50 = .ok (.invokevirtual 220, 3) := by decide +kernel
theorem dX4_must_53 : decode cX4_must 53 = .ok (.iconst 1, 1) := by decide +kernel
theorem dX4_must_54 : decode cX4_must 54 = .ok (.iload_n 3, 1) := by decide +kernel
theorem dX4_must_55 : decode cX4_must 55 = .ok (.ishl, 1) := by decide +kernel
theorem dX4_must_56 : decode cX4_must 56 = .ok (.iconst (-1), 1) := by decide +kernel
theorem dX4_must_57 : decode cX4_must 57 = .ok (.ixor, 1) := by decide +kernel
theorem dX4_must_58 : decode cX4_must 58 = .ok (.iand, 1) := by decide +kernel
theorem dX4_must_59 : decode cX4_must 59 = .ok (.iload_n 1, 1) := by decide +kernel
theorem dX4_must_60 : decode cX4_must 60 = .ok (.invokevirtual 159, 3) := by decide +kernel
theorem dX4_must_63 : decode cX4_must 63 = .ok (.iconst 1, 1) := by decide +kernel
theorem dX4_must_64 : decode cX4_must 64 = .ok (.if_icmp .eq 9, 3) := by decide +kernel
theorem dX4_must_67 : decode cX4_must 67 = .ok (.iconst 1, 1) := by decide +kernel
theorem dX4_must_68 : decode cX4_must 68 = .ok (.iload_n 3, 1) := by decide +kernel
theorem dX4_must_69 : decode cX4_must 69 = .ok (.ishl, 1) := by decide +kernel
theorem dX4_must_70 : decode cX4_must 70 = .ok (.goto 4, 3) := by decide +kernel
theorem dX4_must_73 : decode cX4_must 73 = .ok (.iconst 0, 1) := by decide +kernel
theorem dX4_must_74 : decode cX4_must 74 = .ok (.ior, 1) := by decide +kernel
theorem dX4_must_75 : decode cX4_must 75 = .ok (.istore_n 2, 1) := by decide +kernel
theorem dX4_must_76 : decode cX4_must 76 = .ok (.iinc 3 1, 3) := by decide +kernel
theorem dX4_must_79 : decode cX4_must 79 = .ok (.goto (-43), 3) := by decide +kernel
theorem dX4_must_82 : decode cX4_must 82 = .ok (.iload_n 2, 1) := by decide +kernel
theorem dX4_must_83 : decode cX4_must 83 = .ok (.ireturn, 1) := by decide +kernel
theorem dX4_isParting_0 : decode cX4_isParting 0 = .ok (.iload_n 1, 1) := by decide +kernel
theorem dX4_isParting_1 : decode cX4_isParting 1 = .ok (.invokestatic 138, 3) := by decide +kernel
theorem dX4_isParting_4 : decode cX4_isParting 4 = .ok (.aload_n 0, 1) := by decide +kernel
theorem dX4_isParting_5 : decode cX4_isParting 5 = .ok (.getfield 7, 3) := by decide +kernel
theorem dX4_isParting_8 : decode cX4_isParting 8 = .ok (.iconst 1, 1) := by decide +kernel
theorem dX4_isParting_9 : decode cX4_isParting 9 = .ok (.iaload, 1) := by decide +kernel
theorem dX4_isParting_10 : decode cX4_isParting 10 = .ok (.if_icmp .lt 28, 3) := by decide +kernel
theorem dX4_isParting_13 : decode cX4_isParting 13 = .ok (.aload_n 0, 1) := by decide +kernel
theorem dX4_isParting_14 : decode cX4_isParting 14 = .ok (.getfield 7, 3) := by decide +kernel
theorem dX4_isParting_17 : decode cX4_isParting 17 = .ok (.bipush 8, 2) := by decide +kernel
theorem dX4_isParting_19 : decode cX4_isParting 19 = .ok (.iaload, 1) := by decide +kernel
theorem dX4_isParting_20 : decode cX4_isParting 20 = .ok (.iload_n 1, 1) := by decide +kernel
theorem dX4_isParting_21 : decode cX4_isParting 21 = .ok (.invokestatic 138, 3) := by decide +kernel
theorem dX4_isParting_24 : decode cX4_isParting 24 = .ok (.isub, 1) := by decide +kernel
theorem dX4_isParting_25 : decode cX4_isParting 25 = .ok (.aload_n 0, 1) := by decide +kernel
theorem dX4_isParting_26 : decode cX4_isParting 26 = .ok (.getfield 7, 3) := by decide +kernel
theorem dX4_isParting_29 : decode cX4_isParting 29 = .ok (.iconst 1, 1) := by decide +kernel
theorem dX4_isParting_30 : decode cX4_isParting 30 = .ok (.iaload, 1) := by decide +kernel
theorem dX4_isParting_31 : decode cX4_isParting 31 = .ok (.if_icmp .lt 7, 3) := by decide +kernel
theorem dX4_isParting_34 : decode cX4_isParting 34 = .ok (.iconst 1, 1) := by decide +kernel
theorem dX4_isParting_35 : decode cX4_isParting 35 = .ok (.goto 4, 3) := by decide +kernel
theorem dX4_isParting_38 : decode cX4_isParting 38 = .ok (.iconst 0, 1) := by decide +kernel
theorem dX4_isParting_39 : decode cX4_isParting 39 = .ok (.ireturn, 1) := by decide +kernel
theorem dX4_cars_0 : decode cX4_cars 0 = .ok (.aload_n 0, 1) := by decide +kernel
theorem dX4_cars_1 : decode cX4_cars 1 = .ok (.iload_n 1, 1) := by decide +kernel
theorem dX4_cars_2 : decode cX4_cars 2 = .ok (.invokevirtual 163, 3) := by decide +kernel
theorem dX4_cars_5 : decode cX4_cars 5 = .ok (.ifCond .eq 10, 3) := by decide +kernel
theorem dX4_cars_8 : decode cX4_cars 8 = .ok (.iload_n 2, 1) := by decide +kernel
theorem dX4_cars_9 : decode cX4_cars 9 = .ok (.invokestatic 217, 3) := by decide +kernel
theorem dX4_cars_12 : decode cX4_cars 12 = .ok (.ifCond .ne 8, 3) := by decide +kernel
theorem dX4_cars_15 : decode cX4_cars 15 = .ok (.aload_n 0, 1) := by decide +kernel
theorem dX4_cars_16 : decode cX4_cars 16 = .ok (.invokevirtual 64, 3) := by decide +kernel
theorem dX4_cars_19 : decode cX4_cars 19 = .ok (.ireturn, 1) := by decide +kernel
theorem dX4_cars_20 : decode cX4_cars 20 = .ok (.iload_n 2, 1) := by decide +kernel
theorem dX4_cars_21 : decode cX4_cars 21 = .ok (.ifCond .ne 17, 3) := by decide +kernel
theorem dX4_cars_24 : decode cX4_cars 24 = .ok (.aload_n 0, 1) := by decide +kernel
theorem dX4_cars_25 : decode cX4_cars 25 = .ok (.iload_n 1, 1) := by decide +kernel
theorem dX4_cars_26 : decode cX4_cars 26 = .ok (.invokevirtual 236, 3) := by decide +kernel
theorem dX4_cars_29 : decode cX4_cars 29 = .ok (.ifCond .eq 7, 3) := by decide +kernel
theorem dX4_cars_32 : decode cX4_cars 32 = .ok (.iconst 1, 1) := by decide +kernel
theorem dX4_cars_33 : decode cX4_cars 33 = .ok (.goto 4, 3) := by decide +kernel
theorem dX4_cars_36 : decode cX4_cars 36 = .ok (.iconst 0, 1) := by decide +kernel
theorem dX4_cars_37 : decode cX4_cars 37 = .ok (.ireturn, 1) := by decide +kernel
theorem dX4_cars_38 : decode cX4_cars 38 = .ok (.iconst 0, 1) := by decide +kernel
theorem dX4_cars_39 : decode cX4_cars 39 = .ok (.istore_n 3, 1) := by decide +kernel
theorem dX4_cars_40 : decode cX4_cars 40 = .ok (.iconst 0, 1) := by decide +kernel
theorem dX4_cars_41 : decode cX4_cars 41 = .ok (.istore 4, 2) := by decide +kernel
theorem dX4_cars_43 : decode cX4_cars 43 = .ok (.iload 4, 2) := by decide +kernel
theorem dX4_cars_45 : decode cX4_cars 45 = .ok (.aload_n 0, 1) := by decide +kernel
theorem dX4_cars_46 : decode cX4_cars 46 = .ok (.invokevirtual 220, 3) := by decide +kernel
theorem dX4_cars_49 : decode cX4_cars 49 = .ok (.if_icmp .gt 26, 3) := by decide +kernel
theorem dX4_cars_52 : decode cX4_cars 52 = .ok (.iload_n 3, 1) := by decide +kernel
theorem dX4_cars_53 : decode cX4_cars 53 = .ok (.aload_n 0, 1) := by decide +kernel
theorem dX4_cars_54 : decode cX4_cars 54 = .ok (.iload 4, 2) := by decide +kernel
theorem dX4_cars_56 : decode cX4_cars 56 = .ok (.invokevirtual 236, 3) := by decide +kernel
theorem dX4_cars_59 : decode cX4_cars 59 = .ok (.ifCond .eq 7, 3) := by decide +kernel
theorem dX4_cars_62 : decode cX4_cars 62 = .ok (.iconst 1, 1) := by decide +kernel
theorem dX4_cars_63 : decode cX4_cars 63 = .ok (.goto 4, 3) := by decide +kernel
theorem dX4_cars_66 : decode cX4_cars 66 = .ok (.iconst 0, 1) := by decide +kernel
theorem dX4_cars_67 : decode cX4_cars 67 = .ok (.iadd, 1) := by decide +kernel
theorem dX4_cars_68 : decode cX4_cars 68 = .ok (.istore_n 3, 1) := by decide +kernel
theorem dX4_cars_69 : decode cX4_cars 69 = .ok (.iinc 4 1, 3) := by decide +kernel
theorem dX4_cars_72 : decode cX4_cars 72 = .ok (.goto (-29), 3) := by decide +kernel
theorem dX4_cars_75 : decode cX4_cars 75 = .ok (.iload_n 3, 1) := by decide +kernel
theorem dX4_cars_76 : decode cX4_cars 76 = .ok (.ireturn, 1) := by decide +kernel
theorem dX4_envelope_0 : decode cX4_envelope 0 = .ok (.iload_n 1, 1) := by decide +kernel
theorem dX4_envelope_1 : decode cX4_envelope 1 = .ok (.i2l, 1) := by decide +kernel
theorem dX4_envelope_2 : decode cX4_envelope 2 = .ok (.lconst 0, 1) := by decide +kernel
theorem dX4_envelope_3 : decode cX4_envelope 3 = .ok (.ldc2_w 239, 3) := by decide +kernel
theorem dX4_envelope_6 : decode cX4_envelope 6 = .ok (.invokestatic 52, 3) := by decide +kernel
theorem dX4_envelope_9 : decode cX4_envelope 9 = .ok (.ifCond .eq 10, 3) := by decide +kernel
theorem dX4_envelope_12 : decode cX4_envelope 12 = .ok (.iload_n 2, 1) := by decide +kernel
theorem dX4_envelope_13 : decode cX4_envelope 13 = .ok (.invokestatic 217, 3) := by decide +kernel
theorem dX4_envelope_16 : decode cX4_envelope 16 = .ok (.ifCond .ne 8, 3) := by decide +kernel
theorem dX4_envelope_19 : decode cX4_envelope 19 = .ok (.aload_n 0, 1) := by decide +kernel
theorem dX4_envelope_20 : decode cX4_envelope 20 = .ok (.invokevirtual 64, 3) := by decide +kernel
theorem dX4_envelope_23 : decode cX4_envelope 23 = .ok (.ireturn, 1) := by decide +kernel
theorem dX4_envelope_24 : decode cX4_envelope 24 = .ok (.iconst (-1), 1) := by decide +kernel
theorem dX4_envelope_25 : decode cX4_envelope 25 = .ok (.istore_n 3, 1) := by decide +kernel
theorem dX4_envelope_26 : decode cX4_envelope 26 = .ok (.iconst (-1), 1) := by decide +kernel
theorem dX4_envelope_27 : decode cX4_envelope 27 = .ok (.istore 4, 2) := by decide +kernel
theorem dX4_envelope_29 : decode cX4_envelope 29 = .ok (.iconst 0, 1) := by decide +kernel
theorem dX4_envelope_30 : decode cX4_envelope 30 = .ok (.istore 5, 2) := by decide +kernel
theorem dX4_envelope_32 : decode cX4_envelope 32 = .ok (.iload 5, 2) := by decide +kernel
theorem dX4_envelope_34 : decode cX4_envelope 34 = .ok (.aload_n 0, 1) := by decide +kernel
theorem dX4_envelope_35 : decode cX4_envelope 35 = .ok (.getfield 7, 3) := by decide +kernel
theorem dX4_envelope_38 : decode cX4_envelope 38 = .ok (.bipush 8, 2) := by decide +kernel
theorem dX4_envelope_40 : decode cX4_envelope 40 = .ok (.iaload, 1) := by decide +kernel
theorem dX4_envelope_41 : decode cX4_envelope 41 = .ok (.if_icmp .ge 118, 3) := by decide +kernel
theorem dX4_envelope_44 : decode cX4_envelope 44 = .ok (.iconst 0, 1) := by decide +kernel
theorem dX4_envelope_45 : decode cX4_envelope 45 = .ok (.istore 6, 2) := by decide +kernel
theorem dX4_envelope_47 : decode cX4_envelope 47 = .ok (.iload_n 1, 1) := by decide +kernel
theorem dX4_envelope_48 : decode cX4_envelope 48 = .ok (.istore 7, 2) := by decide +kernel
theorem dX4_envelope_50 : decode cX4_envelope 50 = .ok (.iload 7, 2) := by decide +kernel
theorem dX4_envelope_52 : decode cX4_envelope 52 = .ok (.iload_n 1, 1) := by decide +kernel
theorem dX4_envelope_53 : decode cX4_envelope 53 = .ok (.bipush 10, 2) := by decide +kernel
theorem dX4_envelope_55 : decode cX4_envelope 55 = .ok (.iadd, 1) := by decide +kernel
theorem dX4_envelope_56 : decode cX4_envelope 56 = .ok (.if_icmp .ge 67, 3) := by decide +kernel
theorem dX4_envelope_59 : decode cX4_envelope 59 = .ok (.aload_n 0, 1) := by decide +kernel
theorem dX4_envelope_60 : decode cX4_envelope 60 = .ok (.aload_n 0, 1) := by decide +kernel
theorem dX4_envelope_61 : decode cX4_envelope 61 = .ok (.invokevirtual 220, 3) := by decide +kernel
theorem dX4_envelope_64 : decode cX4_envelope 64 = .ok (.iconst 1, 1) := by decide +kernel
theorem dX4_envelope_65 : decode cX4_envelope 65 = .ok (.iload 5, 2) := by decide +kernel
theorem dX4_envelope_67 : decode cX4_envelope 67 = .ok (.ishl, 1) := by decide +kernel
theorem dX4_envelope_68 : decode cX4_envelope 68 = .ok (.iconst (-1), 1) := by decide +kernel
theorem dX4_envelope_69 : decode cX4_envelope 69 = .ok (.ixor, 1) := by decide +kernel
theorem dX4_envelope_70 : decode cX4_envelope 70 = .ok (.iand, 1) := by decide +kernel
theorem dX4_envelope_71 : decode cX4_envelope 71 = .ok (.iload 7, 2) := by decide +kernel
theorem dX4_envelope_73 : decode cX4_envelope 73 = .ok (.invokevirtual 153, 3) := by decide +kernel
theorem dX4_envelope_76 : decode cX4_envelope 76 = .ok (.aload_n 0, 1) := by decide +kernel
theorem dX4_envelope_77 : decode cX4_envelope 77 = .ok (.getfield 26, 3) := by decide +kernel
theorem dX4_envelope_80 : decode cX4_envelope 80 = .ok (.iload 5, 2) := by decide +kernel
theorem dX4_envelope_82 : decode cX4_envelope 82 = .ok (.aload_n 0, 1) := by decide +kernel
theorem dX4_envelope_83 : decode cX4_envelope 83 = .ok (.aload_n 0, 1) := by decide +kernel
theorem dX4_envelope_84 : decode cX4_envelope 84 = .ok (.getfield 7, 3) := by decide +kernel
theorem dX4_envelope_87 : decode cX4_envelope 87 = .ok (.iconst 0, 1) := by decide +kernel
theorem dX4_envelope_88 : decode cX4_envelope 88 = .ok (.iload 5, 2) := by decide +kernel
theorem dX4_envelope_90 : decode cX4_envelope 90 = .ok (.invokevirtual 145, 3) := by decide +kernel
theorem dX4_envelope_93 : decode cX4_envelope 93 = .ok (.iastore, 1) := by decide +kernel
theorem dX4_envelope_94 : decode cX4_envelope 94 = .ok (.iload 6, 2) := by decide +kernel
theorem dX4_envelope_96 : decode cX4_envelope 96 = .ok (.aload_n 0, 1) := by decide +kernel
theorem dX4_envelope_97 : decode cX4_envelope 97 = .ok (.invokevirtual 156, 3) := by decide +kernel
theorem dX4_envelope_100 : decode cX4_envelope 100 = .ok (.aload_n 0, 1) := by decide +kernel
theorem dX4_envelope_101 : decode cX4_envelope 101 = .ok (.getfield 7, 3) := by decide +kernel
theorem dX4_envelope_104 : decode cX4_envelope 104 = .ok (.iconst 0, 1) := by decide +kernel
theorem dX4_envelope_105 : decode cX4_envelope 105 = .ok (.iaload, 1) := by decide +kernel
theorem dX4_envelope_106 : decode cX4_envelope 106 = .ok (.if_icmp .ne 7, 3) := by decide +kernel
theorem dX4_envelope_109 : decode cX4_envelope 109 = .ok (.iconst 1, 1) := by decide +kernel
theorem dX4_envelope_110 : decode cX4_envelope 110 = .ok (.goto 4, 3) := by decide +kernel
theorem dX4_envelope_113 : decode cX4_envelope 113 = .ok (.iconst 0, 1) := by decide +kernel
theorem dX4_envelope_114 : decode cX4_envelope 114 = .ok (.iadd, 1) := by decide +kernel
theorem dX4_envelope_115 : decode cX4_envelope 115 = .ok (.istore 6, 2) := by decide +kernel
theorem dX4_envelope_117 : decode cX4_envelope 117 = .ok (.iinc 7 1, 3) := by decide +kernel
theorem dX4_envelope_120 : decode cX4_envelope 120 = .ok (.goto (-70), 3) := by decide +kernel
theorem dX4_envelope_123 : decode cX4_envelope 123 = .ok (.iload 6, 2) := by decide +kernel
theorem dX4_envelope_125 : decode cX4_envelope 125 = .ok (.iload 4, 2) := by decide +kernel
theorem dX4_envelope_127 : decode cX4_envelope 127 = .ok (.if_icmp .le 8, 3) := by decide +kernel
theorem dX4_envelope_130 : decode cX4_envelope 130 = .ok (.iload 5, 2) := by decide +kernel
theorem dX4_envelope_132 : decode cX4_envelope 132 = .ok (.goto 4, 3) := by decide +kernel
theorem dX4_envelope_135 : decode cX4_envelope 135 = .ok (.iload_n 3, 1) := by decide +kernel
theorem dX4_envelope_136 : decode cX4_envelope 136 = .ok (.istore_n 3, 1) := by decide +kernel
theorem dX4_envelope_137 : decode cX4_envelope 137 = .ok (.iload 6, 2) := by decide +kernel
theorem dX4_envelope_139 : decode cX4_envelope 139 = .ok (.iload 4, 2) := by decide +kernel
theorem dX4_envelope_141 : decode cX4_envelope 141 = .ok (.if_icmp .le 8, 3) := by decide +kernel
theorem dX4_envelope_144 : decode cX4_envelope 144 = .ok (.iload 6, 2) := by decide +kernel
theorem dX4_envelope_146 : decode cX4_envelope 146 = .ok (.goto 5, 3) := by decide +kernel
theorem dX4_envelope_149 : decode cX4_envelope 149 = .ok (.iload 4, 2) := by decide +kernel
theorem dX4_envelope_151 : decode cX4_envelope 151 = .ok (.istore 4, 2) := by decide +kernel
theorem dX4_envelope_153 : decode cX4_envelope 153 = .ok (.iinc 5 1, 3) := by decide +kernel
theorem dX4_envelope_156 : decode cX4_envelope 156 = .ok (.goto (-124), 3) := by decide +kernel
theorem dX4_envelope_159 : decode cX4_envelope 159 = .ok (.iload_n 3, 1) := by decide +kernel
theorem dX4_envelope_160 : decode cX4_envelope 160 = .ok (.ifCond .lt 7, 3) := by decide +kernel
theorem dX4_envelope_163 : decode cX4_envelope 163 = .ok (.iload_n 2, 1) := by decide +kernel
theorem dX4_envelope_164 : decode cX4_envelope 164 = .ok (.ifCond .ne 7, 3) := by decide +kernel
theorem dX4_envelope_167 : decode cX4_envelope 167 = .ok (.iload_n 3, 1) := by decide +kernel
theorem dX4_envelope_168 : decode cX4_envelope 168 = .ok (.goto 5, 3) := by decide +kernel
theorem dX4_envelope_171 : decode cX4_envelope 171 = .ok (.iload 4, 2) := by decide +kernel
theorem dX4_envelope_173 : decode cX4_envelope 173 = .ok (.ireturn, 1) := by decide +kernel
theorem dX4_days_0 : decode cX4_days 0 = .ok (.iload_n 1, 1) := by decide +kernel
theorem dX4_days_1 : decode cX4_days 1 = .ok (.i2l, 1) := by decide +kernel
theorem dX4_days_2 : decode cX4_days 2 = .ok (.lconst 0, 1) := by decide +kernel
theorem dX4_days_3 : decode cX4_days 3 = .ok (.ldc2_w 184, 3) := by decide +kernel
theorem dX4_days_6 : decode cX4_days 6 = .ok (.invokestatic 52, 3) := by decide +kernel
theorem dX4_days_9 : decode cX4_days 9 = .ok (.ifCond .eq 27, 3) := by decide +kernel
theorem dX4_days_12 : decode cX4_days 12 = .ok (.iload_n 2, 1) := by decide +kernel
theorem dX4_days_13 : decode cX4_days 13 = .ok (.i2l, 1) := by decide +kernel
theorem dX4_days_14 : decode cX4_days 14 = .ok (.lconst 0, 1) := by decide +kernel
theorem dX4_days_15 : decode cX4_days 15 = .ok (.ldc2_w 241, 3) := by decide +kernel
theorem dX4_days_18 : decode cX4_days 18 = .ok (.invokestatic 52, 3) := by decide +kernel
theorem dX4_days_21 : decode cX4_days 21 = .ok (.ifCond .eq 15, 3) := by decide +kernel
theorem dX4_days_24 : decode cX4_days 24 = .ok (.iload_n 3, 1) := by decide +kernel
theorem dX4_days_25 : decode cX4_days 25 = .ok (.i2l, 1) := by decide +kernel
theorem dX4_days_26 : decode cX4_days 26 = .ok (.lconst 0, 1) := by decide +kernel
theorem dX4_days_27 : decode cX4_days 27 = .ok (.ldc2_w 243, 3) := by decide +kernel
theorem dX4_days_30 : decode cX4_days 30 = .ok (.invokestatic 52, 3) := by decide +kernel
theorem dX4_days_33 : decode cX4_days 33 = .ok (.ifCond .ne 8, 3) := by decide +kernel
theorem dX4_days_36 : decode cX4_days 36 = .ok (.aload_n 0, 1) := by decide +kernel
theorem dX4_days_37 : decode cX4_days 37 = .ok (.invokevirtual 64, 3) := by decide +kernel
theorem dX4_days_40 : decode cX4_days 40 = .ok (.ireturn, 1) := by decide +kernel
theorem dX4_days_41 : decode cX4_days 41 = .ok (.aload_n 0, 1) := by decide +kernel
theorem dX4_days_42 : decode cX4_days 42 = .ok (.getfield 7, 3) := by decide +kernel
theorem dX4_days_45 : decode cX4_days 45 = .ok (.iconst 5, 1) := by decide +kernel
theorem dX4_days_46 : decode cX4_days 46 = .ok (.iaload, 1) := by decide +kernel
theorem dX4_days_47 : decode cX4_days 47 = .ok (.istore 4, 2) := by decide +kernel
theorem dX4_days_49 : decode cX4_days 49 = .ok (.aload_n 0, 1) := by decide +kernel
theorem dX4_days_50 : decode cX4_days 50 = .ok (.getfield 7, 3) := by decide +kernel
theorem dX4_days_53 : decode cX4_days 53 = .ok (.bipush 6, 2) := by decide +kernel
theorem dX4_days_55 : decode cX4_days 55 = .ok (.iaload, 1) := by decide +kernel
theorem dX4_days_56 : decode cX4_days 56 = .ok (.istore 5, 2) := by decide +kernel
theorem dX4_days_58 : decode cX4_days 58 = .ok (.aload_n 0, 1) := by decide +kernel
theorem dX4_days_59 : decode cX4_days 59 = .ok (.getfield 7, 3) := by decide +kernel
theorem dX4_days_62 : decode cX4_days 62 = .ok (.bipush 7, 2) := by decide +kernel
theorem dX4_days_64 : decode cX4_days 64 = .ok (.iaload, 1) := by decide +kernel
theorem dX4_days_65 : decode cX4_days 65 = .ok (.istore 6, 2) := by decide +kernel
theorem dX4_days_67 : decode cX4_days 67 = .ok (.aload_n 0, 1) := by decide +kernel
theorem dX4_days_68 : decode cX4_days 68 = .ok (.iload_n 1, 1) := by decide +kernel
theorem dX4_days_69 : decode cX4_days 69 = .ok (.i2l, 1) := by decide +kernel
theorem dX4_days_70 : decode cX4_days 70 = .ok (.putfield 173, 3) := by decide +kernel
theorem dX4_days_73 : decode cX4_days 73 = .ok (.iconst 0, 1) := by decide +kernel
theorem dX4_days_74 : decode cX4_days 74 = .ok (.istore 7, 2) := by decide +kernel
theorem dX4_days_76 : decode cX4_days 76 = .ok (.iconst 0, 1) := by decide +kernel
theorem dX4_days_77 : decode cX4_days 77 = .ok (.istore 8, 2) := by decide +kernel
theorem dX4_days_79 : decode cX4_days 79 = .ok (.iload 8, 2) := by decide +kernel
theorem dX4_days_81 : decode cX4_days 81 = .ok (.iload_n 2, 1) := by decide +kernel
theorem dX4_days_82 : decode cX4_days 82 = .ok (.if_icmp .ge 76, 3) := by decide +kernel
theorem dX4_days_85 : decode cX4_days 85 = .ok (.iconst 0, 1) := by decide +kernel
theorem dX4_days_86 : decode cX4_days 86 = .ok (.istore 9, 2) := by decide +kernel
theorem dX4_days_88 : decode cX4_days 88 = .ok (.iconst 0, 1) := by decide +kernel
theorem dX4_days_89 : decode cX4_days 89 = .ok (.istore 10, 2) := by decide +kernel
theorem dX4_days_91 : decode cX4_days 91 = .ok (.iload 10, 2) := by decide +kernel
theorem dX4_days_93 : decode cX4_days 93 = .ok (.aload_n 0, 1) := by decide +kernel
theorem dX4_days_94 : decode cX4_days 94 = .ok (.getfield 7, 3) := by decide +kernel
theorem dX4_days_97 : decode cX4_days 97 = .ok (.bipush 8, 2) := by decide +kernel
theorem dX4_days_99 : decode cX4_days 99 = .ok (.iaload, 1) := by decide +kernel
theorem dX4_days_100 : decode cX4_days 100 = .ok (.if_icmp .ge 32, 3) := by decide +kernel
theorem dX4_days_103 : decode cX4_days 103 = .ok (.iload 9, 2) := by decide +kernel
theorem dX4_days_105 : decode cX4_days 105 = .ok (.aload_n 0, 1) := by decide +kernel
theorem dX4_days_106 : decode cX4_days 106 = .ok (.bipush 100, 2) := by decide +kernel
theorem dX4_days_108 : decode cX4_days 108 = .ok (.invokevirtual 186, 3) := by decide +kernel
theorem dX4_days_111 : decode cX4_days 111 = .ok (.iload_n 3, 1) := by decide +kernel
theorem dX4_days_112 : decode cX4_days 112 = .ok (.if_icmp .ge 10, 3) := by decide +kernel
theorem dX4_days_115 : decode cX4_days 115 = .ok (.iconst 1, 1) := by decide +kernel
theorem dX4_days_116 : decode cX4_days 116 = .ok (.iload 10, 2) := by decide +kernel
theorem dX4_days_118 : decode cX4_days 118 = .ok (.ishl, 1) := by decide +kernel
theorem dX4_days_119 : decode cX4_days 119 = .ok (.goto 4, 3) := by decide +kernel
theorem dX4_days_122 : decode cX4_days 122 = .ok (.iconst 0, 1) := by decide +kernel
theorem dX4_days_123 : decode cX4_days 123 = .ok (.ior, 1) := by decide +kernel
theorem dX4_days_124 : decode cX4_days 124 = .ok (.istore 9, 2) := by decide +kernel
theorem dX4_days_126 : decode cX4_days 126 = .ok (.iinc 10 1, 3) := by decide +kernel
theorem dX4_days_129 : decode cX4_days 129 = .ok (.goto (-38), 3) := by decide +kernel
theorem dX4_days_132 : decode cX4_days 132 = .ok (.iload 7, 2) := by decide +kernel
theorem dX4_days_134 : decode cX4_days 134 = .ok (.aload_n 0, 1) := by decide +kernel
theorem dX4_days_135 : decode cX4_days 135 = .ok (.iload 9, 2) := by decide +kernel
theorem dX4_days_137 : decode cX4_days 137 = .ok (.invokevirtual 170, 3) := by decide +kernel
theorem dX4_days_140 : decode cX4_days 140 = .ok (.iconst 1, 1) := by decide +kernel
theorem dX4_days_141 : decode cX4_days 141 = .ok (.if_icmp .ne 7, 3) := by decide +kernel
theorem dX4_days_144 : decode cX4_days 144 = .ok (.iconst 1, 1) := by decide +kernel
theorem dX4_days_145 : decode cX4_days 145 = .ok (.goto 4, 3) := by decide +kernel
theorem dX4_days_148 : decode cX4_days 148 = .ok (.iconst 0, 1) := by decide +kernel
theorem dX4_days_149 : decode cX4_days 149 = .ok (.iadd, 1) := by decide +kernel
theorem dX4_days_150 : decode cX4_days 150 = .ok (.istore 7, 2) := by decide +kernel
theorem dX4_days_152 : decode cX4_days 152 = .ok (.iinc 8 1, 3) := by decide +kernel
theorem dX4_days_155 : decode cX4_days 155 = .ok (.goto (-76), 3) := by decide +kernel
theorem dX4_days_158 : decode cX4_days 158 = .ok (.aload_n 0, 1) := by decide +kernel
theorem dX4_days_159 : decode cX4_days 159 = .ok (.getfield 7, 3) := by decide +kernel
theorem dX4_days_162 : decode cX4_days 162 = .ok (.iconst 5, 1) := by decide +kernel
theorem dX4_days_163 : decode cX4_days 163 = .ok (.iload 4, 2) := by decide +kernel
theorem dX4_days_165 : decode cX4_days 165 = .ok (.iastore, 1) := by decide +kernel
theorem dX4_days_166 : decode cX4_days 166 = .ok (.aload_n 0, 1) := by decide +kernel
theorem dX4_days_167 : decode cX4_days 167 = .ok (.getfield 7, 3) := by decide +kernel
theorem dX4_days_170 : decode cX4_days 170 = .ok (.bipush 6, 2) := by decide +kernel
theorem dX4_days_172 : decode cX4_days 172 = .ok (.iload 5, 2) := by decide +kernel
theorem dX4_days_174 : decode cX4_days 174 = .ok (.iastore, 1) := by decide +kernel
theorem dX4_days_175 : decode cX4_days 175 = .ok (.aload_n 0, 1) := by decide +kernel
theorem dX4_days_176 : decode cX4_days 176 = .ok (.getfield 7, 3) := by decide +kernel
theorem dX4_days_179 : decode cX4_days 179 = .ok (.bipush 7, 2) := by decide +kernel
theorem dX4_days_181 : decode cX4_days 181 = .ok (.iload 6, 2) := by decide +kernel
theorem dX4_days_183 : decode cX4_days 183 = .ok (.iastore, 1) := by decide +kernel
theorem dX4_days_184 : decode cX4_days 184 = .ok (.iload 7, 2) := by decide +kernel
theorem dX4_days_186 : decode cX4_days 186 = .ok (.ireturn, 1) := by decide +kernel
theorem dX4_part_0 : decode cX4_part 0 = .ok (.iload_n 1, 1) := by decide +kernel
theorem dX4_part_1 : decode cX4_part 1 = .ok (.ifCond .ne 10, 3) := by decide +kernel
theorem dX4_part_4 : decode cX4_part 4 = .ok (.aload_n 0, 1) := by decide +kernel
theorem dX4_part_5 : decode cX4_part 5 = .ok (.getfield 223, 3) := by decide +kernel
theorem dX4_part_8 : decode cX4_part 8 = .ok (.goto 20, 3) := by decide +kernel
theorem dX4_part_11 : decode cX4_part 11 = .ok (.iload_n 1, 1) := by decide +kernel
theorem dX4_part_12 : decode cX4_part 12 = .ok (.iconst 1, 1) := by decide +kernel
theorem dX4_part_13 : decode cX4_part 13 = .ok (.if_icmp .ne 10, 3) := by decide +kernel
theorem dX4_part_16 : decode cX4_part 16 = .ok (.aload_n 0, 1) := by decide +kernel
theorem dX4_part_17 : decode cX4_part 17 = .ok (.getfield 13, 3) := by decide +kernel
theorem dX4_part_20 : decode cX4_part 20 = .ok (.goto 8, 3) := by decide +kernel
theorem dX4_part_23 : decode cX4_part 23 = .ok (.aload_n 0, 1) := by decide +kernel
theorem dX4_part_24 : decode cX4_part 24 = .ok (.invokevirtual 64, 3) := by decide +kernel
theorem dX4_part_27 : decode cX4_part 27 = .ok (.i2l, 1) := by decide +kernel
theorem dX4_part_28 : decode cX4_part 28 = .ok (.lreturn, 1) := by decide +kernel
theorem dX4_image_0 : decode cX4_image 0 = .ok (.iload_n 1, 1) := by decide +kernel
theorem dX4_image_1 : decode cX4_image 1 = .ok (.invokestatic 217, 3) := by decide +kernel
theorem dX4_image_4 : decode cX4_image 4 = .ok (.ifCond .ne 8, 3) := by decide +kernel
theorem dX4_image_7 : decode cX4_image 7 = .ok (.aload_n 0, 1) := by decide +kernel
theorem dX4_image_8 : decode cX4_image 8 = .ok (.invokevirtual 64, 3) := by decide +kernel
theorem dX4_image_11 : decode cX4_image 11 = .ok (.ireturn, 1) := by decide +kernel
theorem dX4_image_12 : decode cX4_image 12 = .ok (.iconst 0, 1) := by decide +kernel
theorem dX4_image_13 : decode cX4_image 13 = .ok (.istore_n 2, 1) := by decide +kernel
theorem dX4_image_14 : decode cX4_image 14 = .ok (.iload_n 2, 1) := by decide +kernel
theorem dX4_image_15 : decode cX4_image 15 = .ok (.bipush 27, 2) := by decide +kernel
theorem dX4_image_17 : decode cX4_image 17 = .ok (.if_icmp .ge 26, 3) := by decide +kernel
theorem dX4_image_20 : decode cX4_image 20 = .ok (.aload_n 0, 1) := by decide +kernel
theorem dX4_image_21 : decode cX4_image 21 = .ok (.getfield 39, 3) := by decide +kernel
theorem dX4_image_24 : decode cX4_image 24 = .ok (.bipush 27, 2) := by decide +kernel
theorem dX4_image_26 : decode cX4_image 26 = .ok (.iload_n 1, 1) := by decide +kernel
theorem dX4_image_27 : decode cX4_image 27 = .ok (.imul, 1) := by decide +kernel
theorem dX4_image_28 : decode cX4_image 28 = .ok (.iload_n 2, 1) := by decide +kernel
theorem dX4_image_29 : decode cX4_image 29 = .ok (.iadd, 1) := by decide +kernel
theorem dX4_image_30 : decode cX4_image 30 = .ok (.aload_n 0, 1) := by decide +kernel
theorem dX4_image_31 : decode cX4_image 31 = .ok (.getfield 7, 3) := by decide +kernel
theorem dX4_image_34 : decode cX4_image 34 = .ok (.iload_n 2, 1) := by decide +kernel
theorem dX4_image_35 : decode cX4_image 35 = .ok (.iaload, 1) := by decide +kernel
theorem dX4_image_36 : decode cX4_image 36 = .ok (.iastore, 1) := by decide +kernel
theorem dX4_image_37 : decode cX4_image 37 = .ok (.iinc 2 1, 3) := by decide +kernel
theorem dX4_image_40 : decode cX4_image 40 = .ok (.goto (-26), 3) := by decide +kernel
theorem dX4_image_43 : decode cX4_image 43 = .ok (.iconst 0, 1) := by decide +kernel
theorem dX4_image_44 : decode cX4_image 44 = .ok (.istore_n 2, 1) := by decide +kernel
theorem dX4_image_45 : decode cX4_image 45 = .ok (.iload_n 2, 1) := by decide +kernel
theorem dX4_image_46 : decode cX4_image 46 = .ok (.bipush 48, 2) := by decide +kernel
theorem dX4_image_48 : decode cX4_image 48 = .ok (.if_icmp .ge 26, 3) := by decide +kernel
theorem dX4_image_51 : decode cX4_image 51 = .ok (.aload_n 0, 1) := by decide +kernel
theorem dX4_image_52 : decode cX4_image 52 = .ok (.getfield 42, 3) := by decide +kernel
theorem dX4_image_55 : decode cX4_image 55 = .ok (.bipush 48, 2) := by decide +kernel
theorem dX4_image_57 : decode cX4_image 57 = .ok (.iload_n 1, 1) := by decide +kernel
theorem dX4_image_58 : decode cX4_image 58 = .ok (.imul, 1) := by decide +kernel
theorem dX4_image_59 : decode cX4_image 59 = .ok (.iload_n 2, 1) := by decide +kernel
theorem dX4_image_60 : decode cX4_image 60 = .ok (.iadd, 1) := by decide +kernel
theorem dX4_image_61 : decode cX4_image 61 = .ok (.aload_n 0, 1) := by decide +kernel
theorem dX4_image_62 : decode cX4_image 62 = .ok (.getfield 32, 3) := by decide +kernel
theorem dX4_image_65 : decode cX4_image 65 = .ok (.iload_n 2, 1) := by decide +kernel
theorem dX4_image_66 : decode cX4_image 66 = .ok (.iaload, 1) := by decide +kernel
theorem dX4_image_67 : decode cX4_image 67 = .ok (.iastore, 1) := by decide +kernel
theorem dX4_image_68 : decode cX4_image 68 = .ok (.iinc 2 1, 3) := by decide +kernel
theorem dX4_image_71 : decode cX4_image 71 = .ok (.goto (-26), 3) := by decide +kernel
theorem dX4_image_74 : decode cX4_image 74 = .ok (.aload_n 0, 1) := by decide +kernel
theorem dX4_image_75 : decode cX4_image 75 = .ok (.getfield 45, 3) := by decide +kernel
theorem dX4_image_78 : decode cX4_image 78 = .ok (.iload_n 1, 1) := by decide +kernel
theorem dX4_image_79 : decode cX4_image 79 = .ok (.aload_n 0, 1) := by decide +kernel
theorem dX4_image_80 : decode cX4_image 80 = .ok (.getfield 56, 3) := by decide +kernel
theorem dX4_image_83 : decode cX4_image 83 = .ok (.iastore, 1) := by decide +kernel
theorem dX4_image_84 : decode cX4_image 84 = .ok (.aload_n 0, 1) := by decide +kernel
theorem dX4_image_85 : decode cX4_image 85 = .ok (.getfield 35, 3) := by decide +kernel
theorem dX4_image_88 : decode cX4_image 88 = .ok (.iload_n 1, 1) := by decide +kernel
theorem dX4_image_89 : decode cX4_image 89 = .ok (.iconst 1, 1) := by decide +kernel
theorem dX4_image_90 : decode cX4_image 90 = .ok (.bastore, 1) := by decide +kernel
theorem dX4_image_91 : decode cX4_image 91 = .ok (.iconst 1, 1) := by decide +kernel
theorem dX4_image_92 : decode cX4_image 92 = .ok (.ireturn, 1) := by decide +kernel
theorem dX4_from_0 : decode cX4_from 0 = .ok (.iload_n 1, 1) := by decide +kernel
theorem dX4_from_1 : decode cX4_from 1 = .ok (.invokestatic 217, 3) := by decide +kernel
theorem dX4_from_4 : decode cX4_from 4 = .ok (.ifCond .ne 8, 3) := by decide +kernel
theorem dX4_from_7 : decode cX4_from 7 = .ok (.aload_n 0, 1) := by decide +kernel
theorem dX4_from_8 : decode cX4_from 8 = .ok (.invokevirtual 64, 3) := by decide +kernel
theorem dX4_from_11 : decode cX4_from 11 = .ok (.ireturn, 1) := by decide +kernel
theorem dX4_from_12 : decode cX4_from 12 = .ok (.aload_n 0, 1) := by decide +kernel
theorem dX4_from_13 : decode cX4_from 13 = .ok (.getfield 35, 3) := by decide +kernel
theorem dX4_from_16 : decode cX4_from 16 = .ok (.iload_n 1, 1) := by decide +kernel
theorem dX4_from_17 : decode cX4_from 17 = .ok (.baload, 1) := by decide +kernel
theorem dX4_from_18 : decode cX4_from 18 = .ok (.ifCond .ne 8, 3) := by decide +kernel
theorem dX4_from_21 : decode cX4_from 21 = .ok (.aload_n 0, 1) := by decide +kernel
theorem dX4_from_22 : decode cX4_from 22 = .ok (.invokevirtual 189, 3) := by decide +kernel
theorem dX4_from_25 : decode cX4_from 25 = .ok (.ireturn, 1) := by decide +kernel
theorem dX4_from_26 : decode cX4_from 26 = .ok (.iconst 0, 1) := by decide +kernel
theorem dX4_from_27 : decode cX4_from 27 = .ok (.istore_n 2, 1) := by decide +kernel
theorem dX4_from_28 : decode cX4_from 28 = .ok (.iload_n 2, 1) := by decide +kernel
theorem dX4_from_29 : decode cX4_from 29 = .ok (.bipush 27, 2) := by decide +kernel
theorem dX4_from_31 : decode cX4_from 31 = .ok (.if_icmp .ge 26, 3) := by decide +kernel
theorem dX4_from_34 : decode cX4_from 34 = .ok (.aload_n 0, 1) := by decide +kernel
theorem dX4_from_35 : decode cX4_from 35 = .ok (.getfield 7, 3) := by decide +kernel
theorem dX4_from_38 : decode cX4_from 38 = .ok (.iload_n 2, 1) := by decide +kernel
theorem dX4_from_39 : decode cX4_from 39 = .ok (.aload_n 0, 1) := by decide +kernel
theorem dX4_from_40 : decode cX4_from 40 = .ok (.getfield 39, 3) := by decide +kernel
theorem dX4_from_43 : decode cX4_from 43 = .ok (.bipush 27, 2) := by decide +kernel
theorem dX4_from_45 : decode cX4_from 45 = .ok (.iload_n 1, 1) := by decide +kernel
theorem dX4_from_46 : decode cX4_from 46 = .ok (.imul, 1) := by decide +kernel
theorem dX4_from_47 : decode cX4_from 47 = .ok (.iload_n 2, 1) := by decide +kernel
theorem dX4_from_48 : decode cX4_from 48 = .ok (.iadd, 1) := by decide +kernel
theorem dX4_from_49 : decode cX4_from 49 = .ok (.iaload, 1) := by decide +kernel
theorem dX4_from_50 : decode cX4_from 50 = .ok (.iastore, 1) := by decide +kernel
theorem dX4_from_51 : decode cX4_from 51 = .ok (.iinc 2 1, 3) := by decide +kernel
theorem dX4_from_54 : decode cX4_from 54 = .ok (.goto (-26), 3) := by decide +kernel
theorem dX4_from_57 : decode cX4_from 57 = .ok (.iconst 0, 1) := by decide +kernel
theorem dX4_from_58 : decode cX4_from 58 = .ok (.istore_n 2, 1) := by decide +kernel
theorem dX4_from_59 : decode cX4_from 59 = .ok (.iload_n 2, 1) := by decide +kernel
theorem dX4_from_60 : decode cX4_from 60 = .ok (.bipush 48, 2) := by decide +kernel
theorem dX4_from_62 : decode cX4_from 62 = .ok (.if_icmp .ge 26, 3) := by decide +kernel
theorem dX4_from_65 : decode cX4_from 65 = .ok (.aload_n 0, 1) := by decide +kernel
theorem dX4_from_66 : decode cX4_from 66 = .ok (.getfield 32, 3) := by decide +kernel
theorem dX4_from_69 : decode cX4_from 69 = .ok (.iload_n 2, 1) := by decide +kernel
theorem dX4_from_70 : decode cX4_from 70 = .ok (.aload_n 0, 1) := by decide +kernel
theorem dX4_from_71 : decode cX4_from 71 = .ok (.getfield 42, 3) := by decide +kernel
theorem dX4_from_74 : decode cX4_from 74 = .ok (.bipush 48, 2) := by decide +kernel
theorem dX4_from_76 : decode cX4_from 76 = .ok (.iload_n 1, 1) := by decide +kernel
theorem dX4_from_77 : decode cX4_from 77 = .ok (.imul, 1) := by decide +kernel
theorem dX4_from_78 : decode cX4_from 78 = .ok (.iload_n 2, 1) := by decide +kernel
theorem dX4_from_79 : decode cX4_from 79 = .ok (.iadd, 1) := by decide +kernel
theorem dX4_from_80 : decode cX4_from 80 = .ok (.iaload, 1) := by decide +kernel
theorem dX4_from_81 : decode cX4_from 81 = .ok (.iastore, 1) := by decide +kernel
theorem dX4_from_82 : decode cX4_from 82 = .ok (.iinc 2 1, 3) := by decide +kernel
theorem dX4_from_85 : decode cX4_from 85 = .ok (.goto (-26), 3) := by decide +kernel
theorem dX4_from_88 : decode cX4_from 88 = .ok (.aload_n 0, 1) := by decide +kernel
theorem dX4_from_89 : decode cX4_from 89 = .ok (.aload_n 0, 1) := by decide +kernel
theorem dX4_from_90 : decode cX4_from 90 = .ok (.getfield 45, 3) := by decide +kernel
theorem dX4_from_93 : decode cX4_from 93 = .ok (.iload_n 1, 1) := by decide +kernel
theorem dX4_from_94 : decode cX4_from 94 = .ok (.iaload, 1) := by decide +kernel
theorem dX4_from_95 : decode cX4_from 95 = .ok (.putfield 56, 3) := by decide +kernel
theorem dX4_from_98 : decode cX4_from 98 = .ok (.iconst 1, 1) := by decide +kernel
theorem dX4_from_99 : decode cX4_from 99 = .ok (.ireturn, 1) := by decide +kernel
theorem dX4_status_0 : decode cX4_status 0 = .ok (.iload_n 1, 1) := by decide +kernel
theorem dX4_status_1 : decode cX4_status 1 = .ok (.i2l, 1) := by decide +kernel
theorem dX4_status_2 : decode cX4_status 2 = .ok (.lconst 0, 1) := by decide +kernel
theorem dX4_status_3 : decode cX4_status 3 = .ok (.ldc2_w 195, 3) := by decide +kernel
theorem dX4_status_6 : decode cX4_status 6 = .ok (.invokestatic 52, 3) := by decide +kernel
theorem dX4_status_9 : decode cX4_status 9 = .ok (.ifCond .ne 10, 3) := by decide +kernel
theorem dX4_status_12 : decode cX4_status 12 = .ok (.aload_n 0, 1) := by decide +kernel
theorem dX4_status_13 : decode cX4_status 13 = .ok (.invokevirtual 64, 3) := by decide +kernel
theorem dX4_status_16 : decode cX4_status 16 = .ok (.pop, 1) := by decide +kernel
theorem dX4_status_17 : decode cX4_status 17 = .ok (.iconst (-1), 1) := by decide +kernel
theorem dX4_status_18 : decode cX4_status 18 = .ok (.ireturn, 1) := by decide +kernel
theorem dX4_status_19 : decode cX4_status 19 = .ok (.aload_n 0, 1) := by decide +kernel
theorem dX4_status_20 : decode cX4_status 20 = .ok (.getfield 17, 3) := by decide +kernel
theorem dX4_status_23 : decode cX4_status 23 = .ok (.iload_n 1, 1) := by decide +kernel
theorem dX4_status_24 : decode cX4_status 24 = .ok (.iaload, 1) := by decide +kernel
theorem dX4_status_25 : decode cX4_status 25 = .ok (.ireturn, 1) := by decide +kernel
theorem dX4_countOf_0 : decode cX4_countOf 0 = .ok (.iload_n 1, 1) := by decide +kernel
theorem dX4_countOf_1 : decode cX4_countOf 1 = .ok (.tableswitch 91 0 6 #[43, 51, 58, 65, 73, 81, 86], 43) := by decide +kernel
theorem dX4_countOf_44 : decode cX4_countOf 44 = .ok (.aload_n 0, 1) := by decide +kernel
theorem dX4_countOf_45 : decode cX4_countOf 45 = .ok (.getfield 7, 3) := by decide +kernel
theorem dX4_countOf_48 : decode cX4_countOf 48 = .ok (.bipush 8, 2) := by decide +kernel
theorem dX4_countOf_50 : decode cX4_countOf 50 = .ok (.iaload, 1) := by decide +kernel
theorem dX4_countOf_51 : decode cX4_countOf 51 = .ok (.ireturn, 1) := by decide +kernel
theorem dX4_countOf_52 : decode cX4_countOf 52 = .ok (.aload_n 0, 1) := by decide +kernel
theorem dX4_countOf_53 : decode cX4_countOf 53 = .ok (.getfield 7, 3) := by decide +kernel
theorem dX4_countOf_56 : decode cX4_countOf 56 = .ok (.iconst 1, 1) := by decide +kernel
theorem dX4_countOf_57 : decode cX4_countOf 57 = .ok (.iaload, 1) := by decide +kernel
theorem dX4_countOf_58 : decode cX4_countOf 58 = .ok (.ireturn, 1) := by decide +kernel
theorem dX4_countOf_59 : decode cX4_countOf 59 = .ok (.aload_n 0, 1) := by decide +kernel
theorem dX4_countOf_60 : decode cX4_countOf 60 = .ok (.getfield 7, 3) := by decide +kernel
theorem dX4_countOf_63 : decode cX4_countOf 63 = .ok (.iconst 5, 1) := by decide +kernel
theorem dX4_countOf_64 : decode cX4_countOf 64 = .ok (.iaload, 1) := by decide +kernel
theorem dX4_countOf_65 : decode cX4_countOf 65 = .ok (.ireturn, 1) := by decide +kernel
theorem dX4_countOf_66 : decode cX4_countOf 66 = .ok (.aload_n 0, 1) := by decide +kernel
theorem dX4_countOf_67 : decode cX4_countOf 67 = .ok (.getfield 7, 3) := by decide +kernel
theorem dX4_countOf_70 : decode cX4_countOf 70 = .ok (.bipush 6, 2) := by decide +kernel
theorem dX4_countOf_72 : decode cX4_countOf 72 = .ok (.iaload, 1) := by decide +kernel
theorem dX4_countOf_73 : decode cX4_countOf 73 = .ok (.ireturn, 1) := by decide +kernel
theorem dX4_countOf_74 : decode cX4_countOf 74 = .ok (.aload_n 0, 1) := by decide +kernel
theorem dX4_countOf_75 : decode cX4_countOf 75 = .ok (.getfield 7, 3) := by decide +kernel
theorem dX4_countOf_78 : decode cX4_countOf 78 = .ok (.bipush 7, 2) := by decide +kernel
theorem dX4_countOf_80 : decode cX4_countOf 80 = .ok (.iaload, 1) := by decide +kernel
theorem dX4_countOf_81 : decode cX4_countOf 81 = .ok (.ireturn, 1) := by decide +kernel
theorem dX4_countOf_82 : decode cX4_countOf 82 = .ok (.aload_n 0, 1) := by decide +kernel
theorem dX4_countOf_83 : decode cX4_countOf 83 = .ok (.invokevirtual 203, 3) := by decide +kernel
theorem dX4_countOf_86 : decode cX4_countOf 86 = .ok (.ireturn, 1) := by decide +kernel
theorem dX4_countOf_87 : decode cX4_countOf 87 = .ok (.aload_n 0, 1) := by decide +kernel
theorem dX4_countOf_88 : decode cX4_countOf 88 = .ok (.getfield 56, 3) := by decide +kernel
theorem dX4_countOf_91 : decode cX4_countOf 91 = .ok (.ireturn, 1) := by decide +kernel
theorem dX4_countOf_92 : decode cX4_countOf 92 = .ok (.aload_n 0, 1) := by decide +kernel
theorem dX4_countOf_93 : decode cX4_countOf 93 = .ok (.getfield 80, 3) := by decide +kernel
theorem dX4_countOf_96 : decode cX4_countOf 96 = .ok (.ireturn, 1) := by decide +kernel
theorem dX4_count_0 : decode cX4_count 0 = .ok (.iload_n 1, 1) := by decide +kernel
theorem dX4_count_1 : decode cX4_count 1 = .ok (.i2l, 1) := by decide +kernel
theorem dX4_count_2 : decode cX4_count 2 = .ok (.lconst 0, 1) := by decide +kernel
theorem dX4_count_3 : decode cX4_count 3 = .ok (.ldc2_w 245, 3) := by decide +kernel
theorem dX4_count_6 : decode cX4_count 6 = .ok (.invokestatic 52, 3) := by decide +kernel
theorem dX4_count_9 : decode cX4_count 9 = .ok (.ifCond .eq 11, 3) := by decide +kernel
theorem dX4_count_12 : decode cX4_count 12 = .ok (.aload_n 0, 1) := by decide +kernel
theorem dX4_count_13 : decode cX4_count 13 = .ok (.iload_n 1, 1) := by decide +kernel
theorem dX4_count_14 : decode cX4_count 14 = .ok (.invokevirtual 247, 3) := by decide +kernel
theorem dX4_count_17 : decode cX4_count 17 = .ok (.goto 7, 3) := by decide +kernel
theorem dX4_count_20 : decode cX4_count 20 = .ok (.aload_n 0, 1) := by decide +kernel
theorem dX4_count_21 : decode cX4_count 21 = .ok (.invokevirtual 64, 3) := by decide +kernel
theorem dX4_count_24 : decode cX4_count 24 = .ok (.ireturn, 1) := by decide +kernel
theorem dX4_digest_0 : decode cX4_digest 0 = .ok (.ldc2_w 250, 3) := by decide +kernel
theorem dX4_digest_3 : decode cX4_digest 3 = .ok (.lstore_n 1, 1) := by decide +kernel
theorem dX4_digest_4 : decode cX4_digest 4 = .ok (.iconst 0, 1) := by decide +kernel
theorem dX4_digest_5 : decode cX4_digest 5 = .ok (.istore_n 3, 1) := by decide +kernel
theorem dX4_digest_6 : decode cX4_digest 6 = .ok (.iload_n 3, 1) := by decide +kernel
theorem dX4_digest_7 : decode cX4_digest 7 = .ok (.bipush 8, 2) := by decide +kernel
theorem dX4_digest_9 : decode cX4_digest 9 = .ok (.if_icmp .ge 22, 3) := by decide +kernel
theorem dX4_digest_12 : decode cX4_digest 12 = .ok (.ldc2_w 252, 3) := by decide +kernel
theorem dX4_digest_15 : decode cX4_digest 15 = .ok (.lload_n 1, 1) := by decide +kernel
theorem dX4_digest_16 : decode cX4_digest 16 = .ok (.lmul, 1) := by decide +kernel
theorem dX4_digest_17 : decode cX4_digest 17 = .ok (.aload_n 0, 1) := by decide +kernel
theorem dX4_digest_18 : decode cX4_digest 18 = .ok (.iload_n 3, 1) := by decide +kernel
theorem dX4_digest_19 : decode cX4_digest 19 = .ok (.invokevirtual 247, 3) := by decide +kernel
theorem dX4_digest_22 : decode cX4_digest 22 = .ok (.i2l, 1) := by decide +kernel
theorem dX4_digest_23 : decode cX4_digest 23 = .ok (.ladd, 1) := by decide +kernel
theorem dX4_digest_24 : decode cX4_digest 24 = .ok (.lstore_n 1, 1) := by decide +kernel
theorem dX4_digest_25 : decode cX4_digest 25 = .ok (.iinc 3 1, 3) := by decide +kernel
theorem dX4_digest_28 : decode cX4_digest 28 = .ok (.goto (-22), 3) := by decide +kernel
theorem dX4_digest_31 : decode cX4_digest 31 = .ok (.ldc2_w 252, 3) := by decide +kernel
theorem dX4_digest_34 : decode cX4_digest 34 = .ok (.lload_n 1, 1) := by decide +kernel
theorem dX4_digest_35 : decode cX4_digest 35 = .ok (.lmul, 1) := by decide +kernel
theorem dX4_digest_36 : decode cX4_digest 36 = .ok (.aload_n 0, 1) := by decide +kernel
theorem dX4_digest_37 : decode cX4_digest 37 = .ok (.getfield 7, 3) := by decide +kernel
theorem dX4_digest_40 : decode cX4_digest 40 = .ok (.iconst 0, 1) := by decide +kernel
theorem dX4_digest_41 : decode cX4_digest 41 = .ok (.iaload, 1) := by decide +kernel
theorem dX4_digest_42 : decode cX4_digest 42 = .ok (.i2l, 1) := by decide +kernel
theorem dX4_digest_43 : decode cX4_digest 43 = .ok (.ladd, 1) := by decide +kernel
theorem dX4_digest_44 : decode cX4_digest 44 = .ok (.lstore_n 1, 1) := by decide +kernel
theorem dX4_digest_45 : decode cX4_digest 45 = .ok (.iconst 0, 1) := by decide +kernel
theorem dX4_digest_46 : decode cX4_digest 46 = .ok (.istore_n 3, 1) := by decide +kernel
theorem dX4_digest_47 : decode cX4_digest 47 = .ok (.iload_n 3, 1) := by decide +kernel
theorem dX4_digest_48 : decode cX4_digest 48 = .ok (.iconst 3, 1) := by decide +kernel
theorem dX4_digest_49 : decode cX4_digest 49 = .ok (.if_icmp .ge 25, 3) := by decide +kernel
theorem dX4_digest_52 : decode cX4_digest 52 = .ok (.ldc2_w 252, 3) := by decide +kernel
theorem dX4_digest_55 : decode cX4_digest 55 = .ok (.lload_n 1, 1) := by decide +kernel
theorem dX4_digest_56 : decode cX4_digest 56 = .ok (.lmul, 1) := by decide +kernel
theorem dX4_digest_57 : decode cX4_digest 57 = .ok (.aload_n 0, 1) := by decide +kernel
theorem dX4_digest_58 : decode cX4_digest 58 = .ok (.getfield 7, 3) := by decide +kernel
theorem dX4_digest_61 : decode cX4_digest 61 = .ok (.iconst 2, 1) := by decide +kernel
theorem dX4_digest_62 : decode cX4_digest 62 = .ok (.iload_n 3, 1) := by decide +kernel
theorem dX4_digest_63 : decode cX4_digest 63 = .ok (.iadd, 1) := by decide +kernel
theorem dX4_digest_64 : decode cX4_digest 64 = .ok (.iaload, 1) := by decide +kernel
theorem dX4_digest_65 : decode cX4_digest 65 = .ok (.i2l, 1) := by decide +kernel
theorem dX4_digest_66 : decode cX4_digest 66 = .ok (.ladd, 1) := by decide +kernel
theorem dX4_digest_67 : decode cX4_digest 67 = .ok (.lstore_n 1, 1) := by decide +kernel
theorem dX4_digest_68 : decode cX4_digest 68 = .ok (.iinc 3 1, 3) := by decide +kernel
theorem dX4_digest_71 : decode cX4_digest 71 = .ok (.goto (-24), 3) := by decide +kernel
theorem dX4_digest_74 : decode cX4_digest 74 = .ok (.iconst 0, 1) := by decide +kernel
theorem dX4_digest_75 : decode cX4_digest 75 = .ok (.istore_n 3, 1) := by decide +kernel
theorem dX4_digest_76 : decode cX4_digest 76 = .ok (.iload_n 3, 1) := by decide +kernel
theorem dX4_digest_77 : decode cX4_digest 77 = .ok (.aload_n 0, 1) := by decide +kernel
theorem dX4_digest_78 : decode cX4_digest 78 = .ok (.getfield 7, 3) := by decide +kernel
theorem dX4_digest_81 : decode cX4_digest 81 = .ok (.bipush 8, 2) := by decide +kernel
theorem dX4_digest_83 : decode cX4_digest 83 = .ok (.iaload, 1) := by decide +kernel
theorem dX4_digest_84 : decode cX4_digest 84 = .ok (.if_icmp .ge 43, 3) := by decide +kernel
theorem dX4_digest_87 : decode cX4_digest 87 = .ok (.ldc2_w 252, 3) := by decide +kernel
theorem dX4_digest_90 : decode cX4_digest 90 = .ok (.lload_n 1, 1) := by decide +kernel
theorem dX4_digest_91 : decode cX4_digest 91 = .ok (.lmul, 1) := by decide +kernel
theorem dX4_digest_92 : decode cX4_digest 92 = .ok (.aload_n 0, 1) := by decide +kernel
theorem dX4_digest_93 : decode cX4_digest 93 = .ok (.getfield 7, 3) := by decide +kernel
theorem dX4_digest_96 : decode cX4_digest 96 = .ok (.bipush 9, 2) := by decide +kernel
theorem dX4_digest_98 : decode cX4_digest 98 = .ok (.iload_n 3, 1) := by decide +kernel
theorem dX4_digest_99 : decode cX4_digest 99 = .ok (.iadd, 1) := by decide +kernel
theorem dX4_digest_100 : decode cX4_digest 100 = .ok (.iaload, 1) := by decide +kernel
theorem dX4_digest_101 : decode cX4_digest 101 = .ok (.i2l, 1) := by decide +kernel
theorem dX4_digest_102 : decode cX4_digest 102 = .ok (.ladd, 1) := by decide +kernel
theorem dX4_digest_103 : decode cX4_digest 103 = .ok (.lstore_n 1, 1) := by decide +kernel
theorem dX4_digest_104 : decode cX4_digest 104 = .ok (.ldc2_w 252, 3) := by decide +kernel
theorem dX4_digest_107 : decode cX4_digest 107 = .ok (.lload_n 1, 1) := by decide +kernel
theorem dX4_digest_108 : decode cX4_digest 108 = .ok (.lmul, 1) := by decide +kernel
theorem dX4_digest_109 : decode cX4_digest 109 = .ok (.aload_n 0, 1) := by decide +kernel
theorem dX4_digest_110 : decode cX4_digest 110 = .ok (.getfield 7, 3) := by decide +kernel
theorem dX4_digest_113 : decode cX4_digest 113 = .ok (.bipush 15, 2) := by decide +kernel
theorem dX4_digest_115 : decode cX4_digest 115 = .ok (.iload_n 3, 1) := by decide +kernel
theorem dX4_digest_116 : decode cX4_digest 116 = .ok (.iadd, 1) := by decide +kernel
theorem dX4_digest_117 : decode cX4_digest 117 = .ok (.iaload, 1) := by decide +kernel
theorem dX4_digest_118 : decode cX4_digest 118 = .ok (.i2l, 1) := by decide +kernel
theorem dX4_digest_119 : decode cX4_digest 119 = .ok (.ladd, 1) := by decide +kernel
theorem dX4_digest_120 : decode cX4_digest 120 = .ok (.lstore_n 1, 1) := by decide +kernel
theorem dX4_digest_121 : decode cX4_digest 121 = .ok (.iinc 3 1, 3) := by decide +kernel
theorem dX4_digest_124 : decode cX4_digest 124 = .ok (.goto (-48), 3) := by decide +kernel
theorem dX4_digest_127 : decode cX4_digest 127 = .ok (.iconst 0, 1) := by decide +kernel
theorem dX4_digest_128 : decode cX4_digest 128 = .ok (.istore_n 3, 1) := by decide +kernel
theorem dX4_digest_129 : decode cX4_digest 129 = .ok (.iload_n 3, 1) := by decide +kernel
theorem dX4_digest_130 : decode cX4_digest 130 = .ok (.bipush 6, 2) := by decide +kernel
theorem dX4_digest_132 : decode cX4_digest 132 = .ok (.if_icmp .ge 26, 3) := by decide +kernel
theorem dX4_digest_135 : decode cX4_digest 135 = .ok (.ldc2_w 252, 3) := by decide +kernel
theorem dX4_digest_138 : decode cX4_digest 138 = .ok (.lload_n 1, 1) := by decide +kernel
theorem dX4_digest_139 : decode cX4_digest 139 = .ok (.lmul, 1) := by decide +kernel
theorem dX4_digest_140 : decode cX4_digest 140 = .ok (.aload_n 0, 1) := by decide +kernel
theorem dX4_digest_141 : decode cX4_digest 141 = .ok (.getfield 7, 3) := by decide +kernel
theorem dX4_digest_144 : decode cX4_digest 144 = .ok (.bipush 21, 2) := by decide +kernel
theorem dX4_digest_146 : decode cX4_digest 146 = .ok (.iload_n 3, 1) := by decide +kernel
theorem dX4_digest_147 : decode cX4_digest 147 = .ok (.iadd, 1) := by decide +kernel
theorem dX4_digest_148 : decode cX4_digest 148 = .ok (.iaload, 1) := by decide +kernel
theorem dX4_digest_149 : decode cX4_digest 149 = .ok (.i2l, 1) := by decide +kernel
theorem dX4_digest_150 : decode cX4_digest 150 = .ok (.ladd, 1) := by decide +kernel
theorem dX4_digest_151 : decode cX4_digest 151 = .ok (.lstore_n 1, 1) := by decide +kernel
theorem dX4_digest_152 : decode cX4_digest 152 = .ok (.iinc 3 1, 3) := by decide +kernel
theorem dX4_digest_155 : decode cX4_digest 155 = .ok (.goto (-26), 3) := by decide +kernel
theorem dX4_digest_158 : decode cX4_digest 158 = .ok (.ldc2_w 252, 3) := by decide +kernel
theorem dX4_digest_161 : decode cX4_digest 161 = .ok (.lload_n 1, 1) := by decide +kernel
theorem dX4_digest_162 : decode cX4_digest 162 = .ok (.lmul, 1) := by decide +kernel
theorem dX4_digest_163 : decode cX4_digest 163 = .ok (.aload_n 0, 1) := by decide +kernel
theorem dX4_digest_164 : decode cX4_digest 164 = .ok (.getfield 223, 3) := by decide +kernel
theorem dX4_digest_167 : decode cX4_digest 167 = .ok (.ladd, 1) := by decide +kernel
theorem dX4_digest_168 : decode cX4_digest 168 = .ok (.lstore_n 1, 1) := by decide +kernel
theorem dX4_digest_169 : decode cX4_digest 169 = .ok (.ldc2_w 252, 3) := by decide +kernel
theorem dX4_digest_172 : decode cX4_digest 172 = .ok (.lload_n 1, 1) := by decide +kernel
theorem dX4_digest_173 : decode cX4_digest 173 = .ok (.lmul, 1) := by decide +kernel
theorem dX4_digest_174 : decode cX4_digest 174 = .ok (.aload_n 0, 1) := by decide +kernel
theorem dX4_digest_175 : decode cX4_digest 175 = .ok (.getfield 13, 3) := by decide +kernel
theorem dX4_digest_178 : decode cX4_digest 178 = .ok (.ladd, 1) := by decide +kernel
theorem dX4_digest_179 : decode cX4_digest 179 = .ok (.lreturn, 1) := by decide +kernel
theorem dJ6_bitCount_0f7a4_0 : decode cJ6_bitCount_0f7a4 0 = .ok (.iload_n 0, 1) := by decide +kernel
theorem dJ6_bitCount_0f7a4_1 : decode cJ6_bitCount_0f7a4 1 = .ok (.iload_n 0, 1) := by decide +kernel
theorem dJ6_bitCount_0f7a4_2 : decode cJ6_bitCount_0f7a4 2 = .ok (.iconst 1, 1) := by decide +kernel
theorem dJ6_bitCount_0f7a4_3 : decode cJ6_bitCount_0f7a4 3 = .ok (.iushr, 1) := by decide +kernel
theorem dJ6_bitCount_0f7a4_4 : decode cJ6_bitCount_0f7a4 4 = .ok (.ldc_w 265, 3) := by decide +kernel
theorem dJ6_bitCount_0f7a4_7 : decode cJ6_bitCount_0f7a4 7 = .ok (.iand, 1) := by decide +kernel
theorem dJ6_bitCount_0f7a4_8 : decode cJ6_bitCount_0f7a4 8 = .ok (.isub, 1) := by decide +kernel
theorem dJ6_bitCount_0f7a4_9 : decode cJ6_bitCount_0f7a4 9 = .ok (.istore_n 0, 1) := by decide +kernel
theorem dJ6_bitCount_0f7a4_10 : decode cJ6_bitCount_0f7a4 10 = .ok (.iload_n 0, 1) := by decide +kernel
theorem dJ6_bitCount_0f7a4_11 : decode cJ6_bitCount_0f7a4 11 = .ok (.ldc_w 266, 3) := by decide +kernel
theorem dJ6_bitCount_0f7a4_14 : decode cJ6_bitCount_0f7a4 14 = .ok (.iand, 1) := by decide +kernel
theorem dJ6_bitCount_0f7a4_15 : decode cJ6_bitCount_0f7a4 15 = .ok (.iload_n 0, 1) := by decide +kernel
theorem dJ6_bitCount_0f7a4_16 : decode cJ6_bitCount_0f7a4 16 = .ok (.iconst 2, 1) := by decide +kernel
theorem dJ6_bitCount_0f7a4_17 : decode cJ6_bitCount_0f7a4 17 = .ok (.iushr, 1) := by decide +kernel
theorem dJ6_bitCount_0f7a4_18 : decode cJ6_bitCount_0f7a4 18 = .ok (.ldc_w 266, 3) := by decide +kernel
theorem dJ6_bitCount_0f7a4_21 : decode cJ6_bitCount_0f7a4 21 = .ok (.iand, 1) := by decide +kernel
theorem dJ6_bitCount_0f7a4_22 : decode cJ6_bitCount_0f7a4 22 = .ok (.iadd, 1) := by decide +kernel
theorem dJ6_bitCount_0f7a4_23 : decode cJ6_bitCount_0f7a4 23 = .ok (.istore_n 0, 1) := by decide +kernel
theorem dJ6_bitCount_0f7a4_24 : decode cJ6_bitCount_0f7a4 24 = .ok (.iload_n 0, 1) := by decide +kernel
theorem dJ6_bitCount_0f7a4_25 : decode cJ6_bitCount_0f7a4 25 = .ok (.iload_n 0, 1) := by decide +kernel
theorem dJ6_bitCount_0f7a4_26 : decode cJ6_bitCount_0f7a4 26 = .ok (.iconst 4, 1) := by decide +kernel
theorem dJ6_bitCount_0f7a4_27 : decode cJ6_bitCount_0f7a4 27 = .ok (.iushr, 1) := by decide +kernel
theorem dJ6_bitCount_0f7a4_28 : decode cJ6_bitCount_0f7a4 28 = .ok (.iadd, 1) := by decide +kernel
theorem dJ6_bitCount_0f7a4_29 : decode cJ6_bitCount_0f7a4 29 = .ok (.ldc_w 267, 3) := by decide +kernel
theorem dJ6_bitCount_0f7a4_32 : decode cJ6_bitCount_0f7a4 32 = .ok (.iand, 1) := by decide +kernel
theorem dJ6_bitCount_0f7a4_33 : decode cJ6_bitCount_0f7a4 33 = .ok (.istore_n 0, 1) := by decide +kernel
theorem dJ6_bitCount_0f7a4_34 : decode cJ6_bitCount_0f7a4 34 = .ok (.iload_n 0, 1) := by decide +kernel
theorem dJ6_bitCount_0f7a4_35 : decode cJ6_bitCount_0f7a4 35 = .ok (.iload_n 0, 1) := by decide +kernel
theorem dJ6_bitCount_0f7a4_36 : decode cJ6_bitCount_0f7a4 36 = .ok (.bipush 8, 2) := by decide +kernel
theorem dJ6_bitCount_0f7a4_38 : decode cJ6_bitCount_0f7a4 38 = .ok (.iushr, 1) := by decide +kernel
theorem dJ6_bitCount_0f7a4_39 : decode cJ6_bitCount_0f7a4 39 = .ok (.iadd, 1) := by decide +kernel
theorem dJ6_bitCount_0f7a4_40 : decode cJ6_bitCount_0f7a4 40 = .ok (.istore_n 0, 1) := by decide +kernel
theorem dJ6_bitCount_0f7a4_41 : decode cJ6_bitCount_0f7a4 41 = .ok (.iload_n 0, 1) := by decide +kernel
theorem dJ6_bitCount_0f7a4_42 : decode cJ6_bitCount_0f7a4 42 = .ok (.iload_n 0, 1) := by decide +kernel
theorem dJ6_bitCount_0f7a4_43 : decode cJ6_bitCount_0f7a4 43 = .ok (.bipush 16, 2) := by decide +kernel
theorem dJ6_bitCount_0f7a4_45 : decode cJ6_bitCount_0f7a4 45 = .ok (.iushr, 1) := by decide +kernel
theorem dJ6_bitCount_0f7a4_46 : decode cJ6_bitCount_0f7a4 46 = .ok (.iadd, 1) := by decide +kernel
theorem dJ6_bitCount_0f7a4_47 : decode cJ6_bitCount_0f7a4 47 = .ok (.istore_n 0, 1) := by decide +kernel
theorem dJ6_bitCount_0f7a4_48 : decode cJ6_bitCount_0f7a4 48 = .ok (.iload_n 0, 1) := by decide +kernel
theorem dJ6_bitCount_0f7a4_49 : decode cJ6_bitCount_0f7a4 49 = .ok (.bipush 63, 2) := by decide +kernel
theorem dJ6_bitCount_0f7a4_51 : decode cJ6_bitCount_0f7a4 51 = .ok (.iand, 1) := by decide +kernel
theorem dJ6_bitCount_0f7a4_52 : decode cJ6_bitCount_0f7a4 52 = .ok (.ireturn, 1) := by decide +kernel
theorem dJ9_floorMod_7cf53_0 : decode cJ9_floorMod_7cf53 0 = .ok (.iload_n 0, 1) := by decide +kernel
theorem dJ9_floorMod_7cf53_1 : decode cJ9_floorMod_7cf53 1 = .ok (.iload_n 1, 1) := by decide +kernel
theorem dJ9_floorMod_7cf53_2 : decode cJ9_floorMod_7cf53 2 = .ok (.irem, 1) := by decide +kernel
theorem dJ9_floorMod_7cf53_3 : decode cJ9_floorMod_7cf53 3 = .ok (.istore_n 2, 1) := by decide +kernel
theorem dJ9_floorMod_7cf53_4 : decode cJ9_floorMod_7cf53 4 = .ok (.iload_n 0, 1) := by decide +kernel
theorem dJ9_floorMod_7cf53_5 : decode cJ9_floorMod_7cf53 5 = .ok (.iload_n 1, 1) := by decide +kernel
theorem dJ9_floorMod_7cf53_6 : decode cJ9_floorMod_7cf53 6 = .ok (.ixor, 1) := by decide +kernel
theorem dJ9_floorMod_7cf53_7 : decode cJ9_floorMod_7cf53 7 = .ok (.ifCond .ge 11, 3) := by decide +kernel
theorem dJ9_floorMod_7cf53_10 : decode cJ9_floorMod_7cf53 10 = .ok (.iload_n 2, 1) := by decide +kernel
theorem dJ9_floorMod_7cf53_11 : decode cJ9_floorMod_7cf53 11 = .ok (.ifCond .eq 7, 3) := by decide +kernel
theorem dJ9_floorMod_7cf53_14 : decode cJ9_floorMod_7cf53 14 = .ok (.iload_n 2, 1) := by decide +kernel
theorem dJ9_floorMod_7cf53_15 : decode cJ9_floorMod_7cf53 15 = .ok (.iload_n 1, 1) := by decide +kernel
theorem dJ9_floorMod_7cf53_16 : decode cJ9_floorMod_7cf53 16 = .ok (.iadd, 1) := by decide +kernel
theorem dJ9_floorMod_7cf53_17 : decode cJ9_floorMod_7cf53 17 = .ok (.ireturn, 1) := by decide +kernel
theorem dJ9_floorMod_7cf53_18 : decode cJ9_floorMod_7cf53 18 = .ok (.iload_n 2, 1) := by decide +kernel
theorem dJ9_floorMod_7cf53_19 : decode cJ9_floorMod_7cf53 19 = .ok (.ireturn, 1) := by decide +kernel
theorem dJ0_length_8abf5_0 : decode cJ0_length_8abf5 0 = .ok (.aload_n 0, 1) := by decide +kernel
theorem dJ0_length_8abf5_1 : decode cJ0_length_8abf5 1 = .ok (.getfield 9, 3) := by decide +kernel
theorem dJ0_length_8abf5_4 : decode cJ0_length_8abf5 4 = .ok (.arraylength, 1) := by decide +kernel
theorem dJ0_length_8abf5_5 : decode cJ0_length_8abf5 5 = .ok (.aload_n 0, 1) := by decide +kernel
theorem dJ0_length_8abf5_6 : decode cJ0_length_8abf5 6 = .ok (.invokevirtual 335, 3) := by decide +kernel
theorem dJ0_length_8abf5_9 : decode cJ0_length_8abf5 9 = .ok (.ishr, 1) := by decide +kernel
theorem dJ0_length_8abf5_10 : decode cJ0_length_8abf5 10 = .ok (.ireturn, 1) := by decide +kernel
theorem dJ0_charAt_5068e_0 : decode cJ0_charAt_5068e 0 = .ok (.aload_n 0, 1) := by decide +kernel
theorem dJ0_charAt_5068e_1 : decode cJ0_charAt_5068e 1 = .ok (.invokevirtual 492, 3) := by decide +kernel
theorem dJ0_charAt_5068e_4 : decode cJ0_charAt_5068e 4 = .ok (.ifCond .eq 12, 3) := by decide +kernel
theorem dJ0_charAt_5068e_7 : decode cJ0_charAt_5068e 7 = .ok (.aload_n 0, 1) := by decide +kernel
theorem dJ0_charAt_5068e_8 : decode cJ0_charAt_5068e 8 = .ok (.getfield 9, 3) := by decide +kernel
theorem dJ0_charAt_5068e_11 : decode cJ0_charAt_5068e 11 = .ok (.iload_n 1, 1) := by decide +kernel
theorem dJ0_charAt_5068e_12 : decode cJ0_charAt_5068e 12 = .ok (.invokestatic 495, 3) := by decide +kernel
theorem dJ0_charAt_5068e_15 : decode cJ0_charAt_5068e 15 = .ok (.ireturn, 1) := by decide +kernel
theorem dJ0_charAt_5068e_16 : decode cJ0_charAt_5068e 16 = .ok (.aload_n 0, 1) := by decide +kernel
theorem dJ0_charAt_5068e_17 : decode cJ0_charAt_5068e 17 = .ok (.getfield 9, 3) := by decide +kernel
theorem dJ0_charAt_5068e_20 : decode cJ0_charAt_5068e 20 = .ok (.iload_n 1, 1) := by decide +kernel
theorem dJ0_charAt_5068e_21 : decode cJ0_charAt_5068e 21 = .ok (.invokestatic 498, 3) := by decide +kernel
theorem dJ0_charAt_5068e_24 : decode cJ0_charAt_5068e 24 = .ok (.ireturn, 1) := by decide +kernel
theorem dJ0_coder_7d493_0 : decode cJ0_coder_7d493 0 = .ok (.getstatic 38, 3) := by decide +kernel
theorem dJ0_coder_7d493_3 : decode cJ0_coder_7d493 3 = .ok (.ifCond .eq 10, 3) := by decide +kernel
theorem dJ0_coder_7d493_6 : decode cJ0_coder_7d493 6 = .ok (.aload_n 0, 1) := by decide +kernel
theorem dJ0_coder_7d493_7 : decode cJ0_coder_7d493 7 = .ok (.getfield 15, 3) := by decide +kernel
theorem dJ0_coder_7d493_10 : decode cJ0_coder_7d493 10 = .ok (.goto 4, 3) := by decide +kernel
theorem dJ0_coder_7d493_13 : decode cJ0_coder_7d493 13 = .ok (.iconst 1, 1) := by decide +kernel
theorem dJ0_coder_7d493_14 : decode cJ0_coder_7d493 14 = .ok (.ireturn, 1) := by decide +kernel
theorem dJ0_isLatin1_aae02_0 : decode cJ0_isLatin1_aae02 0 = .ok (.getstatic 38, 3) := by decide +kernel
theorem dJ0_isLatin1_aae02_3 : decode cJ0_isLatin1_aae02 3 = .ok (.ifCond .eq 14, 3) := by decide +kernel
theorem dJ0_isLatin1_aae02_6 : decode cJ0_isLatin1_aae02 6 = .ok (.aload_n 0, 1) := by decide +kernel
theorem dJ0_isLatin1_aae02_7 : decode cJ0_isLatin1_aae02 7 = .ok (.getfield 15, 3) := by decide +kernel
theorem dJ0_isLatin1_aae02_10 : decode cJ0_isLatin1_aae02 10 = .ok (.ifCond .ne 7, 3) := by decide +kernel
theorem dJ0_isLatin1_aae02_13 : decode cJ0_isLatin1_aae02 13 = .ok (.iconst 1, 1) := by decide +kernel
theorem dJ0_isLatin1_aae02_14 : decode cJ0_isLatin1_aae02 14 = .ok (.goto 4, 3) := by decide +kernel
theorem dJ0_isLatin1_aae02_17 : decode cJ0_isLatin1_aae02 17 = .ok (.iconst 0, 1) := by decide +kernel
theorem dJ0_isLatin1_aae02_18 : decode cJ0_isLatin1_aae02 18 = .ok (.ireturn, 1) := by decide +kernel
theorem dJ0_checkIndex_df160_0 : decode cJ0_checkIndex_df160 0 = .ok (.iload_n 0, 1) := by decide +kernel
theorem dJ0_checkIndex_df160_1 : decode cJ0_checkIndex_df160 1 = .ok (.iload_n 1, 1) := by decide +kernel
theorem dJ0_checkIndex_df160_2 : decode cJ0_checkIndex_df160 2 = .ok (.getstatic 1053, 3) := by decide +kernel
theorem dJ0_checkIndex_df160_5 : decode cJ0_checkIndex_df160 5 = .ok (.invokestatic 1059, 3) := by decide +kernel
theorem dJ0_checkIndex_df160_8 : decode cJ0_checkIndex_df160 8 = .ok (.pop, 1) := by decide +kernel
theorem dJ0_checkIndex_df160_9 : decode cJ0_checkIndex_df160 9 = .ok (.return_, 1) := by decide +kernel
theorem dJ1_charAt_3b067_0 : decode cJ1_charAt_3b067 0 = .ok (.iload_n 1, 1) := by decide +kernel
theorem dJ1_charAt_3b067_1 : decode cJ1_charAt_3b067 1 = .ok (.aload_n 0, 1) := by decide +kernel
theorem dJ1_charAt_3b067_2 : decode cJ1_charAt_3b067 2 = .ok (.arraylength, 1) := by decide +kernel
theorem dJ1_charAt_3b067_3 : decode cJ1_charAt_3b067 3 = .ok (.invokestatic 9, 3) := by decide +kernel
theorem dJ1_charAt_3b067_6 : decode cJ1_charAt_3b067 6 = .ok (.aload_n 0, 1) := by decide +kernel
theorem dJ1_charAt_3b067_7 : decode cJ1_charAt_3b067 7 = .ok (.iload_n 1, 1) := by decide +kernel
theorem dJ1_charAt_3b067_8 : decode cJ1_charAt_3b067 8 = .ok (.baload, 1) := by decide +kernel
theorem dJ1_charAt_3b067_9 : decode cJ1_charAt_3b067 9 = .ok (.sipush 255, 3) := by decide +kernel
theorem dJ1_charAt_3b067_12 : decode cJ1_charAt_3b067 12 = .ok (.iand, 1) := by decide +kernel
theorem dJ1_charAt_3b067_13 : decode cJ1_charAt_3b067 13 = .ok (.i2c, 1) := by decide +kernel
theorem dJ1_charAt_3b067_14 : decode cJ1_charAt_3b067 14 = .ok (.ireturn, 1) := by decide +kernel
theorem dJ2_getChar_3b067_0 : decode cJ2_getChar_3b067 0 = .ok (.getstatic 44, 3) := by decide +kernel
theorem dJ2_getChar_3b067_3 : decode cJ2_getChar_3b067 3 = .ok (.ifCond .ne 25, 3) := by decide +kernel
theorem dJ2_getChar_3b067_6 : decode cJ2_getChar_3b067 6 = .ok (.iload_n 1, 1) := by decide +kernel
theorem dJ2_getChar_3b067_7 : decode cJ2_getChar_3b067 7 = .ok (.ifCond .lt 11, 3) := by decide +kernel
theorem dJ2_getChar_3b067_10 : decode cJ2_getChar_3b067 10 = .ok (.iload_n 1, 1) := by decide +kernel
theorem dJ2_getChar_3b067_11 : decode cJ2_getChar_3b067 11 = .ok (.aload_n 0, 1) := by decide +kernel
theorem dJ2_getChar_3b067_12 : decode cJ2_getChar_3b067 12 = .ok (.invokestatic 48, 3) := by decide +kernel
theorem dJ2_getChar_3b067_15 : decode cJ2_getChar_3b067 15 = .ok (.if_icmp .lt 13, 3) := by decide +kernel
theorem dJ2_getChar_3b067_18 : decode cJ2_getChar_3b067 18 = .ok (.new 52, 3) := by decide +kernel
theorem dJ2_getChar_3b067_21 : decode cJ2_getChar_3b067 21 = .ok (.dup, 1) := by decide +kernel
theorem dJ2_getChar_3b067_22 : decode cJ2_getChar_3b067 22 = .ok (.ldc 54, 2) := by decide +kernel
theorem dJ2_getChar_3b067_24 : decode cJ2_getChar_3b067 24 = .ok (.invokespecial 56, 3) := by decide +kernel
theorem dJ2_getChar_3b067_27 : decode cJ2_getChar_3b067 27 = .ok (.athrow, 1) := by decide +kernel
theorem dJ2_getChar_3b067_28 : decode cJ2_getChar_3b067 28 = .ok (.iload_n 1, 1) := by decide +kernel
theorem dJ2_getChar_3b067_29 : decode cJ2_getChar_3b067 29 = .ok (.iconst 1, 1) := by decide +kernel
theorem dJ2_getChar_3b067_30 : decode cJ2_getChar_3b067 30 = .ok (.ishl, 1) := by decide +kernel
theorem dJ2_getChar_3b067_31 : decode cJ2_getChar_3b067 31 = .ok (.istore_n 1, 1) := by decide +kernel
theorem dJ2_getChar_3b067_32 : decode cJ2_getChar_3b067 32 = .ok (.aload_n 0, 1) := by decide +kernel
theorem dJ2_getChar_3b067_33 : decode cJ2_getChar_3b067 33 = .ok (.iload_n 1, 1) := by decide +kernel
theorem dJ2_getChar_3b067_34 : decode cJ2_getChar_3b067 34 = .ok (.iinc 1 1, 3) := by decide +kernel
theorem dJ2_getChar_3b067_37 : decode cJ2_getChar_3b067 37 = .ok (.baload, 1) := by decide +kernel
theorem dJ2_getChar_3b067_38 : decode cJ2_getChar_3b067 38 = .ok (.sipush 255, 3) := by decide +kernel
theorem dJ2_getChar_3b067_41 : decode cJ2_getChar_3b067 41 = .ok (.iand, 1) := by decide +kernel
theorem dJ2_getChar_3b067_42 : decode cJ2_getChar_3b067 42 = .ok (.getstatic 59, 3) := by decide +kernel
theorem dJ2_getChar_3b067_45 : decode cJ2_getChar_3b067 45 = .ok (.ishl, 1) := by decide +kernel
theorem dJ2_getChar_3b067_46 : decode cJ2_getChar_3b067 46 = .ok (.aload_n 0, 1) := by decide +kernel
theorem dJ2_getChar_3b067_47 : decode cJ2_getChar_3b067 47 = .ok (.iload_n 1, 1) := by decide +kernel
theorem dJ2_getChar_3b067_48 : decode cJ2_getChar_3b067 48 = .ok (.baload, 1) := by decide +kernel
theorem dJ2_getChar_3b067_49 : decode cJ2_getChar_3b067 49 = .ok (.sipush 255, 3) := by decide +kernel
theorem dJ2_getChar_3b067_52 : decode cJ2_getChar_3b067 52 = .ok (.iand, 1) := by decide +kernel
theorem dJ2_getChar_3b067_53 : decode cJ2_getChar_3b067 53 = .ok (.getstatic 63, 3) := by decide +kernel
theorem dJ2_getChar_3b067_56 : decode cJ2_getChar_3b067 56 = .ok (.ishl, 1) := by decide +kernel
theorem dJ2_getChar_3b067_57 : decode cJ2_getChar_3b067 57 = .ok (.ior, 1) := by decide +kernel
theorem dJ2_getChar_3b067_58 : decode cJ2_getChar_3b067 58 = .ok (.i2c, 1) := by decide +kernel
theorem dJ2_getChar_3b067_59 : decode cJ2_getChar_3b067 59 = .ok (.ireturn, 1) := by decide +kernel
theorem dJ2_length_9d52b_0 : decode cJ2_length_9d52b 0 = .ok (.aload_n 0, 1) := by decide +kernel
theorem dJ2_length_9d52b_1 : decode cJ2_length_9d52b 1 = .ok (.arraylength, 1) := by decide +kernel
theorem dJ2_length_9d52b_2 : decode cJ2_length_9d52b 2 = .ok (.iconst 1, 1) := by decide +kernel
theorem dJ2_length_9d52b_3 : decode cJ2_length_9d52b 3 = .ok (.ishr, 1) := by decide +kernel
theorem dJ2_length_9d52b_4 : decode cJ2_length_9d52b 4 = .ok (.ireturn, 1) := by decide +kernel
theorem dJ2_charAt_3b067_0 : decode cJ2_charAt_3b067 0 = .ok (.iload_n 1, 1) := by decide +kernel
theorem dJ2_charAt_3b067_1 : decode cJ2_charAt_3b067 1 = .ok (.aload_n 0, 1) := by decide +kernel
theorem dJ2_charAt_3b067_2 : decode cJ2_charAt_3b067 2 = .ok (.invokestatic 67, 3) := by decide +kernel
theorem dJ2_charAt_3b067_5 : decode cJ2_charAt_3b067 5 = .ok (.aload_n 0, 1) := by decide +kernel
theorem dJ2_charAt_3b067_6 : decode cJ2_charAt_3b067 6 = .ok (.iload_n 1, 1) := by decide +kernel
theorem dJ2_charAt_3b067_7 : decode cJ2_charAt_3b067 7 = .ok (.invokestatic 71, 3) := by decide +kernel
theorem dJ2_charAt_3b067_10 : decode cJ2_charAt_3b067 10 = .ok (.ireturn, 1) := by decide +kernel
theorem dJ2_checkIndex_2214a_0 : decode cJ2_checkIndex_2214a 0 = .ok (.iload_n 0, 1) := by decide +kernel
theorem dJ2_checkIndex_2214a_1 : decode cJ2_checkIndex_2214a 1 = .ok (.aload_n 1, 1) := by decide +kernel
theorem dJ2_checkIndex_2214a_2 : decode cJ2_checkIndex_2214a 2 = .ok (.invokestatic 48, 3) := by decide +kernel
theorem dJ2_checkIndex_2214a_5 : decode cJ2_checkIndex_2214a 5 = .ok (.invokestatic 414, 3) := by decide +kernel
theorem dJ2_checkIndex_2214a_8 : decode cJ2_checkIndex_2214a 8 = .ok (.return_, 1) := by decide +kernel
theorem dJ7_fill_53178_0 : decode cJ7_fill_53178 0 = .ok (.iconst 0, 1) := by decide +kernel
theorem dJ7_fill_53178_1 : decode cJ7_fill_53178 1 = .ok (.istore_n 2, 1) := by decide +kernel
theorem dJ7_fill_53178_2 : decode cJ7_fill_53178 2 = .ok (.aload_n 0, 1) := by decide +kernel
theorem dJ7_fill_53178_3 : decode cJ7_fill_53178 3 = .ok (.arraylength, 1) := by decide +kernel
theorem dJ7_fill_53178_4 : decode cJ7_fill_53178 4 = .ok (.istore_n 3, 1) := by decide +kernel
theorem dJ7_fill_53178_5 : decode cJ7_fill_53178 5 = .ok (.iload_n 2, 1) := by decide +kernel
theorem dJ7_fill_53178_6 : decode cJ7_fill_53178 6 = .ok (.iload_n 3, 1) := by decide +kernel
theorem dJ7_fill_53178_7 : decode cJ7_fill_53178 7 = .ok (.if_icmp .ge 13, 3) := by decide +kernel
theorem dJ7_fill_53178_10 : decode cJ7_fill_53178 10 = .ok (.aload_n 0, 1) := by decide +kernel
theorem dJ7_fill_53178_11 : decode cJ7_fill_53178 11 = .ok (.iload_n 2, 1) := by decide +kernel
theorem dJ7_fill_53178_12 : decode cJ7_fill_53178 12 = .ok (.iload_n 1, 1) := by decide +kernel
theorem dJ7_fill_53178_13 : decode cJ7_fill_53178 13 = .ok (.iastore, 1) := by decide +kernel
theorem dJ7_fill_53178_14 : decode cJ7_fill_53178 14 = .ok (.iinc 2 1, 3) := by decide +kernel
theorem dJ7_fill_53178_17 : decode cJ7_fill_53178 17 = .ok (.goto (-12), 3) := by decide +kernel
theorem dJ7_fill_53178_20 : decode cJ7_fill_53178 20 = .ok (.return_, 1) := by decide +kernel
theorem dJ3_checkIndex_8e157_0 : decode cJ3_checkIndex_8e157 0 = .ok (.iload_n 0, 1) := by decide +kernel
theorem dJ3_checkIndex_8e157_1 : decode cJ3_checkIndex_8e157 1 = .ok (.ifCond .lt 8, 3) := by decide +kernel
theorem dJ3_checkIndex_8e157_4 : decode cJ3_checkIndex_8e157 4 = .ok (.iload_n 0, 1) := by decide +kernel
theorem dJ3_checkIndex_8e157_5 : decode cJ3_checkIndex_8e157 5 = .ok (.iload_n 1, 1) := by decide +kernel
theorem dJ3_checkIndex_8e157_6 : decode cJ3_checkIndex_8e157 6 = .ok (.if_icmp .lt 10, 3) := by decide +kernel
theorem dJ3_checkIndex_8e157_9 : decode cJ3_checkIndex_8e157 9 = .ok (.aload_n 2, 1) := by decide +kernel
theorem dJ3_checkIndex_8e157_10 : decode cJ3_checkIndex_8e157 10 = .ok (.iload_n 0, 1) := by decide +kernel
theorem dJ3_checkIndex_8e157_11 : decode cJ3_checkIndex_8e157 11 = .ok (.iload_n 1, 1) := by decide +kernel
theorem dJ3_checkIndex_8e157_12 : decode cJ3_checkIndex_8e157 12 = .ok (.invokestatic 95, 3) := by decide +kernel
theorem dJ3_checkIndex_8e157_15 : decode cJ3_checkIndex_8e157 15 = .ok (.athrow, 1) := by decide +kernel
theorem dJ3_checkIndex_8e157_16 : decode cJ3_checkIndex_8e157 16 = .ok (.iload_n 0, 1) := by decide +kernel
theorem dJ3_checkIndex_8e157_17 : decode cJ3_checkIndex_8e157 17 = .ok (.ireturn, 1) := by decide +kernel
theorem dL_law_0 : decode cL_law 0 = .ok (.new 7, 3) := by decide +kernel
theorem dL_law_3 : decode cL_law 3 = .ok (.dup, 1) := by decide +kernel
theorem dL_law_4 : decode cL_law 4 = .ok (.invokespecial 9, 3) := by decide +kernel
theorem dL_law_7 : decode cL_law 7 = .ok (.astore_n 1, 1) := by decide +kernel
theorem dL_law_8 : decode cL_law 8 = .ok (.new 10, 3) := by decide +kernel
theorem dL_law_11 : decode cL_law 11 = .ok (.dup, 1) := by decide +kernel
theorem dL_law_12 : decode cL_law 12 = .ok (.invokespecial 12, 3) := by decide +kernel
theorem dL_law_15 : decode cL_law 15 = .ok (.astore_n 2, 1) := by decide +kernel
theorem dL_law_16 : decode cL_law 16 = .ok (.iconst 0, 1) := by decide +kernel
theorem dL_law_17 : decode cL_law 17 = .ok (.istore_n 3, 1) := by decide +kernel
theorem dL_law_18 : decode cL_law 18 = .ok (.iload_n 3, 1) := by decide +kernel
theorem dL_law_19 : decode cL_law 19 = .ok (.aload_n 0, 1) := by decide +kernel
theorem dL_law_20 : decode cL_law 20 = .ok (.arraylength, 1) := by decide +kernel
theorem dL_law_21 : decode cL_law 21 = .ok (.iconst 4, 1) := by decide +kernel
theorem dL_law_22 : decode cL_law 22 = .ok (.isub, 1) := by decide +kernel
theorem dL_law_23 : decode cL_law 23 = .ok (.if_icmp .gt 967, 3) := by decide +kernel
theorem dL_law_26 : decode cL_law 26 = .ok (.aload_n 0, 1) := by decide +kernel
theorem dL_law_27 : decode cL_law 27 = .ok (.iload_n 3, 1) := by decide +kernel
theorem dL_law_28 : decode cL_law 28 = .ok (.iaload, 1) := by decide +kernel
theorem dL_law_29 : decode cL_law 29 = .ok (.bipush 31, 2) := by decide +kernel
theorem dL_law_31 : decode cL_law 31 = .ok (.iand, 1) := by decide +kernel
theorem dL_law_32 : decode cL_law 32 = .ok (.tableswitch 952 0 31 #[144, 177, 210, 243, 266, 279, 292, 315, 338, 351, 384, 427, 450, 473, 506, 539, 552, 565, 578, 591, 634, 657, 690, 713, 746, 779, 822, 846, 869, 892, 915, 938], 144) := by decide +kernel
theorem dL_law_176 : decode cL_law 176 = .ok (.aload_n 1, 1) := by decide +kernel
theorem dL_law_177 : decode cL_law 177 = .ok (.aload_n 0, 1) := by decide +kernel
theorem dL_law_178 : decode cL_law 178 = .ok (.iload_n 3, 1) := by decide +kernel
theorem dL_law_179 : decode cL_law 179 = .ok (.iconst 1, 1) := by decide +kernel
theorem dL_law_180 : decode cL_law 180 = .ok (.iadd, 1) := by decide +kernel
theorem dL_law_181 : decode cL_law 181 = .ok (.iaload, 1) := by decide +kernel
theorem dL_law_182 : decode cL_law 182 = .ok (.aload_n 0, 1) := by decide +kernel
theorem dL_law_183 : decode cL_law 183 = .ok (.iload_n 3, 1) := by decide +kernel
theorem dL_law_184 : decode cL_law 184 = .ok (.iconst 2, 1) := by decide +kernel
theorem dL_law_185 : decode cL_law 185 = .ok (.iadd, 1) := by decide +kernel
theorem dL_law_186 : decode cL_law 186 = .ok (.iaload, 1) := by decide +kernel
theorem dL_law_187 : decode cL_law 187 = .ok (.invokevirtual 13, 3) := by decide +kernel
theorem dL_law_190 : decode cL_law 190 = .ok (.aload_n 2, 1) := by decide +kernel
theorem dL_law_191 : decode cL_law 191 = .ok (.aload_n 0, 1) := by decide +kernel
theorem dL_law_192 : decode cL_law 192 = .ok (.iload_n 3, 1) := by decide +kernel
theorem dL_law_193 : decode cL_law 193 = .ok (.iconst 1, 1) := by decide +kernel
theorem dL_law_194 : decode cL_law 194 = .ok (.iadd, 1) := by decide +kernel
theorem dL_law_195 : decode cL_law 195 = .ok (.iaload, 1) := by decide +kernel
theorem dL_law_196 : decode cL_law 196 = .ok (.aload_n 0, 1) := by decide +kernel
theorem dL_law_197 : decode cL_law 197 = .ok (.iload_n 3, 1) := by decide +kernel
theorem dL_law_198 : decode cL_law 198 = .ok (.iconst 2, 1) := by decide +kernel
theorem dL_law_199 : decode cL_law 199 = .ok (.iadd, 1) := by decide +kernel
theorem dL_law_200 : decode cL_law 200 = .ok (.iaload, 1) := by decide +kernel
theorem dL_law_201 : decode cL_law 201 = .ok (.invokevirtual 17, 3) := by decide +kernel
theorem dL_law_204 : decode cL_law 204 = .ok (.if_icmp .eq 780, 3) := by decide +kernel
theorem dL_law_207 : decode cL_law 207 = .ok (.iconst 0, 1) := by decide +kernel
theorem dL_law_208 : decode cL_law 208 = .ok (.ireturn, 1) := by decide +kernel
theorem dL_law_209 : decode cL_law 209 = .ok (.aload_n 1, 1) := by decide +kernel
theorem dL_law_210 : decode cL_law 210 = .ok (.aload_n 0, 1) := by decide +kernel
theorem dL_law_211 : decode cL_law 211 = .ok (.iload_n 3, 1) := by decide +kernel
theorem dL_law_212 : decode cL_law 212 = .ok (.iconst 1, 1) := by decide +kernel
theorem dL_law_213 : decode cL_law 213 = .ok (.iadd, 1) := by decide +kernel
theorem dL_law_214 : decode cL_law 214 = .ok (.iaload, 1) := by decide +kernel
theorem dL_law_215 : decode cL_law 215 = .ok (.aload_n 0, 1) := by decide +kernel
theorem dL_law_216 : decode cL_law 216 = .ok (.iload_n 3, 1) := by decide +kernel
theorem dL_law_217 : decode cL_law 217 = .ok (.iconst 2, 1) := by decide +kernel
theorem dL_law_218 : decode cL_law 218 = .ok (.iadd, 1) := by decide +kernel
theorem dL_law_219 : decode cL_law 219 = .ok (.iaload, 1) := by decide +kernel
theorem dL_law_220 : decode cL_law 220 = .ok (.invokevirtual 18, 3) := by decide +kernel
theorem dL_law_223 : decode cL_law 223 = .ok (.aload_n 2, 1) := by decide +kernel
theorem dL_law_224 : decode cL_law 224 = .ok (.aload_n 0, 1) := by decide +kernel
theorem dL_law_225 : decode cL_law 225 = .ok (.iload_n 3, 1) := by decide +kernel
theorem dL_law_226 : decode cL_law 226 = .ok (.iconst 1, 1) := by decide +kernel
theorem dL_law_227 : decode cL_law 227 = .ok (.iadd, 1) := by decide +kernel
theorem dL_law_228 : decode cL_law 228 = .ok (.iaload, 1) := by decide +kernel
theorem dL_law_229 : decode cL_law 229 = .ok (.aload_n 0, 1) := by decide +kernel
theorem dL_law_230 : decode cL_law 230 = .ok (.iload_n 3, 1) := by decide +kernel
theorem dL_law_231 : decode cL_law 231 = .ok (.iconst 2, 1) := by decide +kernel
theorem dL_law_232 : decode cL_law 232 = .ok (.iadd, 1) := by decide +kernel
theorem dL_law_233 : decode cL_law 233 = .ok (.iaload, 1) := by decide +kernel
theorem dL_law_234 : decode cL_law 234 = .ok (.invokevirtual 21, 3) := by decide +kernel
theorem dL_law_237 : decode cL_law 237 = .ok (.if_icmp .eq 747, 3) := by decide +kernel
theorem dL_law_240 : decode cL_law 240 = .ok (.iconst 0, 1) := by decide +kernel
theorem dL_law_241 : decode cL_law 241 = .ok (.ireturn, 1) := by decide +kernel
theorem dL_law_242 : decode cL_law 242 = .ok (.aload_n 1, 1) := by decide +kernel
theorem dL_law_243 : decode cL_law 243 = .ok (.aload_n 0, 1) := by decide +kernel
theorem dL_law_244 : decode cL_law 244 = .ok (.iload_n 3, 1) := by decide +kernel
theorem dL_law_245 : decode cL_law 245 = .ok (.iconst 1, 1) := by decide +kernel
theorem dL_law_246 : decode cL_law 246 = .ok (.iadd, 1) := by decide +kernel
theorem dL_law_247 : decode cL_law 247 = .ok (.iaload, 1) := by decide +kernel
theorem dL_law_248 : decode cL_law 248 = .ok (.aload_n 0, 1) := by decide +kernel
theorem dL_law_249 : decode cL_law 249 = .ok (.iload_n 3, 1) := by decide +kernel
theorem dL_law_250 : decode cL_law 250 = .ok (.iconst 2, 1) := by decide +kernel
theorem dL_law_251 : decode cL_law 251 = .ok (.iadd, 1) := by decide +kernel
theorem dL_law_252 : decode cL_law 252 = .ok (.iaload, 1) := by decide +kernel
theorem dL_law_253 : decode cL_law 253 = .ok (.invokevirtual 22, 3) := by decide +kernel
theorem dL_law_256 : decode cL_law 256 = .ok (.aload_n 2, 1) := by decide +kernel
theorem dL_law_257 : decode cL_law 257 = .ok (.aload_n 0, 1) := by decide +kernel
theorem dL_law_258 : decode cL_law 258 = .ok (.iload_n 3, 1) := by decide +kernel
theorem dL_law_259 : decode cL_law 259 = .ok (.iconst 1, 1) := by decide +kernel
theorem dL_law_260 : decode cL_law 260 = .ok (.iadd, 1) := by decide +kernel
theorem dL_law_261 : decode cL_law 261 = .ok (.iaload, 1) := by decide +kernel
theorem dL_law_262 : decode cL_law 262 = .ok (.aload_n 0, 1) := by decide +kernel
theorem dL_law_263 : decode cL_law 263 = .ok (.iload_n 3, 1) := by decide +kernel
theorem dL_law_264 : decode cL_law 264 = .ok (.iconst 2, 1) := by decide +kernel
theorem dL_law_265 : decode cL_law 265 = .ok (.iadd, 1) := by decide +kernel
theorem dL_law_266 : decode cL_law 266 = .ok (.iaload, 1) := by decide +kernel
theorem dL_law_267 : decode cL_law 267 = .ok (.invokevirtual 25, 3) := by decide +kernel
theorem dL_law_270 : decode cL_law 270 = .ok (.if_icmp .eq 714, 3) := by decide +kernel
theorem dL_law_273 : decode cL_law 273 = .ok (.iconst 0, 1) := by decide +kernel
theorem dL_law_274 : decode cL_law 274 = .ok (.ireturn, 1) := by decide +kernel
theorem dL_law_275 : decode cL_law 275 = .ok (.aload_n 1, 1) := by decide +kernel
theorem dL_law_276 : decode cL_law 276 = .ok (.aload_n 0, 1) := by decide +kernel
theorem dL_law_277 : decode cL_law 277 = .ok (.iload_n 3, 1) := by decide +kernel
theorem dL_law_278 : decode cL_law 278 = .ok (.iconst 1, 1) := by decide +kernel
theorem dL_law_279 : decode cL_law 279 = .ok (.iadd, 1) := by decide +kernel
theorem dL_law_280 : decode cL_law 280 = .ok (.iaload, 1) := by decide +kernel
theorem dL_law_281 : decode cL_law 281 = .ok (.invokevirtual 26, 3) := by decide +kernel
theorem dL_law_284 : decode cL_law 284 = .ok (.aload_n 2, 1) := by decide +kernel
theorem dL_law_285 : decode cL_law 285 = .ok (.aload_n 0, 1) := by decide +kernel
theorem dL_law_286 : decode cL_law 286 = .ok (.iload_n 3, 1) := by decide +kernel
theorem dL_law_287 : decode cL_law 287 = .ok (.iconst 1, 1) := by decide +kernel
theorem dL_law_288 : decode cL_law 288 = .ok (.iadd, 1) := by decide +kernel
theorem dL_law_289 : decode cL_law 289 = .ok (.iaload, 1) := by decide +kernel
theorem dL_law_290 : decode cL_law 290 = .ok (.invokevirtual 30, 3) := by decide +kernel
theorem dL_law_293 : decode cL_law 293 = .ok (.if_icmp .eq 691, 3) := by decide +kernel
theorem dL_law_296 : decode cL_law 296 = .ok (.iconst 0, 1) := by decide +kernel
theorem dL_law_297 : decode cL_law 297 = .ok (.ireturn, 1) := by decide +kernel
theorem dL_law_298 : decode cL_law 298 = .ok (.aload_n 1, 1) := by decide +kernel
theorem dL_law_299 : decode cL_law 299 = .ok (.invokevirtual 31, 3) := by decide +kernel
theorem dL_law_302 : decode cL_law 302 = .ok (.aload_n 2, 1) := by decide +kernel
theorem dL_law_303 : decode cL_law 303 = .ok (.invokevirtual 35, 3) := by decide +kernel
theorem dL_law_306 : decode cL_law 306 = .ok (.if_icmp .eq 678, 3) := by decide +kernel
theorem dL_law_309 : decode cL_law 309 = .ok (.iconst 0, 1) := by decide +kernel
theorem dL_law_310 : decode cL_law 310 = .ok (.ireturn, 1) := by decide +kernel
theorem dL_law_311 : decode cL_law 311 = .ok (.aload_n 1, 1) := by decide +kernel
theorem dL_law_312 : decode cL_law 312 = .ok (.invokevirtual 36, 3) := by decide +kernel
theorem dL_law_315 : decode cL_law 315 = .ok (.aload_n 2, 1) := by decide +kernel
theorem dL_law_316 : decode cL_law 316 = .ok (.invokevirtual 39, 3) := by decide +kernel
theorem dL_law_319 : decode cL_law 319 = .ok (.if_icmp .eq 665, 3) := by decide +kernel
theorem dL_law_322 : decode cL_law 322 = .ok (.iconst 0, 1) := by decide +kernel
theorem dL_law_323 : decode cL_law 323 = .ok (.ireturn, 1) := by decide +kernel
theorem dL_law_324 : decode cL_law 324 = .ok (.aload_n 1, 1) := by decide +kernel
theorem dL_law_325 : decode cL_law 325 = .ok (.aload_n 0, 1) := by decide +kernel
theorem dL_law_326 : decode cL_law 326 = .ok (.iload_n 3, 1) := by decide +kernel
theorem dL_law_327 : decode cL_law 327 = .ok (.iconst 1, 1) := by decide +kernel
theorem dL_law_328 : decode cL_law 328 = .ok (.iadd, 1) := by decide +kernel
theorem dL_law_329 : decode cL_law 329 = .ok (.iaload, 1) := by decide +kernel
theorem dL_law_330 : decode cL_law 330 = .ok (.invokevirtual 40, 3) := by decide +kernel
theorem dL_law_333 : decode cL_law 333 = .ok (.aload_n 2, 1) := by decide +kernel
theorem dL_law_334 : decode cL_law 334 = .ok (.aload_n 0, 1) := by decide +kernel
theorem dL_law_335 : decode cL_law 335 = .ok (.iload_n 3, 1) := by decide +kernel
theorem dL_law_336 : decode cL_law 336 = .ok (.iconst 1, 1) := by decide +kernel
theorem dL_law_337 : decode cL_law 337 = .ok (.iadd, 1) := by decide +kernel
theorem dL_law_338 : decode cL_law 338 = .ok (.iaload, 1) := by decide +kernel
theorem dL_law_339 : decode cL_law 339 = .ok (.invokevirtual 43, 3) := by decide +kernel
theorem dL_law_342 : decode cL_law 342 = .ok (.if_icmp .eq 642, 3) := by decide +kernel
theorem dL_law_345 : decode cL_law 345 = .ok (.iconst 0, 1) := by decide +kernel
theorem dL_law_346 : decode cL_law 346 = .ok (.ireturn, 1) := by decide +kernel
theorem dL_law_347 : decode cL_law 347 = .ok (.aload_n 1, 1) := by decide +kernel
theorem dL_law_348 : decode cL_law 348 = .ok (.aload_n 0, 1) := by decide +kernel
theorem dL_law_349 : decode cL_law 349 = .ok (.iload_n 3, 1) := by decide +kernel
theorem dL_law_350 : decode cL_law 350 = .ok (.iconst 1, 1) := by decide +kernel
theorem dL_law_351 : decode cL_law 351 = .ok (.iadd, 1) := by decide +kernel
theorem dL_law_352 : decode cL_law 352 = .ok (.iaload, 1) := by decide +kernel
theorem dL_law_353 : decode cL_law 353 = .ok (.invokevirtual 44, 3) := by decide +kernel
theorem dL_law_356 : decode cL_law 356 = .ok (.aload_n 2, 1) := by decide +kernel
theorem dL_law_357 : decode cL_law 357 = .ok (.aload_n 0, 1) := by decide +kernel
theorem dL_law_358 : decode cL_law 358 = .ok (.iload_n 3, 1) := by decide +kernel
theorem dL_law_359 : decode cL_law 359 = .ok (.iconst 1, 1) := by decide +kernel
theorem dL_law_360 : decode cL_law 360 = .ok (.iadd, 1) := by decide +kernel
theorem dL_law_361 : decode cL_law 361 = .ok (.iaload, 1) := by decide +kernel
theorem dL_law_362 : decode cL_law 362 = .ok (.invokevirtual 47, 3) := by decide +kernel
theorem dL_law_365 : decode cL_law 365 = .ok (.if_icmp .eq 619, 3) := by decide +kernel
theorem dL_law_368 : decode cL_law 368 = .ok (.iconst 0, 1) := by decide +kernel
theorem dL_law_369 : decode cL_law 369 = .ok (.ireturn, 1) := by decide +kernel
theorem dL_law_370 : decode cL_law 370 = .ok (.aload_n 1, 1) := by decide +kernel
theorem dL_law_371 : decode cL_law 371 = .ok (.invokevirtual 48, 3) := by decide +kernel
theorem dL_law_374 : decode cL_law 374 = .ok (.aload_n 2, 1) := by decide +kernel
theorem dL_law_375 : decode cL_law 375 = .ok (.invokevirtual 51, 3) := by decide +kernel
theorem dL_law_378 : decode cL_law 378 = .ok (.if_icmp .eq 606, 3) := by decide +kernel
theorem dL_law_381 : decode cL_law 381 = .ok (.iconst 0, 1) := by decide +kernel
theorem dL_law_382 : decode cL_law 382 = .ok (.ireturn, 1) := by decide +kernel
theorem dL_law_383 : decode cL_law 383 = .ok (.aload_n 1, 1) := by decide +kernel
theorem dL_law_384 : decode cL_law 384 = .ok (.aload_n 0, 1) := by decide +kernel
theorem dL_law_385 : decode cL_law 385 = .ok (.iload_n 3, 1) := by decide +kernel
theorem dL_law_386 : decode cL_law 386 = .ok (.iconst 1, 1) := by decide +kernel
theorem dL_law_387 : decode cL_law 387 = .ok (.iadd, 1) := by decide +kernel
theorem dL_law_388 : decode cL_law 388 = .ok (.iaload, 1) := by decide +kernel
theorem dL_law_389 : decode cL_law 389 = .ok (.aload_n 0, 1) := by decide +kernel
theorem dL_law_390 : decode cL_law 390 = .ok (.iload_n 3, 1) := by decide +kernel
theorem dL_law_391 : decode cL_law 391 = .ok (.iconst 2, 1) := by decide +kernel
theorem dL_law_392 : decode cL_law 392 = .ok (.iadd, 1) := by decide +kernel
theorem dL_law_393 : decode cL_law 393 = .ok (.iaload, 1) := by decide +kernel
theorem dL_law_394 : decode cL_law 394 = .ok (.invokevirtual 52, 3) := by decide +kernel
theorem dL_law_397 : decode cL_law 397 = .ok (.aload_n 2, 1) := by decide +kernel
theorem dL_law_398 : decode cL_law 398 = .ok (.aload_n 0, 1) := by decide +kernel
theorem dL_law_399 : decode cL_law 399 = .ok (.iload_n 3, 1) := by decide +kernel
theorem dL_law_400 : decode cL_law 400 = .ok (.iconst 1, 1) := by decide +kernel
theorem dL_law_401 : decode cL_law 401 = .ok (.iadd, 1) := by decide +kernel
theorem dL_law_402 : decode cL_law 402 = .ok (.iaload, 1) := by decide +kernel
theorem dL_law_403 : decode cL_law 403 = .ok (.aload_n 0, 1) := by decide +kernel
theorem dL_law_404 : decode cL_law 404 = .ok (.iload_n 3, 1) := by decide +kernel
theorem dL_law_405 : decode cL_law 405 = .ok (.iconst 2, 1) := by decide +kernel
theorem dL_law_406 : decode cL_law 406 = .ok (.iadd, 1) := by decide +kernel
theorem dL_law_407 : decode cL_law 407 = .ok (.iaload, 1) := by decide +kernel
theorem dL_law_408 : decode cL_law 408 = .ok (.invokevirtual 55, 3) := by decide +kernel
theorem dL_law_411 : decode cL_law 411 = .ok (.if_icmp .eq 573, 3) := by decide +kernel
theorem dL_law_414 : decode cL_law 414 = .ok (.iconst 0, 1) := by decide +kernel
theorem dL_law_415 : decode cL_law 415 = .ok (.ireturn, 1) := by decide +kernel
theorem dL_law_416 : decode cL_law 416 = .ok (.aload_n 1, 1) := by decide +kernel
theorem dL_law_417 : decode cL_law 417 = .ok (.aload_n 0, 1) := by decide +kernel
theorem dL_law_418 : decode cL_law 418 = .ok (.iload_n 3, 1) := by decide +kernel
theorem dL_law_419 : decode cL_law 419 = .ok (.iconst 1, 1) := by decide +kernel
theorem dL_law_420 : decode cL_law 420 = .ok (.iadd, 1) := by decide +kernel
theorem dL_law_421 : decode cL_law 421 = .ok (.iaload, 1) := by decide +kernel
theorem dL_law_422 : decode cL_law 422 = .ok (.aload_n 0, 1) := by decide +kernel
theorem dL_law_423 : decode cL_law 423 = .ok (.iload_n 3, 1) := by decide +kernel
theorem dL_law_424 : decode cL_law 424 = .ok (.iconst 2, 1) := by decide +kernel
theorem dL_law_425 : decode cL_law 425 = .ok (.iadd, 1) := by decide +kernel
theorem dL_law_426 : decode cL_law 426 = .ok (.iaload, 1) := by decide +kernel
theorem dL_law_427 : decode cL_law 427 = .ok (.aload_n 0, 1) := by decide +kernel
theorem dL_law_428 : decode cL_law 428 = .ok (.iload_n 3, 1) := by decide +kernel
theorem dL_law_429 : decode cL_law 429 = .ok (.iconst 3, 1) := by decide +kernel
theorem dL_law_430 : decode cL_law 430 = .ok (.iadd, 1) := by decide +kernel
theorem dL_law_431 : decode cL_law 431 = .ok (.iaload, 1) := by decide +kernel
theorem dL_law_432 : decode cL_law 432 = .ok (.invokevirtual 56, 3) := by decide +kernel
theorem dL_law_435 : decode cL_law 435 = .ok (.aload_n 2, 1) := by decide +kernel
theorem dL_law_436 : decode cL_law 436 = .ok (.aload_n 0, 1) := by decide +kernel
theorem dL_law_437 : decode cL_law 437 = .ok (.iload_n 3, 1) := by decide +kernel
theorem dL_law_438 : decode cL_law 438 = .ok (.iconst 1, 1) := by decide +kernel
theorem dL_law_439 : decode cL_law 439 = .ok (.iadd, 1) := by decide +kernel
theorem dL_law_440 : decode cL_law 440 = .ok (.iaload, 1) := by decide +kernel
theorem dL_law_441 : decode cL_law 441 = .ok (.aload_n 0, 1) := by decide +kernel
theorem dL_law_442 : decode cL_law 442 = .ok (.iload_n 3, 1) := by decide +kernel
theorem dL_law_443 : decode cL_law 443 = .ok (.iconst 2, 1) := by decide +kernel
theorem dL_law_444 : decode cL_law 444 = .ok (.iadd, 1) := by decide +kernel
theorem dL_law_445 : decode cL_law 445 = .ok (.iaload, 1) := by decide +kernel
theorem dL_law_446 : decode cL_law 446 = .ok (.aload_n 0, 1) := by decide +kernel
theorem dL_law_447 : decode cL_law 447 = .ok (.iload_n 3, 1) := by decide +kernel
theorem dL_law_448 : decode cL_law 448 = .ok (.iconst 3, 1) := by decide +kernel
theorem dL_law_449 : decode cL_law 449 = .ok (.iadd, 1) := by decide +kernel
theorem dL_law_450 : decode cL_law 450 = .ok (.iaload, 1) := by decide +kernel
theorem dL_law_451 : decode cL_law 451 = .ok (.invokevirtual 60, 3) := by decide +kernel
theorem dL_law_454 : decode cL_law 454 = .ok (.if_icmp .eq 530, 3) := by decide +kernel
theorem dL_law_457 : decode cL_law 457 = .ok (.iconst 0, 1) := by decide +kernel
theorem dL_law_458 : decode cL_law 458 = .ok (.ireturn, 1) := by decide +kernel
theorem dL_law_459 : decode cL_law 459 = .ok (.aload_n 1, 1) := by decide +kernel
theorem dL_law_460 : decode cL_law 460 = .ok (.aload_n 0, 1) := by decide +kernel
theorem dL_law_461 : decode cL_law 461 = .ok (.iload_n 3, 1) := by decide +kernel
theorem dL_law_462 : decode cL_law 462 = .ok (.iconst 1, 1) := by decide +kernel
theorem dL_law_463 : decode cL_law 463 = .ok (.iadd, 1) := by decide +kernel
theorem dL_law_464 : decode cL_law 464 = .ok (.iaload, 1) := by decide +kernel
theorem dL_law_465 : decode cL_law 465 = .ok (.invokevirtual 61, 3) := by decide +kernel
theorem dL_law_468 : decode cL_law 468 = .ok (.aload_n 2, 1) := by decide +kernel
theorem dL_law_469 : decode cL_law 469 = .ok (.aload_n 0, 1) := by decide +kernel
theorem dL_law_470 : decode cL_law 470 = .ok (.iload_n 3, 1) := by decide +kernel
theorem dL_law_471 : decode cL_law 471 = .ok (.iconst 1, 1) := by decide +kernel
theorem dL_law_472 : decode cL_law 472 = .ok (.iadd, 1) := by decide +kernel
theorem dL_law_473 : decode cL_law 473 = .ok (.iaload, 1) := by decide +kernel
theorem dL_law_474 : decode cL_law 474 = .ok (.invokevirtual 64, 3) := by decide +kernel
theorem dL_law_477 : decode cL_law 477 = .ok (.if_icmp .eq 507, 3) := by decide +kernel
theorem dL_law_480 : decode cL_law 480 = .ok (.iconst 0, 1) := by decide +kernel
theorem dL_law_481 : decode cL_law 481 = .ok (.ireturn, 1) := by decide +kernel
theorem dL_law_482 : decode cL_law 482 = .ok (.aload_n 1, 1) := by decide +kernel
theorem dL_law_483 : decode cL_law 483 = .ok (.aload_n 0, 1) := by decide +kernel
theorem dL_law_484 : decode cL_law 484 = .ok (.iload_n 3, 1) := by decide +kernel
theorem dL_law_485 : decode cL_law 485 = .ok (.iconst 1, 1) := by decide +kernel
theorem dL_law_486 : decode cL_law 486 = .ok (.iadd, 1) := by decide +kernel
theorem dL_law_487 : decode cL_law 487 = .ok (.iaload, 1) := by decide +kernel
theorem dL_law_488 : decode cL_law 488 = .ok (.invokevirtual 65, 3) := by decide +kernel
theorem dL_law_491 : decode cL_law 491 = .ok (.aload_n 2, 1) := by decide +kernel
theorem dL_law_492 : decode cL_law 492 = .ok (.aload_n 0, 1) := by decide +kernel
theorem dL_law_493 : decode cL_law 493 = .ok (.iload_n 3, 1) := by decide +kernel
theorem dL_law_494 : decode cL_law 494 = .ok (.iconst 1, 1) := by decide +kernel
theorem dL_law_495 : decode cL_law 495 = .ok (.iadd, 1) := by decide +kernel
theorem dL_law_496 : decode cL_law 496 = .ok (.iaload, 1) := by decide +kernel
theorem dL_law_497 : decode cL_law 497 = .ok (.invokevirtual 68, 3) := by decide +kernel
theorem dL_law_500 : decode cL_law 500 = .ok (.if_icmp .eq 484, 3) := by decide +kernel
theorem dL_law_503 : decode cL_law 503 = .ok (.iconst 0, 1) := by decide +kernel
theorem dL_law_504 : decode cL_law 504 = .ok (.ireturn, 1) := by decide +kernel
theorem dL_law_505 : decode cL_law 505 = .ok (.aload_n 1, 1) := by decide +kernel
theorem dL_law_506 : decode cL_law 506 = .ok (.aload_n 0, 1) := by decide +kernel
theorem dL_law_507 : decode cL_law 507 = .ok (.iload_n 3, 1) := by decide +kernel
theorem dL_law_508 : decode cL_law 508 = .ok (.iconst 1, 1) := by decide +kernel
theorem dL_law_509 : decode cL_law 509 = .ok (.iadd, 1) := by decide +kernel
theorem dL_law_510 : decode cL_law 510 = .ok (.iaload, 1) := by decide +kernel
theorem dL_law_511 : decode cL_law 511 = .ok (.aload_n 0, 1) := by decide +kernel
theorem dL_law_512 : decode cL_law 512 = .ok (.iload_n 3, 1) := by decide +kernel
theorem dL_law_513 : decode cL_law 513 = .ok (.iconst 2, 1) := by decide +kernel
theorem dL_law_514 : decode cL_law 514 = .ok (.iadd, 1) := by decide +kernel
theorem dL_law_515 : decode cL_law 515 = .ok (.iaload, 1) := by decide +kernel
theorem dL_law_516 : decode cL_law 516 = .ok (.invokevirtual 69, 3) := by decide +kernel
theorem dL_law_519 : decode cL_law 519 = .ok (.aload_n 2, 1) := by decide +kernel
theorem dL_law_520 : decode cL_law 520 = .ok (.aload_n 0, 1) := by decide +kernel
theorem dL_law_521 : decode cL_law 521 = .ok (.iload_n 3, 1) := by decide +kernel
theorem dL_law_522 : decode cL_law 522 = .ok (.iconst 1, 1) := by decide +kernel
theorem dL_law_523 : decode cL_law 523 = .ok (.iadd, 1) := by decide +kernel
theorem dL_law_524 : decode cL_law 524 = .ok (.iaload, 1) := by decide +kernel
theorem dL_law_525 : decode cL_law 525 = .ok (.aload_n 0, 1) := by decide +kernel
theorem dL_law_526 : decode cL_law 526 = .ok (.iload_n 3, 1) := by decide +kernel
theorem dL_law_527 : decode cL_law 527 = .ok (.iconst 2, 1) := by decide +kernel
theorem dL_law_528 : decode cL_law 528 = .ok (.iadd, 1) := by decide +kernel
theorem dL_law_529 : decode cL_law 529 = .ok (.iaload, 1) := by decide +kernel
theorem dL_law_530 : decode cL_law 530 = .ok (.invokevirtual 72, 3) := by decide +kernel
theorem dL_law_533 : decode cL_law 533 = .ok (.if_icmp .eq 451, 3) := by decide +kernel
theorem dL_law_536 : decode cL_law 536 = .ok (.iconst 0, 1) := by decide +kernel
theorem dL_law_537 : decode cL_law 537 = .ok (.ireturn, 1) := by decide +kernel
theorem dL_law_538 : decode cL_law 538 = .ok (.aload_n 1, 1) := by decide +kernel
theorem dL_law_539 : decode cL_law 539 = .ok (.aload_n 0, 1) := by decide +kernel
theorem dL_law_540 : decode cL_law 540 = .ok (.iload_n 3, 1) := by decide +kernel
theorem dL_law_541 : decode cL_law 541 = .ok (.iconst 1, 1) := by decide +kernel
theorem dL_law_542 : decode cL_law 542 = .ok (.iadd, 1) := by decide +kernel
theorem dL_law_543 : decode cL_law 543 = .ok (.iaload, 1) := by decide +kernel
theorem dL_law_544 : decode cL_law 544 = .ok (.aload_n 0, 1) := by decide +kernel
theorem dL_law_545 : decode cL_law 545 = .ok (.iload_n 3, 1) := by decide +kernel
theorem dL_law_546 : decode cL_law 546 = .ok (.iconst 2, 1) := by decide +kernel
theorem dL_law_547 : decode cL_law 547 = .ok (.iadd, 1) := by decide +kernel
theorem dL_law_548 : decode cL_law 548 = .ok (.iaload, 1) := by decide +kernel
theorem dL_law_549 : decode cL_law 549 = .ok (.invokevirtual 73, 3) := by decide +kernel
theorem dL_law_552 : decode cL_law 552 = .ok (.aload_n 2, 1) := by decide +kernel
theorem dL_law_553 : decode cL_law 553 = .ok (.aload_n 0, 1) := by decide +kernel
theorem dL_law_554 : decode cL_law 554 = .ok (.iload_n 3, 1) := by decide +kernel
theorem dL_law_555 : decode cL_law 555 = .ok (.iconst 1, 1) := by decide +kernel
theorem dL_law_556 : decode cL_law 556 = .ok (.iadd, 1) := by decide +kernel
theorem dL_law_557 : decode cL_law 557 = .ok (.iaload, 1) := by decide +kernel
theorem dL_law_558 : decode cL_law 558 = .ok (.aload_n 0, 1) := by decide +kernel
theorem dL_law_559 : decode cL_law 559 = .ok (.iload_n 3, 1) := by decide +kernel
theorem dL_law_560 : decode cL_law 560 = .ok (.iconst 2, 1) := by decide +kernel
theorem dL_law_561 : decode cL_law 561 = .ok (.iadd, 1) := by decide +kernel
theorem dL_law_562 : decode cL_law 562 = .ok (.iaload, 1) := by decide +kernel
theorem dL_law_563 : decode cL_law 563 = .ok (.invokevirtual 76, 3) := by decide +kernel
theorem dL_law_566 : decode cL_law 566 = .ok (.if_icmp .eq 418, 3) := by decide +kernel
theorem dL_law_569 : decode cL_law 569 = .ok (.iconst 0, 1) := by decide +kernel
theorem dL_law_570 : decode cL_law 570 = .ok (.ireturn, 1) := by decide +kernel
theorem dL_law_571 : decode cL_law 571 = .ok (.aload_n 1, 1) := by decide +kernel
theorem dL_law_572 : decode cL_law 572 = .ok (.invokevirtual 77, 3) := by decide +kernel
theorem dL_law_575 : decode cL_law 575 = .ok (.aload_n 2, 1) := by decide +kernel
theorem dL_law_576 : decode cL_law 576 = .ok (.invokevirtual 80, 3) := by decide +kernel
theorem dL_law_579 : decode cL_law 579 = .ok (.if_icmp .eq 405, 3) := by decide +kernel
theorem dL_law_582 : decode cL_law 582 = .ok (.iconst 0, 1) := by decide +kernel
theorem dL_law_583 : decode cL_law 583 = .ok (.ireturn, 1) := by decide +kernel
theorem dL_law_584 : decode cL_law 584 = .ok (.aload_n 1, 1) := by decide +kernel
theorem dL_law_585 : decode cL_law 585 = .ok (.invokevirtual 81, 3) := by decide +kernel
theorem dL_law_588 : decode cL_law 588 = .ok (.aload_n 2, 1) := by decide +kernel
theorem dL_law_589 : decode cL_law 589 = .ok (.invokevirtual 84, 3) := by decide +kernel
theorem dL_law_592 : decode cL_law 592 = .ok (.if_icmp .eq 392, 3) := by decide +kernel
theorem dL_law_595 : decode cL_law 595 = .ok (.iconst 0, 1) := by decide +kernel
theorem dL_law_596 : decode cL_law 596 = .ok (.ireturn, 1) := by decide +kernel
theorem dL_law_597 : decode cL_law 597 = .ok (.aload_n 1, 1) := by decide +kernel
theorem dL_law_598 : decode cL_law 598 = .ok (.invokevirtual 85, 3) := by decide +kernel
theorem dL_law_601 : decode cL_law 601 = .ok (.aload_n 2, 1) := by decide +kernel
theorem dL_law_602 : decode cL_law 602 = .ok (.invokevirtual 88, 3) := by decide +kernel
theorem dL_law_605 : decode cL_law 605 = .ok (.if_icmp .eq 379, 3) := by decide +kernel
theorem dL_law_608 : decode cL_law 608 = .ok (.iconst 0, 1) := by decide +kernel
theorem dL_law_609 : decode cL_law 609 = .ok (.ireturn, 1) := by decide +kernel
theorem dL_law_610 : decode cL_law 610 = .ok (.aload_n 1, 1) := by decide +kernel
theorem dL_law_611 : decode cL_law 611 = .ok (.invokevirtual 89, 3) := by decide +kernel
theorem dL_law_614 : decode cL_law 614 = .ok (.aload_n 2, 1) := by decide +kernel
theorem dL_law_615 : decode cL_law 615 = .ok (.invokevirtual 92, 3) := by decide +kernel
theorem dL_law_618 : decode cL_law 618 = .ok (.if_icmp .eq 366, 3) := by decide +kernel
theorem dL_law_621 : decode cL_law 621 = .ok (.iconst 0, 1) := by decide +kernel
theorem dL_law_622 : decode cL_law 622 = .ok (.ireturn, 1) := by decide +kernel
theorem dL_law_623 : decode cL_law 623 = .ok (.aload_n 1, 1) := by decide +kernel
theorem dL_law_624 : decode cL_law 624 = .ok (.aload_n 0, 1) := by decide +kernel
theorem dL_law_625 : decode cL_law 625 = .ok (.iload_n 3, 1) := by decide +kernel
theorem dL_law_626 : decode cL_law 626 = .ok (.iconst 1, 1) := by decide +kernel
theorem dL_law_627 : decode cL_law 627 = .ok (.iadd, 1) := by decide +kernel
theorem dL_law_628 : decode cL_law 628 = .ok (.iaload, 1) := by decide +kernel
theorem dL_law_629 : decode cL_law 629 = .ok (.aload_n 0, 1) := by decide +kernel
theorem dL_law_630 : decode cL_law 630 = .ok (.iload_n 3, 1) := by decide +kernel
theorem dL_law_631 : decode cL_law 631 = .ok (.iconst 2, 1) := by decide +kernel
theorem dL_law_632 : decode cL_law 632 = .ok (.iadd, 1) := by decide +kernel
theorem dL_law_633 : decode cL_law 633 = .ok (.iaload, 1) := by decide +kernel
theorem dL_law_634 : decode cL_law 634 = .ok (.aload_n 0, 1) := by decide +kernel
theorem dL_law_635 : decode cL_law 635 = .ok (.iload_n 3, 1) := by decide +kernel
theorem dL_law_636 : decode cL_law 636 = .ok (.iconst 3, 1) := by decide +kernel
theorem dL_law_637 : decode cL_law 637 = .ok (.iadd, 1) := by decide +kernel
theorem dL_law_638 : decode cL_law 638 = .ok (.iaload, 1) := by decide +kernel
theorem dL_law_639 : decode cL_law 639 = .ok (.invokevirtual 93, 3) := by decide +kernel
theorem dL_law_642 : decode cL_law 642 = .ok (.aload_n 2, 1) := by decide +kernel
theorem dL_law_643 : decode cL_law 643 = .ok (.aload_n 0, 1) := by decide +kernel
theorem dL_law_644 : decode cL_law 644 = .ok (.iload_n 3, 1) := by decide +kernel
theorem dL_law_645 : decode cL_law 645 = .ok (.iconst 1, 1) := by decide +kernel
theorem dL_law_646 : decode cL_law 646 = .ok (.iadd, 1) := by decide +kernel
theorem dL_law_647 : decode cL_law 647 = .ok (.iaload, 1) := by decide +kernel
theorem dL_law_648 : decode cL_law 648 = .ok (.aload_n 0, 1) := by decide +kernel
theorem dL_law_649 : decode cL_law 649 = .ok (.iload_n 3, 1) := by decide +kernel
theorem dL_law_650 : decode cL_law 650 = .ok (.iconst 2, 1) := by decide +kernel
theorem dL_law_651 : decode cL_law 651 = .ok (.iadd, 1) := by decide +kernel
theorem dL_law_652 : decode cL_law 652 = .ok (.iaload, 1) := by decide +kernel
theorem dL_law_653 : decode cL_law 653 = .ok (.aload_n 0, 1) := by decide +kernel
theorem dL_law_654 : decode cL_law 654 = .ok (.iload_n 3, 1) := by decide +kernel
theorem dL_law_655 : decode cL_law 655 = .ok (.iconst 3, 1) := by decide +kernel
theorem dL_law_656 : decode cL_law 656 = .ok (.iadd, 1) := by decide +kernel
theorem dL_law_657 : decode cL_law 657 = .ok (.iaload, 1) := by decide +kernel
theorem dL_law_658 : decode cL_law 658 = .ok (.invokevirtual 96, 3) := by decide +kernel
theorem dL_law_661 : decode cL_law 661 = .ok (.if_icmp .eq 323, 3) := by decide +kernel
theorem dL_law_664 : decode cL_law 664 = .ok (.iconst 0, 1) := by decide +kernel
theorem dL_law_665 : decode cL_law 665 = .ok (.ireturn, 1) := by decide +kernel
theorem dL_law_666 : decode cL_law 666 = .ok (.aload_n 1, 1) := by decide +kernel
theorem dL_law_667 : decode cL_law 667 = .ok (.aload_n 0, 1) := by decide +kernel
theorem dL_law_668 : decode cL_law 668 = .ok (.iload_n 3, 1) := by decide +kernel
theorem dL_law_669 : decode cL_law 669 = .ok (.iconst 1, 1) := by decide +kernel
theorem dL_law_670 : decode cL_law 670 = .ok (.iadd, 1) := by decide +kernel
theorem dL_law_671 : decode cL_law 671 = .ok (.iaload, 1) := by decide +kernel
theorem dL_law_672 : decode cL_law 672 = .ok (.invokevirtual 97, 3) := by decide +kernel
theorem dL_law_675 : decode cL_law 675 = .ok (.aload_n 2, 1) := by decide +kernel
theorem dL_law_676 : decode cL_law 676 = .ok (.aload_n 0, 1) := by decide +kernel
theorem dL_law_677 : decode cL_law 677 = .ok (.iload_n 3, 1) := by decide +kernel
theorem dL_law_678 : decode cL_law 678 = .ok (.iconst 1, 1) := by decide +kernel
theorem dL_law_679 : decode cL_law 679 = .ok (.iadd, 1) := by decide +kernel
theorem dL_law_680 : decode cL_law 680 = .ok (.iaload, 1) := by decide +kernel
theorem dL_law_681 : decode cL_law 681 = .ok (.invokevirtual 100, 3) := by decide +kernel
theorem dL_law_684 : decode cL_law 684 = .ok (.if_icmp .eq 300, 3) := by decide +kernel
theorem dL_law_687 : decode cL_law 687 = .ok (.iconst 0, 1) := by decide +kernel
theorem dL_law_688 : decode cL_law 688 = .ok (.ireturn, 1) := by decide +kernel
theorem dL_law_689 : decode cL_law 689 = .ok (.aload_n 1, 1) := by decide +kernel
theorem dL_law_690 : decode cL_law 690 = .ok (.aload_n 0, 1) := by decide +kernel
theorem dL_law_691 : decode cL_law 691 = .ok (.iload_n 3, 1) := by decide +kernel
theorem dL_law_692 : decode cL_law 692 = .ok (.iconst 1, 1) := by decide +kernel
theorem dL_law_693 : decode cL_law 693 = .ok (.iadd, 1) := by decide +kernel
theorem dL_law_694 : decode cL_law 694 = .ok (.iaload, 1) := by decide +kernel
theorem dL_law_695 : decode cL_law 695 = .ok (.aload_n 0, 1) := by decide +kernel
theorem dL_law_696 : decode cL_law 696 = .ok (.iload_n 3, 1) := by decide +kernel
theorem dL_law_697 : decode cL_law 697 = .ok (.iconst 2, 1) := by decide +kernel
theorem dL_law_698 : decode cL_law 698 = .ok (.iadd, 1) := by decide +kernel
theorem dL_law_699 : decode cL_law 699 = .ok (.iaload, 1) := by decide +kernel
theorem dL_law_700 : decode cL_law 700 = .ok (.invokevirtual 101, 3) := by decide +kernel
theorem dL_law_703 : decode cL_law 703 = .ok (.aload_n 2, 1) := by decide +kernel
theorem dL_law_704 : decode cL_law 704 = .ok (.aload_n 0, 1) := by decide +kernel
theorem dL_law_705 : decode cL_law 705 = .ok (.iload_n 3, 1) := by decide +kernel
theorem dL_law_706 : decode cL_law 706 = .ok (.iconst 1, 1) := by decide +kernel
theorem dL_law_707 : decode cL_law 707 = .ok (.iadd, 1) := by decide +kernel
theorem dL_law_708 : decode cL_law 708 = .ok (.iaload, 1) := by decide +kernel
theorem dL_law_709 : decode cL_law 709 = .ok (.aload_n 0, 1) := by decide +kernel
theorem dL_law_710 : decode cL_law 710 = .ok (.iload_n 3, 1) := by decide +kernel
theorem dL_law_711 : decode cL_law 711 = .ok (.iconst 2, 1) := by decide +kernel
theorem dL_law_712 : decode cL_law 712 = .ok (.iadd, 1) := by decide +kernel
theorem dL_law_713 : decode cL_law 713 = .ok (.iaload, 1) := by decide +kernel
theorem dL_law_714 : decode cL_law 714 = .ok (.invokevirtual 104, 3) := by decide +kernel
theorem dL_law_717 : decode cL_law 717 = .ok (.if_icmp .eq 267, 3) := by decide +kernel
theorem dL_law_720 : decode cL_law 720 = .ok (.iconst 0, 1) := by decide +kernel
theorem dL_law_721 : decode cL_law 721 = .ok (.ireturn, 1) := by decide +kernel
theorem dL_law_722 : decode cL_law 722 = .ok (.aload_n 1, 1) := by decide +kernel
theorem dL_law_723 : decode cL_law 723 = .ok (.aload_n 0, 1) := by decide +kernel
theorem dL_law_724 : decode cL_law 724 = .ok (.iload_n 3, 1) := by decide +kernel
theorem dL_law_725 : decode cL_law 725 = .ok (.iconst 1, 1) := by decide +kernel
theorem dL_law_726 : decode cL_law 726 = .ok (.iadd, 1) := by decide +kernel
theorem dL_law_727 : decode cL_law 727 = .ok (.iaload, 1) := by decide +kernel
theorem dL_law_728 : decode cL_law 728 = .ok (.invokevirtual 105, 3) := by decide +kernel
theorem dL_law_731 : decode cL_law 731 = .ok (.aload_n 2, 1) := by decide +kernel
theorem dL_law_732 : decode cL_law 732 = .ok (.aload_n 0, 1) := by decide +kernel
theorem dL_law_733 : decode cL_law 733 = .ok (.iload_n 3, 1) := by decide +kernel
theorem dL_law_734 : decode cL_law 734 = .ok (.iconst 1, 1) := by decide +kernel
theorem dL_law_735 : decode cL_law 735 = .ok (.iadd, 1) := by decide +kernel
theorem dL_law_736 : decode cL_law 736 = .ok (.iaload, 1) := by decide +kernel
theorem dL_law_737 : decode cL_law 737 = .ok (.invokevirtual 108, 3) := by decide +kernel
theorem dL_law_740 : decode cL_law 740 = .ok (.if_icmp .eq 244, 3) := by decide +kernel
theorem dL_law_743 : decode cL_law 743 = .ok (.iconst 0, 1) := by decide +kernel
theorem dL_law_744 : decode cL_law 744 = .ok (.ireturn, 1) := by decide +kernel
theorem dL_law_745 : decode cL_law 745 = .ok (.aload_n 1, 1) := by decide +kernel
theorem dL_law_746 : decode cL_law 746 = .ok (.aload_n 0, 1) := by decide +kernel
theorem dL_law_747 : decode cL_law 747 = .ok (.iload_n 3, 1) := by decide +kernel
theorem dL_law_748 : decode cL_law 748 = .ok (.iconst 1, 1) := by decide +kernel
theorem dL_law_749 : decode cL_law 749 = .ok (.iadd, 1) := by decide +kernel
theorem dL_law_750 : decode cL_law 750 = .ok (.iaload, 1) := by decide +kernel
theorem dL_law_751 : decode cL_law 751 = .ok (.aload_n 0, 1) := by decide +kernel
theorem dL_law_752 : decode cL_law 752 = .ok (.iload_n 3, 1) := by decide +kernel
theorem dL_law_753 : decode cL_law 753 = .ok (.iconst 2, 1) := by decide +kernel
theorem dL_law_754 : decode cL_law 754 = .ok (.iadd, 1) := by decide +kernel
theorem dL_law_755 : decode cL_law 755 = .ok (.iaload, 1) := by decide +kernel
theorem dL_law_756 : decode cL_law 756 = .ok (.invokevirtual 109, 3) := by decide +kernel
theorem dL_law_759 : decode cL_law 759 = .ok (.aload_n 2, 1) := by decide +kernel
theorem dL_law_760 : decode cL_law 760 = .ok (.aload_n 0, 1) := by decide +kernel
theorem dL_law_761 : decode cL_law 761 = .ok (.iload_n 3, 1) := by decide +kernel
theorem dL_law_762 : decode cL_law 762 = .ok (.iconst 1, 1) := by decide +kernel
theorem dL_law_763 : decode cL_law 763 = .ok (.iadd, 1) := by decide +kernel
theorem dL_law_764 : decode cL_law 764 = .ok (.iaload, 1) := by decide +kernel
theorem dL_law_765 : decode cL_law 765 = .ok (.aload_n 0, 1) := by decide +kernel
theorem dL_law_766 : decode cL_law 766 = .ok (.iload_n 3, 1) := by decide +kernel
theorem dL_law_767 : decode cL_law 767 = .ok (.iconst 2, 1) := by decide +kernel
theorem dL_law_768 : decode cL_law 768 = .ok (.iadd, 1) := by decide +kernel
theorem dL_law_769 : decode cL_law 769 = .ok (.iaload, 1) := by decide +kernel
theorem dL_law_770 : decode cL_law 770 = .ok (.invokevirtual 112, 3) := by decide +kernel
theorem dL_law_773 : decode cL_law 773 = .ok (.if_icmp .eq 211, 3) := by decide +kernel
theorem dL_law_776 : decode cL_law 776 = .ok (.iconst 0, 1) := by decide +kernel
theorem dL_law_777 : decode cL_law 777 = .ok (.ireturn, 1) := by decide +kernel
theorem dL_law_778 : decode cL_law 778 = .ok (.aload_n 1, 1) := by decide +kernel
theorem dL_law_779 : decode cL_law 779 = .ok (.aload_n 0, 1) := by decide +kernel
theorem dL_law_780 : decode cL_law 780 = .ok (.iload_n 3, 1) := by decide +kernel
theorem dL_law_781 : decode cL_law 781 = .ok (.iconst 1, 1) := by decide +kernel
theorem dL_law_782 : decode cL_law 782 = .ok (.iadd, 1) := by decide +kernel
theorem dL_law_783 : decode cL_law 783 = .ok (.iaload, 1) := by decide +kernel
theorem dL_law_784 : decode cL_law 784 = .ok (.aload_n 0, 1) := by decide +kernel
theorem dL_law_785 : decode cL_law 785 = .ok (.iload_n 3, 1) := by decide +kernel
theorem dL_law_786 : decode cL_law 786 = .ok (.iconst 2, 1) := by decide +kernel
theorem dL_law_787 : decode cL_law 787 = .ok (.iadd, 1) := by decide +kernel
theorem dL_law_788 : decode cL_law 788 = .ok (.iaload, 1) := by decide +kernel
theorem dL_law_789 : decode cL_law 789 = .ok (.invokevirtual 113, 3) := by decide +kernel
theorem dL_law_792 : decode cL_law 792 = .ok (.aload_n 2, 1) := by decide +kernel
theorem dL_law_793 : decode cL_law 793 = .ok (.aload_n 0, 1) := by decide +kernel
theorem dL_law_794 : decode cL_law 794 = .ok (.iload_n 3, 1) := by decide +kernel
theorem dL_law_795 : decode cL_law 795 = .ok (.iconst 1, 1) := by decide +kernel
theorem dL_law_796 : decode cL_law 796 = .ok (.iadd, 1) := by decide +kernel
theorem dL_law_797 : decode cL_law 797 = .ok (.iaload, 1) := by decide +kernel
theorem dL_law_798 : decode cL_law 798 = .ok (.aload_n 0, 1) := by decide +kernel
theorem dL_law_799 : decode cL_law 799 = .ok (.iload_n 3, 1) := by decide +kernel
theorem dL_law_800 : decode cL_law 800 = .ok (.iconst 2, 1) := by decide +kernel
theorem dL_law_801 : decode cL_law 801 = .ok (.iadd, 1) := by decide +kernel
theorem dL_law_802 : decode cL_law 802 = .ok (.iaload, 1) := by decide +kernel
theorem dL_law_803 : decode cL_law 803 = .ok (.invokevirtual 116, 3) := by decide +kernel
theorem dL_law_806 : decode cL_law 806 = .ok (.if_icmp .eq 178, 3) := by decide +kernel
theorem dL_law_809 : decode cL_law 809 = .ok (.iconst 0, 1) := by decide +kernel
theorem dL_law_810 : decode cL_law 810 = .ok (.ireturn, 1) := by decide +kernel
theorem dL_law_811 : decode cL_law 811 = .ok (.aload_n 1, 1) := by decide +kernel
theorem dL_law_812 : decode cL_law 812 = .ok (.aload_n 0, 1) := by decide +kernel
theorem dL_law_813 : decode cL_law 813 = .ok (.iload_n 3, 1) := by decide +kernel
theorem dL_law_814 : decode cL_law 814 = .ok (.iconst 1, 1) := by decide +kernel
theorem dL_law_815 : decode cL_law 815 = .ok (.iadd, 1) := by decide +kernel
theorem dL_law_816 : decode cL_law 816 = .ok (.iaload, 1) := by decide +kernel
theorem dL_law_817 : decode cL_law 817 = .ok (.aload_n 0, 1) := by decide +kernel
theorem dL_law_818 : decode cL_law 818 = .ok (.iload_n 3, 1) := by decide +kernel
theorem dL_law_819 : decode cL_law 819 = .ok (.iconst 2, 1) := by decide +kernel
theorem dL_law_820 : decode cL_law 820 = .ok (.iadd, 1) := by decide +kernel
theorem dL_law_821 : decode cL_law 821 = .ok (.iaload, 1) := by decide +kernel
theorem dL_law_822 : decode cL_law 822 = .ok (.aload_n 0, 1) := by decide +kernel
theorem dL_law_823 : decode cL_law 823 = .ok (.iload_n 3, 1) := by decide +kernel
theorem dL_law_824 : decode cL_law 824 = .ok (.iconst 3, 1) := by decide +kernel
theorem dL_law_825 : decode cL_law 825 = .ok (.iadd, 1) := by decide +kernel
theorem dL_law_826 : decode cL_law 826 = .ok (.iaload, 1) := by decide +kernel
theorem dL_law_827 : decode cL_law 827 = .ok (.invokevirtual 117, 3) := by decide +kernel
theorem dL_law_830 : decode cL_law 830 = .ok (.aload_n 2, 1) := by decide +kernel
theorem dL_law_831 : decode cL_law 831 = .ok (.aload_n 0, 1) := by decide +kernel
theorem dL_law_832 : decode cL_law 832 = .ok (.iload_n 3, 1) := by decide +kernel
theorem dL_law_833 : decode cL_law 833 = .ok (.iconst 1, 1) := by decide +kernel
theorem dL_law_834 : decode cL_law 834 = .ok (.iadd, 1) := by decide +kernel
theorem dL_law_835 : decode cL_law 835 = .ok (.iaload, 1) := by decide +kernel
theorem dL_law_836 : decode cL_law 836 = .ok (.aload_n 0, 1) := by decide +kernel
theorem dL_law_837 : decode cL_law 837 = .ok (.iload_n 3, 1) := by decide +kernel
theorem dL_law_838 : decode cL_law 838 = .ok (.iconst 2, 1) := by decide +kernel
theorem dL_law_839 : decode cL_law 839 = .ok (.iadd, 1) := by decide +kernel
theorem dL_law_840 : decode cL_law 840 = .ok (.iaload, 1) := by decide +kernel
theorem dL_law_841 : decode cL_law 841 = .ok (.aload_n 0, 1) := by decide +kernel
theorem dL_law_842 : decode cL_law 842 = .ok (.iload_n 3, 1) := by decide +kernel
theorem dL_law_843 : decode cL_law 843 = .ok (.iconst 3, 1) := by decide +kernel
theorem dL_law_844 : decode cL_law 844 = .ok (.iadd, 1) := by decide +kernel
theorem dL_law_845 : decode cL_law 845 = .ok (.iaload, 1) := by decide +kernel
theorem dL_law_846 : decode cL_law 846 = .ok (.invokevirtual 120, 3) := by decide +kernel
theorem dL_law_849 : decode cL_law 849 = .ok (.if_icmp .eq 135, 3) := by decide +kernel
theorem dL_law_852 : decode cL_law 852 = .ok (.iconst 0, 1) := by decide +kernel
theorem dL_law_853 : decode cL_law 853 = .ok (.ireturn, 1) := by decide +kernel
theorem dL_law_854 : decode cL_law 854 = .ok (.aload_n 1, 1) := by decide +kernel
theorem dL_law_855 : decode cL_law 855 = .ok (.aload_n 0, 1) := by decide +kernel
theorem dL_law_856 : decode cL_law 856 = .ok (.iload_n 3, 1) := by decide +kernel
theorem dL_law_857 : decode cL_law 857 = .ok (.iconst 1, 1) := by decide +kernel
theorem dL_law_858 : decode cL_law 858 = .ok (.iadd, 1) := by decide +kernel
theorem dL_law_859 : decode cL_law 859 = .ok (.iaload, 1) := by decide +kernel
theorem dL_law_860 : decode cL_law 860 = .ok (.invokevirtual 121, 3) := by decide +kernel
theorem dL_law_863 : decode cL_law 863 = .ok (.aload_n 2, 1) := by decide +kernel
theorem dL_law_864 : decode cL_law 864 = .ok (.aload_n 0, 1) := by decide +kernel
theorem dL_law_865 : decode cL_law 865 = .ok (.iload_n 3, 1) := by decide +kernel
theorem dL_law_866 : decode cL_law 866 = .ok (.iconst 1, 1) := by decide +kernel
theorem dL_law_867 : decode cL_law 867 = .ok (.iadd, 1) := by decide +kernel
theorem dL_law_868 : decode cL_law 868 = .ok (.iaload, 1) := by decide +kernel
theorem dL_law_869 : decode cL_law 869 = .ok (.invokevirtual 125, 3) := by decide +kernel
theorem dL_law_872 : decode cL_law 872 = .ok (.lcmp, 1) := by decide +kernel
theorem dL_law_873 : decode cL_law 873 = .ok (.ifCond .eq 111, 3) := by decide +kernel
theorem dL_law_876 : decode cL_law 876 = .ok (.iconst 0, 1) := by decide +kernel
theorem dL_law_877 : decode cL_law 877 = .ok (.ireturn, 1) := by decide +kernel
theorem dL_law_878 : decode cL_law 878 = .ok (.aload_n 1, 1) := by decide +kernel
theorem dL_law_879 : decode cL_law 879 = .ok (.aload_n 0, 1) := by decide +kernel
theorem dL_law_880 : decode cL_law 880 = .ok (.iload_n 3, 1) := by decide +kernel
theorem dL_law_881 : decode cL_law 881 = .ok (.iconst 1, 1) := by decide +kernel
theorem dL_law_882 : decode cL_law 882 = .ok (.iadd, 1) := by decide +kernel
theorem dL_law_883 : decode cL_law 883 = .ok (.iaload, 1) := by decide +kernel
theorem dL_law_884 : decode cL_law 884 = .ok (.invokevirtual 126, 3) := by decide +kernel
theorem dL_law_887 : decode cL_law 887 = .ok (.aload_n 2, 1) := by decide +kernel
theorem dL_law_888 : decode cL_law 888 = .ok (.aload_n 0, 1) := by decide +kernel
theorem dL_law_889 : decode cL_law 889 = .ok (.iload_n 3, 1) := by decide +kernel
theorem dL_law_890 : decode cL_law 890 = .ok (.iconst 1, 1) := by decide +kernel
theorem dL_law_891 : decode cL_law 891 = .ok (.iadd, 1) := by decide +kernel
theorem dL_law_892 : decode cL_law 892 = .ok (.iaload, 1) := by decide +kernel
theorem dL_law_893 : decode cL_law 893 = .ok (.invokevirtual 129, 3) := by decide +kernel
theorem dL_law_896 : decode cL_law 896 = .ok (.if_icmp .eq 88, 3) := by decide +kernel
theorem dL_law_899 : decode cL_law 899 = .ok (.iconst 0, 1) := by decide +kernel
theorem dL_law_900 : decode cL_law 900 = .ok (.ireturn, 1) := by decide +kernel
theorem dL_law_901 : decode cL_law 901 = .ok (.aload_n 1, 1) := by decide +kernel
theorem dL_law_902 : decode cL_law 902 = .ok (.aload_n 0, 1) := by decide +kernel
theorem dL_law_903 : decode cL_law 903 = .ok (.iload_n 3, 1) := by decide +kernel
theorem dL_law_904 : decode cL_law 904 = .ok (.iconst 1, 1) := by decide +kernel
theorem dL_law_905 : decode cL_law 905 = .ok (.iadd, 1) := by decide +kernel
theorem dL_law_906 : decode cL_law 906 = .ok (.iaload, 1) := by decide +kernel
theorem dL_law_907 : decode cL_law 907 = .ok (.invokevirtual 130, 3) := by decide +kernel
theorem dL_law_910 : decode cL_law 910 = .ok (.aload_n 2, 1) := by decide +kernel
theorem dL_law_911 : decode cL_law 911 = .ok (.aload_n 0, 1) := by decide +kernel
theorem dL_law_912 : decode cL_law 912 = .ok (.iload_n 3, 1) := by decide +kernel
theorem dL_law_913 : decode cL_law 913 = .ok (.iconst 1, 1) := by decide +kernel
theorem dL_law_914 : decode cL_law 914 = .ok (.iadd, 1) := by decide +kernel
theorem dL_law_915 : decode cL_law 915 = .ok (.iaload, 1) := by decide +kernel
theorem dL_law_916 : decode cL_law 916 = .ok (.invokevirtual 133, 3) := by decide +kernel
theorem dL_law_919 : decode cL_law 919 = .ok (.if_icmp .eq 65, 3) := by decide +kernel
theorem dL_law_922 : decode cL_law 922 = .ok (.iconst 0, 1) := by decide +kernel
theorem dL_law_923 : decode cL_law 923 = .ok (.ireturn, 1) := by decide +kernel
theorem dL_law_924 : decode cL_law 924 = .ok (.aload_n 1, 1) := by decide +kernel
theorem dL_law_925 : decode cL_law 925 = .ok (.aload_n 0, 1) := by decide +kernel
theorem dL_law_926 : decode cL_law 926 = .ok (.iload_n 3, 1) := by decide +kernel
theorem dL_law_927 : decode cL_law 927 = .ok (.iconst 1, 1) := by decide +kernel
theorem dL_law_928 : decode cL_law 928 = .ok (.iadd, 1) := by decide +kernel
theorem dL_law_929 : decode cL_law 929 = .ok (.iaload, 1) := by decide +kernel
theorem dL_law_930 : decode cL_law 930 = .ok (.invokevirtual 134, 3) := by decide +kernel
theorem dL_law_933 : decode cL_law 933 = .ok (.aload_n 2, 1) := by decide +kernel
theorem dL_law_934 : decode cL_law 934 = .ok (.aload_n 0, 1) := by decide +kernel
theorem dL_law_935 : decode cL_law 935 = .ok (.iload_n 3, 1) := by decide +kernel
theorem dL_law_936 : decode cL_law 936 = .ok (.iconst 1, 1) := by decide +kernel
theorem dL_law_937 : decode cL_law 937 = .ok (.iadd, 1) := by decide +kernel
theorem dL_law_938 : decode cL_law 938 = .ok (.iaload, 1) := by decide +kernel
theorem dL_law_939 : decode cL_law 939 = .ok (.invokevirtual 137, 3) := by decide +kernel
theorem dL_law_942 : decode cL_law 942 = .ok (.if_icmp .eq 42, 3) := by decide +kernel
theorem dL_law_945 : decode cL_law 945 = .ok (.iconst 0, 1) := by decide +kernel
theorem dL_law_946 : decode cL_law 946 = .ok (.ireturn, 1) := by decide +kernel
theorem dL_law_947 : decode cL_law 947 = .ok (.aload_n 1, 1) := by decide +kernel
theorem dL_law_948 : decode cL_law 948 = .ok (.aload_n 0, 1) := by decide +kernel
theorem dL_law_949 : decode cL_law 949 = .ok (.iload_n 3, 1) := by decide +kernel
theorem dL_law_950 : decode cL_law 950 = .ok (.iconst 1, 1) := by decide +kernel
theorem dL_law_951 : decode cL_law 951 = .ok (.iadd, 1) := by decide +kernel
theorem dL_law_952 : decode cL_law 952 = .ok (.iaload, 1) := by decide +kernel
theorem dL_law_953 : decode cL_law 953 = .ok (.invokevirtual 138, 3) := by decide +kernel
theorem dL_law_956 : decode cL_law 956 = .ok (.aload_n 2, 1) := by decide +kernel
theorem dL_law_957 : decode cL_law 957 = .ok (.aload_n 0, 1) := by decide +kernel
theorem dL_law_958 : decode cL_law 958 = .ok (.iload_n 3, 1) := by decide +kernel
theorem dL_law_959 : decode cL_law 959 = .ok (.iconst 1, 1) := by decide +kernel
theorem dL_law_960 : decode cL_law 960 = .ok (.iadd, 1) := by decide +kernel
theorem dL_law_961 : decode cL_law 961 = .ok (.iaload, 1) := by decide +kernel
theorem dL_law_962 : decode cL_law 962 = .ok (.invokevirtual 141, 3) := by decide +kernel
theorem dL_law_965 : decode cL_law 965 = .ok (.if_icmp .eq 19, 3) := by decide +kernel
theorem dL_law_968 : decode cL_law 968 = .ok (.iconst 0, 1) := by decide +kernel
theorem dL_law_969 : decode cL_law 969 = .ok (.ireturn, 1) := by decide +kernel
theorem dL_law_970 : decode cL_law 970 = .ok (.aload_n 1, 1) := by decide +kernel
theorem dL_law_971 : decode cL_law 971 = .ok (.invokevirtual 142, 3) := by decide +kernel
theorem dL_law_974 : decode cL_law 974 = .ok (.aload_n 2, 1) := by decide +kernel
theorem dL_law_975 : decode cL_law 975 = .ok (.invokevirtual 146, 3) := by decide +kernel
theorem dL_law_978 : decode cL_law 978 = .ok (.lcmp, 1) := by decide +kernel
theorem dL_law_979 : decode cL_law 979 = .ok (.ifCond .eq 5, 3) := by decide +kernel
theorem dL_law_982 : decode cL_law 982 = .ok (.iconst 0, 1) := by decide +kernel
theorem dL_law_983 : decode cL_law 983 = .ok (.ireturn, 1) := by decide +kernel
theorem dL_law_984 : decode cL_law 984 = .ok (.iinc 3 4, 3) := by decide +kernel
theorem dL_law_987 : decode cL_law 987 = .ok (.goto (-969), 3) := by decide +kernel
theorem dL_law_990 : decode cL_law 990 = .ok (.iconst 1, 1) := by decide +kernel
theorem dL_law_991 : decode cL_law 991 = .ok (.ireturn, 1) := by decide +kernel
