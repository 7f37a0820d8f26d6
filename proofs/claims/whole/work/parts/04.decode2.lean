theorem dX3_holder_40 : decode cX3_holder 40 = .ok (.getfield 10, 3) := by decide +kernel
theorem dX3_holder_43 : decode cX3_holder 43 = .ok (.iload_n 1, 1) := by decide +kernel
theorem dX3_holder_44 : decode cX3_holder 44 = .ok (.iload_n 2, 1) := by decide +kernel
theorem dX3_holder_45 : decode cX3_holder 45 = .ok (.invokevirtual 85, 3) := by decide +kernel
theorem dX3_holder_48 : decode cX3_holder 48 = .ok (.aload_n 0, 1) := by decide +kernel
theorem dX3_holder_49 : decode cX3_holder 49 = .ok (.getfield 10, 3) := by decide +kernel
theorem dX3_holder_52 : decode cX3_holder 52 = .ok (.iconst 0, 1) := by decide +kernel
theorem dX3_holder_53 : decode cX3_holder 53 = .ok (.putfield 88, 3) := by decide +kernel
theorem dX3_holder_56 : decode cX3_holder 56 = .ok (.aload_n 0, 1) := by decide +kernel
theorem dX3_holder_57 : decode cX3_holder 57 = .ok (.getfield 10, 3) := by decide +kernel
theorem dX3_holder_60 : decode cX3_holder 60 = .ok (.getfield 71, 3) := by decide +kernel
theorem dX3_holder_63 : decode cX3_holder 63 = .ok (.iconst 1, 1) := by decide +kernel
theorem dX3_holder_64 : decode cX3_holder 64 = .ok (.isub, 1) := by decide +kernel
theorem dX3_holder_65 : decode cX3_holder 65 = .ok (.ireturn, 1) := by decide +kernel
theorem dX3_way_0 : decode cX3_way 0 = .ok (.iload_n 1, 1) := by decide +kernel
theorem dX3_way_1 : decode cX3_way 1 = .ok (.iconst 1, 1) := by decide +kernel
theorem dX3_way_2 : decode cX3_way 2 = .ok (.iconst 3, 1) := by decide +kernel
theorem dX3_way_3 : decode cX3_way 3 = .ok (.invokestatic 63, 3) := by decide +kernel
theorem dX3_way_6 : decode cX3_way 6 = .ok (.ifCond .eq 13, 3) := by decide +kernel
theorem dX3_way_9 : decode cX3_way 9 = .ok (.iload_n 2, 1) := by decide +kernel
theorem dX3_way_10 : decode cX3_way 10 = .ok (.iconst 0, 1) := by decide +kernel
theorem dX3_way_11 : decode cX3_way 11 = .ok (.bipush 96, 2) := by decide +kernel
theorem dX3_way_13 : decode cX3_way 13 = .ok (.invokestatic 63, 3) := by decide +kernel
theorem dX3_way_16 : decode cX3_way 16 = .ok (.ifCond .ne 8, 3) := by decide +kernel
theorem dX3_way_19 : decode cX3_way 19 = .ok (.aload_n 0, 1) := by decide +kernel
theorem dX3_way_20 : decode cX3_way 20 = .ok (.invokevirtual 67, 3) := by decide +kernel
theorem dX3_way_23 : decode cX3_way 23 = .ok (.ireturn, 1) := by decide +kernel
theorem dX3_way_24 : decode cX3_way 24 = .ok (.aload_n 0, 1) := by decide +kernel
theorem dX3_way_25 : decode cX3_way 25 = .ok (.getfield 10, 3) := by decide +kernel
theorem dX3_way_28 : decode cX3_way 28 = .ok (.iload_n 1, 1) := by decide +kernel
theorem dX3_way_29 : decode cX3_way 29 = .ok (.invokevirtual 91, 3) := by decide +kernel
theorem dX3_way_32 : decode cX3_way 32 = .ok (.istore_n 3, 1) := by decide +kernel
theorem dX3_way_33 : decode cX3_way 33 = .ok (.aload_n 0, 1) := by decide +kernel
theorem dX3_way_34 : decode cX3_way 34 = .ok (.getfield 10, 3) := by decide +kernel
theorem dX3_way_37 : decode cX3_way 37 = .ok (.iload_n 1, 1) := by decide +kernel
theorem dX3_way_38 : decode cX3_way 38 = .ok (.iload_n 2, 1) := by decide +kernel
theorem dX3_way_39 : decode cX3_way 39 = .ok (.invokevirtual 95, 3) := by decide +kernel
theorem dX3_way_42 : decode cX3_way 42 = .ok (.iload_n 3, 1) := by decide +kernel
theorem dX3_way_43 : decode cX3_way 43 = .ok (.ireturn, 1) := by decide +kernel
theorem dX3_type_0 : decode cX3_type 0 = .ok (.iload_n 1, 1) := by decide +kernel
theorem dX3_type_1 : decode cX3_type 1 = .ok (.iconst 0, 1) := by decide +kernel
theorem dX3_type_2 : decode cX3_type 2 = .ok (.bipush 127, 2) := by decide +kernel
theorem dX3_type_4 : decode cX3_type 4 = .ok (.invokestatic 63, 3) := by decide +kernel
theorem dX3_type_7 : decode cX3_type 7 = .ok (.ifCond .ne 8, 3) := by decide +kernel
theorem dX3_type_10 : decode cX3_type 10 = .ok (.aload_n 0, 1) := by decide +kernel
theorem dX3_type_11 : decode cX3_type 11 = .ok (.invokevirtual 67, 3) := by decide +kernel
theorem dX3_type_14 : decode cX3_type 14 = .ok (.ireturn, 1) := by decide +kernel
theorem dX3_type_15 : decode cX3_type 15 = .ok (.aload_n 0, 1) := by decide +kernel
theorem dX3_type_16 : decode cX3_type 16 = .ok (.getfield 35, 3) := by decide +kernel
theorem dX3_type_19 : decode cX3_type 19 = .ok (.getfield 98, 3) := by decide +kernel
theorem dX3_type_22 : decode cX3_type 22 = .ok (.sipush 150, 3) := by decide +kernel
theorem dX3_type_25 : decode cX3_type 25 = .ok (.if_icmp .lt 8, 3) := by decide +kernel
theorem dX3_type_28 : decode cX3_type 28 = .ok (.aload_n 0, 1) := by decide +kernel
theorem dX3_type_29 : decode cX3_type 29 = .ok (.invokevirtual 82, 3) := by decide +kernel
theorem dX3_type_32 : decode cX3_type 32 = .ok (.ireturn, 1) := by decide +kernel
theorem dX3_type_33 : decode cX3_type 33 = .ok (.aload_n 0, 1) := by decide +kernel
theorem dX3_type_34 : decode cX3_type 34 = .ok (.getfield 35, 3) := by decide +kernel
theorem dX3_type_37 : decode cX3_type 37 = .ok (.iload_n 1, 1) := by decide +kernel
theorem dX3_type_38 : decode cX3_type 38 = .ok (.invokevirtual 101, 3) := by decide +kernel
theorem dX3_type_41 : decode cX3_type 41 = .ok (.aload_n 0, 1) := by decide +kernel
theorem dX3_type_42 : decode cX3_type 42 = .ok (.getfield 35, 3) := by decide +kernel
theorem dX3_type_45 : decode cX3_type 45 = .ok (.getfield 98, 3) := by decide +kernel
theorem dX3_type_48 : decode cX3_type 48 = .ok (.ireturn, 1) := by decide +kernel
theorem dX3_clear_0 : decode cX3_clear 0 = .ok (.aload_n 0, 1) := by decide +kernel
theorem dX3_clear_1 : decode cX3_clear 1 = .ok (.getfield 35, 3) := by decide +kernel
theorem dX3_clear_4 : decode cX3_clear 4 = .ok (.getfield 98, 3) := by decide +kernel
theorem dX3_clear_7 : decode cX3_clear 7 = .ok (.istore_n 1, 1) := by decide +kernel
theorem dX3_clear_8 : decode cX3_clear 8 = .ok (.aload_n 0, 1) := by decide +kernel
theorem dX3_clear_9 : decode cX3_clear 9 = .ok (.getfield 35, 3) := by decide +kernel
theorem dX3_clear_12 : decode cX3_clear 12 = .ok (.iconst 0, 1) := by decide +kernel
theorem dX3_clear_13 : decode cX3_clear 13 = .ok (.putfield 98, 3) := by decide +kernel
theorem dX3_clear_16 : decode cX3_clear 16 = .ok (.iload_n 1, 1) := by decide +kernel
theorem dX3_clear_17 : decode cX3_clear 17 = .ok (.ireturn, 1) := by decide +kernel
theorem dX3_read_0 : decode cX3_read 0 = .ok (.aload_n 0, 1) := by decide +kernel
theorem dX3_read_1 : decode cX3_read 1 = .ok (.getfield 35, 3) := by decide +kernel
theorem dX3_read_4 : decode cX3_read 4 = .ok (.aload_n 0, 1) := by decide +kernel
theorem dX3_read_5 : decode cX3_read 5 = .ok (.getfield 22, 3) := by decide +kernel
theorem dX3_read_8 : decode cX3_read 8 = .ok (.invokevirtual 105, 3) := by decide +kernel
theorem dX3_read_11 : decode cX3_read 11 = .ok (.istore_n 1, 1) := by decide +kernel
theorem dX3_read_12 : decode cX3_read 12 = .ok (.iload_n 1, 1) := by decide +kernel
theorem dX3_read_13 : decode cX3_read 13 = .ok (.iconst (-1), 1) := by decide +kernel
theorem dX3_read_14 : decode cX3_read 14 = .ok (.if_icmp .ne 14, 3) := by decide +kernel
theorem dX3_read_17 : decode cX3_read 17 = .ok (.bipush (-10), 2) := by decide +kernel
theorem dX3_read_19 : decode cX3_read 19 = .ok (.aload_n 0, 1) := by decide +kernel
theorem dX3_read_20 : decode cX3_read 20 = .ok (.getfield 35, 3) := by decide +kernel
theorem dX3_read_23 : decode cX3_read 23 = .ok (.getfield 109, 3) := by decide +kernel
theorem dX3_read_26 : decode cX3_read 26 = .ok (.isub, 1) := by decide +kernel
theorem dX3_read_27 : decode cX3_read 27 = .ok (.ireturn, 1) := by decide +kernel
theorem dX3_read_28 : decode cX3_read 28 = .ok (.aload_n 0, 1) := by decide +kernel
theorem dX3_read_29 : decode cX3_read 29 = .ok (.getfield 10, 3) := by decide +kernel
theorem dX3_read_32 : decode cX3_read 32 = .ok (.aload_n 0, 1) := by decide +kernel
theorem dX3_read_33 : decode cX3_read 33 = .ok (.getfield 22, 3) := by decide +kernel
theorem dX3_read_36 : decode cX3_read 36 = .ok (.invokevirtual 112, 3) := by decide +kernel
theorem dX3_read_39 : decode cX3_read 39 = .ok (.iload_n 1, 1) := by decide +kernel
theorem dX3_read_40 : decode cX3_read 40 = .ok (.ireturn, 1) := by decide +kernel
theorem dX3_day_0 : decode cX3_day 0 = .ok (.aload_n 0, 1) := by decide +kernel
theorem dX3_day_1 : decode cX3_day 1 = .ok (.getfield 10, 3) := by decide +kernel
theorem dX3_day_4 : decode cX3_day 4 = .ok (.iload_n 1, 1) := by decide +kernel
theorem dX3_day_5 : decode cX3_day 5 = .ok (.invokevirtual 116, 3) := by decide +kernel
theorem dX3_day_8 : decode cX3_day 8 = .ok (.ifCond .ne 10, 3) := by decide +kernel
theorem dX3_day_11 : decode cX3_day 11 = .ok (.aload_n 0, 1) := by decide +kernel
theorem dX3_day_12 : decode cX3_day 12 = .ok (.bipush (-10), 2) := by decide +kernel
theorem dX3_day_14 : decode cX3_day 14 = .ok (.invokevirtual 120, 3) := by decide +kernel
theorem dX3_day_17 : decode cX3_day 17 = .ok (.ireturn, 1) := by decide +kernel
theorem dX3_day_18 : decode cX3_day 18 = .ok (.aload_n 0, 1) := by decide +kernel
theorem dX3_day_19 : decode cX3_day 19 = .ok (.getfield 10, 3) := by decide +kernel
theorem dX3_day_22 : decode cX3_day 22 = .ok (.invokevirtual 123, 3) := by decide +kernel
theorem dX3_day_25 : decode cX3_day 25 = .ok (.aload_n 0, 1) := by decide +kernel
theorem dX3_day_26 : decode cX3_day 26 = .ok (.getfield 10, 3) := by decide +kernel
theorem dX3_day_29 : decode cX3_day 29 = .ok (.iload_n 1, 1) := by decide +kernel
theorem dX3_day_30 : decode cX3_day 30 = .ok (.aload_n 0, 1) := by decide +kernel
theorem dX3_day_31 : decode cX3_day 31 = .ok (.getfield 28, 3) := by decide +kernel
theorem dX3_day_34 : decode cX3_day 34 = .ok (.invokevirtual 126, 3) := by decide +kernel
theorem dX3_day_37 : decode cX3_day 37 = .ok (.ireturn, 1) := by decide +kernel
theorem dX3_change_0 : decode cX3_change 0 = .ok (.iload_n 1, 1) := by decide +kernel
theorem dX3_change_1 : decode cX3_change 1 = .ok (.iconst 0, 1) := by decide +kernel
theorem dX3_change_2 : decode cX3_change 2 = .ok (.ldc 130, 2) := by decide +kernel
theorem dX3_change_4 : decode cX3_change 4 = .ok (.invokestatic 63, 3) := by decide +kernel
theorem dX3_change_7 : decode cX3_change 7 = .ok (.ifCond .ne 8, 3) := by decide +kernel
theorem dX3_change_10 : decode cX3_change 10 = .ok (.aload_n 0, 1) := by decide +kernel
theorem dX3_change_11 : decode cX3_change 11 = .ok (.invokevirtual 67, 3) := by decide +kernel
theorem dX3_change_14 : decode cX3_change 14 = .ok (.ireturn, 1) := by decide +kernel
theorem dX3_change_15 : decode cX3_change 15 = .ok (.aload_n 0, 1) := by decide +kernel
theorem dX3_change_16 : decode cX3_change 16 = .ok (.getfield 10, 3) := by decide +kernel
theorem dX3_change_19 : decode cX3_change 19 = .ok (.invokevirtual 123, 3) := by decide +kernel
theorem dX3_change_22 : decode cX3_change 22 = .ok (.aload_n 0, 1) := by decide +kernel
theorem dX3_change_23 : decode cX3_change 23 = .ok (.getfield 10, 3) := by decide +kernel
theorem dX3_change_26 : decode cX3_change 26 = .ok (.iload_n 1, 1) := by decide +kernel
theorem dX3_change_27 : decode cX3_change 27 = .ok (.invokevirtual 131, 3) := by decide +kernel
theorem dX3_change_30 : decode cX3_change 30 = .ok (.ireturn, 1) := by decide +kernel
theorem dX3_undo_0 : decode cX3_undo 0 = .ok (.aload_n 0, 1) := by decide +kernel
theorem dX3_undo_1 : decode cX3_undo 1 = .ok (.getfield 10, 3) := by decide +kernel
theorem dX3_undo_4 : decode cX3_undo 4 = .ok (.getfield 88, 3) := by decide +kernel
theorem dX3_undo_7 : decode cX3_undo 7 = .ok (.ifCond .gt 8, 3) := by decide +kernel
theorem dX3_undo_10 : decode cX3_undo 10 = .ok (.aload_n 0, 1) := by decide +kernel
theorem dX3_undo_11 : decode cX3_undo 11 = .ok (.invokevirtual 134, 3) := by decide +kernel
theorem dX3_undo_14 : decode cX3_undo 14 = .ok (.ireturn, 1) := by decide +kernel
theorem dX3_undo_15 : decode cX3_undo 15 = .ok (.aload_n 0, 1) := by decide +kernel
theorem dX3_undo_16 : decode cX3_undo 16 = .ok (.getfield 10, 3) := by decide +kernel
theorem dX3_undo_19 : decode cX3_undo 19 = .ok (.invokevirtual 137, 3) := by decide +kernel
theorem dX3_undo_22 : decode cX3_undo 22 = .ok (.aload_n 0, 1) := by decide +kernel
theorem dX3_undo_23 : decode cX3_undo 23 = .ok (.getfield 10, 3) := by decide +kernel
theorem dX3_undo_26 : decode cX3_undo 26 = .ok (.getfield 140, 3) := by decide +kernel
theorem dX3_undo_29 : decode cX3_undo 29 = .ok (.ireturn, 1) := by decide +kernel
theorem dX3_of_0 : decode cX3_of 0 = .ok (.aload_n 0, 1) := by decide +kernel
theorem dX3_of_1 : decode cX3_of 1 = .ok (.getfield 10, 3) := by decide +kernel
theorem dX3_of_4 : decode cX3_of 4 = .ok (.iload_n 1, 1) := by decide +kernel
theorem dX3_of_5 : decode cX3_of 5 = .ok (.invokevirtual 143, 3) := by decide +kernel
theorem dX3_of_8 : decode cX3_of 8 = .ok (.ifCond .eq 12, 3) := by decide +kernel
theorem dX3_of_11 : decode cX3_of 11 = .ok (.iload_n 2, 1) := by decide +kernel
theorem dX3_of_12 : decode cX3_of 12 = .ok (.iconst 0, 1) := by decide +kernel
theorem dX3_of_13 : decode cX3_of 13 = .ok (.iconst 2, 1) := by decide +kernel
theorem dX3_of_14 : decode cX3_of 14 = .ok (.invokestatic 63, 3) := by decide +kernel
theorem dX3_of_17 : decode cX3_of 17 = .ok (.ifCond .ne 8, 3) := by decide +kernel
theorem dX3_of_20 : decode cX3_of 20 = .ok (.aload_n 0, 1) := by decide +kernel
theorem dX3_of_21 : decode cX3_of 21 = .ok (.invokevirtual 67, 3) := by decide +kernel
theorem dX3_of_24 : decode cX3_of 24 = .ok (.ireturn, 1) := by decide +kernel
theorem dX3_of_25 : decode cX3_of 25 = .ok (.iload_n 2, 1) := by decide +kernel
theorem dX3_of_26 : decode cX3_of 26 = .ok (.ifCond .ne 12, 3) := by decide +kernel
theorem dX3_of_29 : decode cX3_of 29 = .ok (.aload_n 0, 1) := by decide +kernel
theorem dX3_of_30 : decode cX3_of 30 = .ok (.getfield 10, 3) := by decide +kernel
theorem dX3_of_33 : decode cX3_of 33 = .ok (.iload_n 1, 1) := by decide +kernel
theorem dX3_of_34 : decode cX3_of 34 = .ok (.invokevirtual 146, 3) := by decide +kernel
theorem dX3_of_37 : decode cX3_of 37 = .ok (.ireturn, 1) := by decide +kernel
theorem dX3_of_38 : decode cX3_of 38 = .ok (.iload_n 2, 1) := by decide +kernel
theorem dX3_of_39 : decode cX3_of 39 = .ok (.iconst 1, 1) := by decide +kernel
theorem dX3_of_40 : decode cX3_of 40 = .ok (.if_icmp .ne 14, 3) := by decide +kernel
theorem dX3_of_43 : decode cX3_of 43 = .ok (.aload_n 0, 1) := by decide +kernel
theorem dX3_of_44 : decode cX3_of 44 = .ok (.getfield 10, 3) := by decide +kernel
theorem dX3_of_47 : decode cX3_of 47 = .ok (.iload_n 1, 1) := by decide +kernel
theorem dX3_of_48 : decode cX3_of 48 = .ok (.invokevirtual 149, 3) := by decide +kernel
theorem dX3_of_51 : decode cX3_of 51 = .ok (.goto 11, 3) := by decide +kernel
theorem dX3_of_54 : decode cX3_of 54 = .ok (.aload_n 0, 1) := by decide +kernel
theorem dX3_of_55 : decode cX3_of 55 = .ok (.getfield 10, 3) := by decide +kernel
theorem dX3_of_58 : decode cX3_of 58 = .ok (.iload_n 1, 1) := by decide +kernel
theorem dX3_of_59 : decode cX3_of 59 = .ok (.invokevirtual 152, 3) := by decide +kernel
theorem dX3_of_62 : decode cX3_of 62 = .ok (.ireturn, 1) := by decide +kernel
theorem dX3_tells_0 : decode cX3_tells 0 = .ok (.aload_n 0, 1) := by decide +kernel
theorem dX3_tells_1 : decode cX3_tells 1 = .ok (.getfield 10, 3) := by decide +kernel
theorem dX3_tells_4 : decode cX3_tells 4 = .ok (.iload_n 1, 1) := by decide +kernel
theorem dX3_tells_5 : decode cX3_tells 5 = .ok (.invokevirtual 143, 3) := by decide +kernel
theorem dX3_tells_8 : decode cX3_tells 8 = .ok (.ifCond .eq 20, 3) := by decide +kernel
theorem dX3_tells_11 : decode cX3_tells 11 = .ok (.iload_n 2, 1) := by decide +kernel
theorem dX3_tells_12 : decode cX3_tells 12 = .ok (.invokestatic 155, 3) := by decide +kernel
theorem dX3_tells_15 : decode cX3_tells 15 = .ok (.ifCond .eq 13, 3) := by decide +kernel
theorem dX3_tells_18 : decode cX3_tells 18 = .ok (.iload_n 3, 1) := by decide +kernel
theorem dX3_tells_19 : decode cX3_tells 19 = .ok (.iconst 1, 1) := by decide +kernel
theorem dX3_tells_20 : decode cX3_tells 20 = .ok (.bipush 6, 2) := by decide +kernel
theorem dX3_tells_22 : decode cX3_tells 22 = .ok (.invokestatic 63, 3) := by decide +kernel
theorem dX3_tells_25 : decode cX3_tells 25 = .ok (.ifCond .ne 8, 3) := by decide +kernel
theorem dX3_tells_28 : decode cX3_tells 28 = .ok (.aload_n 0, 1) := by decide +kernel
theorem dX3_tells_29 : decode cX3_tells 29 = .ok (.invokevirtual 67, 3) := by decide +kernel
theorem dX3_tells_32 : decode cX3_tells 32 = .ok (.ireturn, 1) := by decide +kernel
theorem dX3_tells_33 : decode cX3_tells 33 = .ok (.aload_n 0, 1) := by decide +kernel
theorem dX3_tells_34 : decode cX3_tells 34 = .ok (.getfield 10, 3) := by decide +kernel
theorem dX3_tells_37 : decode cX3_tells 37 = .ok (.iload_n 1, 1) := by decide +kernel
theorem dX3_tells_38 : decode cX3_tells 38 = .ok (.iload_n 2, 1) := by decide +kernel
theorem dX3_tells_39 : decode cX3_tells 39 = .ok (.iload_n 3, 1) := by decide +kernel
theorem dX3_tells_40 : decode cX3_tells 40 = .ok (.invokevirtual 158, 3) := by decide +kernel
theorem dX3_tells_43 : decode cX3_tells 43 = .ok (.ireturn, 1) := by decide +kernel
theorem dX3_finds_0 : decode cX3_finds 0 = .ok (.aload_n 0, 1) := by decide +kernel
theorem dX3_finds_1 : decode cX3_finds 1 = .ok (.getfield 10, 3) := by decide +kernel
theorem dX3_finds_4 : decode cX3_finds 4 = .ok (.iload_n 1, 1) := by decide +kernel
theorem dX3_finds_5 : decode cX3_finds 5 = .ok (.invokevirtual 116, 3) := by decide +kernel
theorem dX3_finds_8 : decode cX3_finds 8 = .ok (.ifCond .ne 8, 3) := by decide +kernel
theorem dX3_finds_11 : decode cX3_finds 11 = .ok (.aload_n 0, 1) := by decide +kernel
theorem dX3_finds_12 : decode cX3_finds 12 = .ok (.invokevirtual 67, 3) := by decide +kernel
theorem dX3_finds_15 : decode cX3_finds 15 = .ok (.ireturn, 1) := by decide +kernel
theorem dX3_finds_16 : decode cX3_finds 16 = .ok (.aload_n 0, 1) := by decide +kernel
theorem dX3_finds_17 : decode cX3_finds 17 = .ok (.getfield 28, 3) := by decide +kernel
theorem dX3_finds_20 : decode cX3_finds 20 = .ok (.invokevirtual 162, 3) := by decide +kernel
theorem dX3_finds_23 : decode cX3_finds 23 = .ok (.aload_n 0, 1) := by decide +kernel
theorem dX3_finds_24 : decode cX3_finds 24 = .ok (.getfield 10, 3) := by decide +kernel
theorem dX3_finds_27 : decode cX3_finds 27 = .ok (.iload_n 1, 1) := by decide +kernel
theorem dX3_finds_28 : decode cX3_finds 28 = .ok (.aload_n 0, 1) := by decide +kernel
theorem dX3_finds_29 : decode cX3_finds 29 = .ok (.getfield 28, 3) := by decide +kernel
theorem dX3_finds_32 : decode cX3_finds 32 = .ok (.invokevirtual 165, 3) := by decide +kernel
theorem dX3_finds_35 : decode cX3_finds 35 = .ok (.aload_n 0, 1) := by decide +kernel
theorem dX3_finds_36 : decode cX3_finds 36 = .ok (.getfield 28, 3) := by decide +kernel
theorem dX3_finds_39 : decode cX3_finds 39 = .ok (.aload_n 0, 1) := by decide +kernel
theorem dX3_finds_40 : decode cX3_finds 40 = .ok (.getfield 10, 3) := by decide +kernel
theorem dX3_finds_43 : decode cX3_finds 43 = .ok (.getfield 169, 3) := by decide +kernel
theorem dX3_finds_46 : decode cX3_finds 46 = .ok (.invokevirtual 172, 3) := by decide +kernel
theorem dX3_finds_49 : decode cX3_finds 49 = .ok (.ireturn, 1) := by decide +kernel
theorem dX3_knows_0 : decode cX3_knows 0 = .ok (.aload_n 0, 1) := by decide +kernel
theorem dX3_knows_1 : decode cX3_knows 1 = .ok (.getfield 10, 3) := by decide +kernel
theorem dX3_knows_4 : decode cX3_knows 4 = .ok (.iload_n 1, 1) := by decide +kernel
theorem dX3_knows_5 : decode cX3_knows 5 = .ok (.invokevirtual 116, 3) := by decide +kernel
theorem dX3_knows_8 : decode cX3_knows 8 = .ok (.ifCond .ne 8, 3) := by decide +kernel
theorem dX3_knows_11 : decode cX3_knows 11 = .ok (.aload_n 0, 1) := by decide +kernel
theorem dX3_knows_12 : decode cX3_knows 12 = .ok (.invokevirtual 67, 3) := by decide +kernel
theorem dX3_knows_15 : decode cX3_knows 15 = .ok (.ireturn, 1) := by decide +kernel
theorem dX3_knows_16 : decode cX3_knows 16 = .ok (.iload_n 1, 1) := by decide +kernel
theorem dX3_knows_17 : decode cX3_knows 17 = .ok (.invokestatic 175, 3) := by decide +kernel
theorem dX3_knows_20 : decode cX3_knows 20 = .ok (.aload_n 0, 1) := by decide +kernel
theorem dX3_knows_21 : decode cX3_knows 21 = .ok (.getfield 10, 3) := by decide +kernel
theorem dX3_knows_24 : decode cX3_knows 24 = .ok (.getfield 169, 3) := by decide +kernel
theorem dX3_knows_27 : decode cX3_knows 27 = .ok (.if_icmp .ge 8, 3) := by decide +kernel
theorem dX3_knows_30 : decode cX3_knows 30 = .ok (.bipush 97, 2) := by decide +kernel
theorem dX3_knows_32 : decode cX3_knows 32 = .ok (.goto 4, 3) := by decide +kernel
theorem dX3_knows_35 : decode cX3_knows 35 = .ok (.iconst 1, 1) := by decide +kernel
theorem dX3_knows_36 : decode cX3_knows 36 = .ok (.ireturn, 1) := by decide +kernel
theorem dX3_comes_0 : decode cX3_comes 0 = .ok (.aload_n 0, 1) := by decide +kernel
theorem dX3_comes_1 : decode cX3_comes 1 = .ok (.getfield 10, 3) := by decide +kernel
theorem dX3_comes_4 : decode cX3_comes 4 = .ok (.iload_n 1, 1) := by decide +kernel
theorem dX3_comes_5 : decode cX3_comes 5 = .ok (.invokevirtual 116, 3) := by decide +kernel
theorem dX3_comes_8 : decode cX3_comes 8 = .ok (.ifCond .eq 10, 3) := by decide +kernel
theorem dX3_comes_11 : decode cX3_comes 11 = .ok (.iload_n 2, 1) := by decide +kernel
theorem dX3_comes_12 : decode cX3_comes 12 = .ok (.invokestatic 155, 3) := by decide +kernel
theorem dX3_comes_15 : decode cX3_comes 15 = .ok (.ifCond .ne 10, 3) := by decide +kernel
theorem dX3_comes_18 : decode cX3_comes 18 = .ok (.aload_n 0, 1) := by decide +kernel
theorem dX3_comes_19 : decode cX3_comes 19 = .ok (.bipush (-10), 2) := by decide +kernel
theorem dX3_comes_21 : decode cX3_comes 21 = .ok (.invokevirtual 120, 3) := by decide +kernel
theorem dX3_comes_24 : decode cX3_comes 24 = .ok (.ireturn, 1) := by decide +kernel
theorem dX3_comes_25 : decode cX3_comes 25 = .ok (.aload_n 0, 1) := by decide +kernel
theorem dX3_comes_26 : decode cX3_comes 26 = .ok (.getfield 10, 3) := by decide +kernel
theorem dX3_comes_29 : decode cX3_comes 29 = .ok (.iload_n 1, 1) := by decide +kernel
theorem dX3_comes_30 : decode cX3_comes 30 = .ok (.iload_n 2, 1) := by decide +kernel
theorem dX3_comes_31 : decode cX3_comes 31 = .ok (.aload_n 0, 1) := by decide +kernel
theorem dX3_comes_32 : decode cX3_comes 32 = .ok (.getfield 28, 3) := by decide +kernel
theorem dX3_comes_35 : decode cX3_comes 35 = .ok (.invokevirtual 180, 3) := by decide +kernel
theorem dX3_comes_38 : decode cX3_comes 38 = .ok (.ireturn, 1) := by decide +kernel
theorem dX3_tell_0 : decode cX3_tell 0 = .ok (.iload_n 1, 1) := by decide +kernel
theorem dX3_tell_1 : decode cX3_tell 1 = .ok (.iconst 0, 1) := by decide +kernel
theorem dX3_tell_2 : decode cX3_tell 2 = .ok (.iconst 5, 1) := by decide +kernel
theorem dX3_tell_3 : decode cX3_tell 3 = .ok (.invokestatic 63, 3) := by decide +kernel
theorem dX3_tell_6 : decode cX3_tell 6 = .ok (.ifCond .eq 13, 3) := by decide +kernel
theorem dX3_tell_9 : decode cX3_tell 9 = .ok (.iload_n 2, 1) := by decide +kernel
theorem dX3_tell_10 : decode cX3_tell 10 = .ok (.iconst (-1), 1) := by decide +kernel
theorem dX3_tell_11 : decode cX3_tell 11 = .ok (.bipush 96, 2) := by decide +kernel
theorem dX3_tell_13 : decode cX3_tell 13 = .ok (.invokestatic 63, 3) := by decide +kernel
theorem dX3_tell_16 : decode cX3_tell 16 = .ok (.ifCond .ne 8, 3) := by decide +kernel
theorem dX3_tell_19 : decode cX3_tell 19 = .ok (.aload_n 0, 1) := by decide +kernel
theorem dX3_tell_20 : decode cX3_tell 20 = .ok (.invokevirtual 67, 3) := by decide +kernel
theorem dX3_tell_23 : decode cX3_tell 23 = .ok (.ireturn, 1) := by decide +kernel
theorem dX3_tell_24 : decode cX3_tell 24 = .ok (.aload_n 0, 1) := by decide +kernel
theorem dX3_tell_25 : decode cX3_tell 25 = .ok (.getfield 10, 3) := by decide +kernel
theorem dX3_tell_28 : decode cX3_tell 28 = .ok (.getfield 184, 3) := by decide +kernel
theorem dX3_tell_31 : decode cX3_tell 31 = .ok (.iload_n 1, 1) := by decide +kernel
theorem dX3_tell_32 : decode cX3_tell 32 = .ok (.invokevirtual 187, 3) := by decide +kernel
theorem dX3_tell_35 : decode cX3_tell 35 = .ok (.istore_n 3, 1) := by decide +kernel
theorem dX3_tell_36 : decode cX3_tell 36 = .ok (.aload_n 0, 1) := by decide +kernel
theorem dX3_tell_37 : decode cX3_tell 37 = .ok (.getfield 10, 3) := by decide +kernel
theorem dX3_tell_40 : decode cX3_tell 40 = .ok (.getfield 184, 3) := by decide +kernel
theorem dX3_tell_43 : decode cX3_tell 43 = .ok (.iload_n 1, 1) := by decide +kernel
theorem dX3_tell_44 : decode cX3_tell 44 = .ok (.iload_n 2, 1) := by decide +kernel
theorem dX3_tell_45 : decode cX3_tell 45 = .ok (.invokevirtual 190, 3) := by decide +kernel
theorem dX3_tell_48 : decode cX3_tell 48 = .ok (.iload_n 3, 1) := by decide +kernel
theorem dX3_tell_49 : decode cX3_tell 49 = .ok (.ireturn, 1) := by decide +kernel
theorem dX3_forget_0 : decode cX3_forget 0 = .ok (.aload_n 0, 1) := by decide +kernel
theorem dX3_forget_1 : decode cX3_forget 1 = .ok (.getfield 10, 3) := by decide +kernel
theorem dX3_forget_4 : decode cX3_forget 4 = .ok (.getfield 184, 3) := by decide +kernel
theorem dX3_forget_7 : decode cX3_forget 7 = .ok (.invokevirtual 193, 3) := by decide +kernel
theorem dX3_forget_10 : decode cX3_forget 10 = .ok (.istore_n 1, 1) := by decide +kernel
theorem dX3_forget_11 : decode cX3_forget 11 = .ok (.aload_n 0, 1) := by decide +kernel
theorem dX3_forget_12 : decode cX3_forget 12 = .ok (.getfield 10, 3) := by decide +kernel
theorem dX3_forget_15 : decode cX3_forget 15 = .ok (.getfield 184, 3) := by decide +kernel
theorem dX3_forget_18 : decode cX3_forget 18 = .ok (.invokevirtual 162, 3) := by decide +kernel
theorem dX3_forget_21 : decode cX3_forget 21 = .ok (.iload_n 1, 1) := by decide +kernel
theorem dX3_forget_22 : decode cX3_forget 22 = .ok (.ireturn, 1) := by decide +kernel
theorem dX3_agree_0 : decode cX3_agree 0 = .ok (.aload_n 0, 1) := by decide +kernel
theorem dX3_agree_1 : decode cX3_agree 1 = .ok (.getfield 10, 3) := by decide +kernel
theorem dX3_agree_4 : decode cX3_agree 4 = .ok (.getfield 184, 3) := by decide +kernel
theorem dX3_agree_7 : decode cX3_agree 7 = .ok (.invokevirtual 193, 3) := by decide +kernel
theorem dX3_agree_10 : decode cX3_agree 10 = .ok (.aload_n 0, 1) := by decide +kernel
theorem dX3_agree_11 : decode cX3_agree 11 = .ok (.getfield 10, 3) := by decide +kernel
theorem dX3_agree_14 : decode cX3_agree 14 = .ok (.getfield 169, 3) := by decide +kernel
theorem dX3_agree_17 : decode cX3_agree 17 = .ok (.if_icmp .ge 5, 3) := by decide +kernel
theorem dX3_agree_20 : decode cX3_agree 20 = .ok (.iconst (-1), 1) := by decide +kernel
theorem dX3_agree_21 : decode cX3_agree 21 = .ok (.ireturn, 1) := by decide +kernel
theorem dX3_agree_22 : decode cX3_agree 22 = .ok (.aload_n 0, 1) := by decide +kernel
theorem dX3_agree_23 : decode cX3_agree 23 = .ok (.getfield 10, 3) := by decide +kernel
theorem dX3_agree_26 : decode cX3_agree 26 = .ok (.getfield 184, 3) := by decide +kernel
theorem dX3_agree_29 : decode cX3_agree 29 = .ok (.aload_n 0, 1) := by decide +kernel
theorem dX3_agree_30 : decode cX3_agree 30 = .ok (.getfield 10, 3) := by decide +kernel
theorem dX3_agree_33 : decode cX3_agree 33 = .ok (.getfield 169, 3) := by decide +kernel
theorem dX3_agree_36 : decode cX3_agree 36 = .ok (.invokevirtual 196, 3) := by decide +kernel
theorem dX3_agree_39 : decode cX3_agree 39 = .ok (.ifCond .eq 7, 3) := by decide +kernel
theorem dX3_agree_42 : decode cX3_agree 42 = .ok (.iconst 1, 1) := by decide +kernel
theorem dX3_agree_43 : decode cX3_agree 43 = .ok (.goto 4, 3) := by decide +kernel
theorem dX3_agree_46 : decode cX3_agree 46 = .ok (.iconst 0, 1) := by decide +kernel
theorem dX3_agree_47 : decode cX3_agree 47 = .ok (.ireturn, 1) := by decide +kernel
theorem dX3_liars_0 : decode cX3_liars 0 = .ok (.aload_n 0, 1) := by decide +kernel
theorem dX3_liars_1 : decode cX3_liars 1 = .ok (.getfield 10, 3) := by decide +kernel
theorem dX3_liars_4 : decode cX3_liars 4 = .ok (.getfield 184, 3) := by decide +kernel
theorem dX3_liars_7 : decode cX3_liars 7 = .ok (.aload_n 0, 1) := by decide +kernel
theorem dX3_liars_8 : decode cX3_liars 8 = .ok (.getfield 10, 3) := by decide +kernel
theorem dX3_liars_11 : decode cX3_liars 11 = .ok (.getfield 169, 3) := by decide +kernel
theorem dX3_liars_14 : decode cX3_liars 14 = .ok (.aload_n 0, 1) := by decide +kernel
theorem dX3_liars_15 : decode cX3_liars 15 = .ok (.getfield 28, 3) := by decide +kernel
theorem dX3_liars_18 : decode cX3_liars 18 = .ok (.invokevirtual 199, 3) := by decide +kernel
theorem dX3_liars_21 : decode cX3_liars 21 = .ok (.ireturn, 1) := by decide +kernel
theorem dX3_guess_0 : decode cX3_guess 0 = .ok (.aload_n 0, 1) := by decide +kernel
theorem dX3_guess_1 : decode cX3_guess 1 = .ok (.getfield 10, 3) := by decide +kernel
theorem dX3_guess_4 : decode cX3_guess 4 = .ok (.getfield 184, 3) := by decide +kernel
theorem dX3_guess_7 : decode cX3_guess 7 = .ok (.aload_n 0, 1) := by decide +kernel
theorem dX3_guess_8 : decode cX3_guess 8 = .ok (.getfield 10, 3) := by decide +kernel
theorem dX3_guess_11 : decode cX3_guess 11 = .ok (.getfield 169, 3) := by decide +kernel
theorem dX3_guess_14 : decode cX3_guess 14 = .ok (.aload_n 0, 1) := by decide +kernel
theorem dX3_guess_15 : decode cX3_guess 15 = .ok (.getfield 28, 3) := by decide +kernel
theorem dX3_guess_18 : decode cX3_guess 18 = .ok (.invokevirtual 199, 3) := by decide +kernel
theorem dX3_guess_21 : decode cX3_guess 21 = .ok (.istore_n 1, 1) := by decide +kernel
theorem dX3_guess_22 : decode cX3_guess 22 = .ok (.iload_n 1, 1) := by decide +kernel
theorem dX3_guess_23 : decode cX3_guess 23 = .ok (.iconst (-1), 1) := by decide +kernel
theorem dX3_guess_24 : decode cX3_guess 24 = .ok (.if_icmp .ne 5, 3) := by decide +kernel
theorem dX3_guess_27 : decode cX3_guess 27 = .ok (.iconst (-1), 1) := by decide +kernel
theorem dX3_guess_28 : decode cX3_guess 28 = .ok (.ireturn, 1) := by decide +kernel
theorem dX3_guess_29 : decode cX3_guess 29 = .ok (.aload_n 0, 1) := by decide +kernel
theorem dX3_guess_30 : decode cX3_guess 30 = .ok (.getfield 28, 3) := by decide +kernel
theorem dX3_guess_33 : decode cX3_guess 33 = .ok (.aload_n 0, 1) := by decide +kernel
theorem dX3_guess_34 : decode cX3_guess 34 = .ok (.getfield 10, 3) := by decide +kernel
theorem dX3_guess_37 : decode cX3_guess 37 = .ok (.getfield 184, 3) := by decide +kernel
theorem dX3_guess_40 : decode cX3_guess 40 = .ok (.iload_n 1, 1) := by decide +kernel
theorem dX3_guess_41 : decode cX3_guess 41 = .ok (.invokevirtual 202, 3) := by decide +kernel
theorem dX3_guess_44 : decode cX3_guess 44 = .ok (.aload_n 0, 1) := by decide +kernel
theorem dX3_guess_45 : decode cX3_guess 45 = .ok (.getfield 28, 3) := by decide +kernel
theorem dX3_guess_48 : decode cX3_guess 48 = .ok (.aload_n 0, 1) := by decide +kernel
theorem dX3_guess_49 : decode cX3_guess 49 = .ok (.getfield 10, 3) := by decide +kernel
theorem dX3_guess_52 : decode cX3_guess 52 = .ok (.getfield 169, 3) := by decide +kernel
theorem dX3_guess_55 : decode cX3_guess 55 = .ok (.invokevirtual 172, 3) := by decide +kernel
theorem dX3_guess_58 : decode cX3_guess 58 = .ok (.ireturn, 1) := by decide +kernel
theorem dX3_mixed_0 : decode cX3_mixed 0 = .ok (.iload_n 1, 1) := by decide +kernel
theorem dX3_mixed_1 : decode cX3_mixed 1 = .ok (.invokestatic 206, 3) := by decide +kernel
theorem dX3_mixed_4 : decode cX3_mixed 4 = .ok (.ifCond .eq 31, 3) := by decide +kernel
theorem dX3_mixed_7 : decode cX3_mixed 7 = .ok (.aload_n 0, 1) := by decide +kernel
theorem dX3_mixed_8 : decode cX3_mixed 8 = .ok (.getfield 10, 3) := by decide +kernel
theorem dX3_mixed_11 : decode cX3_mixed 11 = .ok (.iload_n 2, 1) := by decide +kernel
theorem dX3_mixed_12 : decode cX3_mixed 12 = .ok (.invokevirtual 116, 3) := by decide +kernel
theorem dX3_mixed_15 : decode cX3_mixed 15 = .ok (.ifCond .eq 20, 3) := by decide +kernel
theorem dX3_mixed_18 : decode cX3_mixed 18 = .ok (.aload_n 0, 1) := by decide +kernel
theorem dX3_mixed_19 : decode cX3_mixed 19 = .ok (.getfield 10, 3) := by decide +kernel
theorem dX3_mixed_22 : decode cX3_mixed 22 = .ok (.iload_n 3, 1) := by decide +kernel
theorem dX3_mixed_23 : decode cX3_mixed 23 = .ok (.invokevirtual 116, 3) := by decide +kernel
theorem dX3_mixed_26 : decode cX3_mixed 26 = .ok (.ifCond .eq 9, 3) := by decide +kernel
theorem dX3_mixed_29 : decode cX3_mixed 29 = .ok (.iload_n 2, 1) := by decide +kernel
theorem dX3_mixed_30 : decode cX3_mixed 30 = .ok (.iload_n 3, 1) := by decide +kernel
theorem dX3_mixed_31 : decode cX3_mixed 31 = .ok (.iand, 1) := by decide +kernel
theorem dX3_mixed_32 : decode cX3_mixed 32 = .ok (.ifCond .eq 8, 3) := by decide +kernel
theorem dX3_mixed_35 : decode cX3_mixed 35 = .ok (.aload_n 0, 1) := by decide +kernel
theorem dX3_mixed_36 : decode cX3_mixed 36 = .ok (.invokevirtual 67, 3) := by decide +kernel
theorem dX3_mixed_39 : decode cX3_mixed 39 = .ok (.ireturn, 1) := by decide +kernel
theorem dX3_mixed_40 : decode cX3_mixed 40 = .ok (.aload_n 0, 1) := by decide +kernel
theorem dX3_mixed_41 : decode cX3_mixed 41 = .ok (.iload_n 1, 1) := by decide +kernel
theorem dX3_mixed_42 : decode cX3_mixed 42 = .ok (.invokevirtual 209, 3) := by decide +kernel
theorem dX3_mixed_45 : decode cX3_mixed 45 = .ok (.ifCond .ne 8, 3) := by decide +kernel
theorem dX3_mixed_48 : decode cX3_mixed 48 = .ok (.aload_n 0, 1) := by decide +kernel
theorem dX3_mixed_49 : decode cX3_mixed 49 = .ok (.invokevirtual 134, 3) := by decide +kernel
theorem dX3_mixed_52 : decode cX3_mixed 52 = .ok (.ireturn, 1) := by decide +kernel
theorem dX3_mixed_53 : decode cX3_mixed 53 = .ok (.aload_n 0, 1) := by decide +kernel
theorem dX3_mixed_54 : decode cX3_mixed 54 = .ok (.getfield 28, 3) := by decide +kernel
theorem dX3_mixed_57 : decode cX3_mixed 57 = .ok (.invokevirtual 162, 3) := by decide +kernel
theorem dX3_mixed_60 : decode cX3_mixed 60 = .ok (.aload_n 0, 1) := by decide +kernel
theorem dX3_mixed_61 : decode cX3_mixed 61 = .ok (.iload_n 1, 1) := by decide +kernel
theorem dX3_mixed_62 : decode cX3_mixed 62 = .ok (.invokevirtual 212, 3) := by decide +kernel
theorem dX3_mixed_65 : decode cX3_mixed 65 = .ok (.iload_n 2, 1) := by decide +kernel
theorem dX3_mixed_66 : decode cX3_mixed 66 = .ok (.aload_n 0, 1) := by decide +kernel
theorem dX3_mixed_67 : decode cX3_mixed 67 = .ok (.getfield 28, 3) := by decide +kernel
theorem dX3_mixed_70 : decode cX3_mixed 70 = .ok (.invokevirtual 165, 3) := by decide +kernel
theorem dX3_mixed_73 : decode cX3_mixed 73 = .ok (.aload_n 0, 1) := by decide +kernel
theorem dX3_mixed_74 : decode cX3_mixed 74 = .ok (.getfield 10, 3) := by decide +kernel
theorem dX3_mixed_77 : decode cX3_mixed 77 = .ok (.iload_n 3, 1) := by decide +kernel
theorem dX3_mixed_78 : decode cX3_mixed 78 = .ok (.aload_n 0, 1) := by decide +kernel
theorem dX3_mixed_79 : decode cX3_mixed 79 = .ok (.getfield 28, 3) := by decide +kernel
theorem dX3_mixed_82 : decode cX3_mixed 82 = .ok (.invokevirtual 165, 3) := by decide +kernel
theorem dX3_mixed_85 : decode cX3_mixed 85 = .ok (.aload_n 0, 1) := by decide +kernel
theorem dX3_mixed_86 : decode cX3_mixed 86 = .ok (.getfield 28, 3) := by decide +kernel
theorem dX3_mixed_89 : decode cX3_mixed 89 = .ok (.aload_n 0, 1) := by decide +kernel
theorem dX3_mixed_90 : decode cX3_mixed 90 = .ok (.getfield 10, 3) := by decide +kernel
theorem dX3_mixed_93 : decode cX3_mixed 93 = .ok (.getfield 169, 3) := by decide +kernel
theorem dX3_mixed_96 : decode cX3_mixed 96 = .ok (.invokevirtual 172, 3) := by decide +kernel
theorem dX3_mixed_99 : decode cX3_mixed 99 = .ok (.ireturn, 1) := by decide +kernel
theorem dX3_odds_0 : decode cX3_odds 0 = .ok (.iload_n 1, 1) := by decide +kernel
theorem dX3_odds_1 : decode cX3_odds 1 = .ok (.iconst 0, 1) := by decide +kernel
theorem dX3_odds_2 : decode cX3_odds 2 = .ok (.bipush 10, 2) := by decide +kernel
theorem dX3_odds_4 : decode cX3_odds 4 = .ok (.invokestatic 63, 3) := by decide +kernel
theorem dX3_odds_7 : decode cX3_odds 7 = .ok (.ifCond .ne 8, 3) := by decide +kernel
theorem dX3_odds_10 : decode cX3_odds 10 = .ok (.aload_n 0, 1) := by decide +kernel
theorem dX3_odds_11 : decode cX3_odds 11 = .ok (.invokevirtual 67, 3) := by decide +kernel
theorem dX3_odds_14 : decode cX3_odds 14 = .ok (.ireturn, 1) := by decide +kernel
theorem dX3_odds_15 : decode cX3_odds 15 = .ok (.aload_n 0, 1) := by decide +kernel
theorem dX3_odds_16 : decode cX3_odds 16 = .ok (.getfield 10, 3) := by decide +kernel
theorem dX3_odds_19 : decode cX3_odds 19 = .ok (.getfield 169, 3) := by decide +kernel
theorem dX3_odds_22 : decode cX3_odds 22 = .ok (.aload_n 0, 1) := by decide +kernel
theorem dX3_odds_23 : decode cX3_odds 23 = .ok (.getfield 10, 3) := by decide +kernel
theorem dX3_odds_26 : decode cX3_odds 26 = .ok (.getfield 71, 3) := by decide +kernel
theorem dX3_odds_29 : decode cX3_odds 29 = .ok (.iload_n 1, 1) := by decide +kernel
theorem dX3_odds_30 : decode cX3_odds 30 = .ok (.invokestatic 216, 3) := by decide +kernel
theorem dX3_odds_33 : decode cX3_odds 33 = .ok (.lstore_n 2, 1) := by decide +kernel
theorem dX3_odds_34 : decode cX3_odds 34 = .ok (.bipush 10, 2) := by decide +kernel
theorem dX3_odds_36 : decode cX3_odds 36 = .ok (.aload_n 0, 1) := by decide +kernel
theorem dX3_odds_37 : decode cX3_odds 37 = .ok (.getfield 10, 3) := by decide +kernel
theorem dX3_odds_40 : decode cX3_odds 40 = .ok (.getfield 71, 3) := by decide +kernel
theorem dX3_odds_43 : decode cX3_odds 43 = .ok (.invokestatic 220, 3) := by decide +kernel
theorem dX3_odds_46 : decode cX3_odds 46 = .ok (.lstore 4, 2) := by decide +kernel
theorem dX3_odds_48 : decode cX3_odds 48 = .ok (.lload_n 2, 1) := by decide +kernel
theorem dX3_odds_49 : decode cX3_odds 49 = .ok (.lload 4, 2) := by decide +kernel
theorem dX3_odds_51 : decode cX3_odds 51 = .ok (.invokestatic 224, 3) := by decide +kernel
theorem dX3_odds_54 : decode cX3_odds 54 = .ok (.lstore 6, 2) := by decide +kernel
theorem dX3_odds_56 : decode cX3_odds 56 = .ok (.lload 6, 2) := by decide +kernel
theorem dX3_odds_58 : decode cX3_odds 58 = .ok (.lconst 0, 1) := by decide +kernel
theorem dX3_odds_59 : decode cX3_odds 59 = .ok (.lcmp, 1) := by decide +kernel
theorem dX3_odds_60 : decode cX3_odds 60 = .ok (.ifCond .gt 5, 3) := by decide +kernel
theorem dX3_odds_63 : decode cX3_odds 63 = .ok (.iconst 1, 1) := by decide +kernel
theorem dX3_odds_64 : decode cX3_odds 64 = .ok (.ireturn, 1) := by decide +kernel
theorem dX3_odds_65 : decode cX3_odds 65 = .ok (.aload_n 0, 1) := by decide +kernel
theorem dX3_odds_66 : decode cX3_odds 66 = .ok (.lload_n 2, 1) := by decide +kernel
theorem dX3_odds_67 : decode cX3_odds 67 = .ok (.lload 6, 2) := by decide +kernel
theorem dX3_odds_69 : decode cX3_odds 69 = .ok (.ldiv, 1) := by decide +kernel
theorem dX3_odds_70 : decode cX3_odds 70 = .ok (.putfield 56, 3) := by decide +kernel
theorem dX3_odds_73 : decode cX3_odds 73 = .ok (.aload_n 0, 1) := by decide +kernel
theorem dX3_odds_74 : decode cX3_odds 74 = .ok (.lload 4, 2) := by decide +kernel
theorem dX3_odds_76 : decode cX3_odds 76 = .ok (.lload 6, 2) := by decide +kernel
theorem dX3_odds_78 : decode cX3_odds 78 = .ok (.ldiv, 1) := by decide +kernel
theorem dX3_odds_79 : decode cX3_odds 79 = .ok (.putfield 60, 3) := by decide +kernel
theorem dX3_odds_82 : decode cX3_odds 82 = .ok (.iconst 1, 1) := by decide +kernel
theorem dX3_odds_83 : decode cX3_odds 83 = .ok (.ireturn, 1) := by decide +kernel
theorem dX3_best_0 : decode cX3_best 0 = .ok (.iload_n 1, 1) := by decide +kernel
theorem dX3_best_1 : decode cX3_best 1 = .ok (.iconst 0, 1) := by decide +kernel
theorem dX3_best_2 : decode cX3_best 2 = .ok (.bipush 10, 2) := by decide +kernel
theorem dX3_best_4 : decode cX3_best 4 = .ok (.invokestatic 63, 3) := by decide +kernel
theorem dX3_best_7 : decode cX3_best 7 = .ok (.ifCond .eq 13, 3) := by decide +kernel
theorem dX3_best_10 : decode cX3_best 10 = .ok (.iload_n 2, 1) := by decide +kernel
theorem dX3_best_11 : decode cX3_best 11 = .ok (.iconst 0, 1) := by decide +kernel
theorem dX3_best_12 : decode cX3_best 12 = .ok (.bipush 10, 2) := by decide +kernel
theorem dX3_best_14 : decode cX3_best 14 = .ok (.invokestatic 63, 3) := by decide +kernel
theorem dX3_best_17 : decode cX3_best 17 = .ok (.ifCond .ne 8, 3) := by decide +kernel
theorem dX3_best_20 : decode cX3_best 20 = .ok (.aload_n 0, 1) := by decide +kernel
theorem dX3_best_21 : decode cX3_best 21 = .ok (.invokevirtual 67, 3) := by decide +kernel
theorem dX3_best_24 : decode cX3_best 24 = .ok (.ireturn, 1) := by decide +kernel
theorem dX3_best_25 : decode cX3_best 25 = .ok (.iconst 1, 1) := by decide +kernel
theorem dX3_best_26 : decode cX3_best 26 = .ok (.istore_n 3, 1) := by decide +kernel
theorem dX3_best_27 : decode cX3_best 27 = .ok (.lconst 0, 1) := by decide +kernel
theorem dX3_best_28 : decode cX3_best 28 = .ok (.lstore 4, 2) := by decide +kernel
theorem dX3_best_30 : decode cX3_best 30 = .ok (.iconst 1, 1) := by decide +kernel
theorem dX3_best_31 : decode cX3_best 31 = .ok (.istore 6, 2) := by decide +kernel
theorem dX3_best_33 : decode cX3_best 33 = .ok (.iload 6, 2) := by decide +kernel
theorem dX3_best_35 : decode cX3_best 35 = .ok (.iconst 4, 1) := by decide +kernel
theorem dX3_best_36 : decode cX3_best 36 = .ok (.if_icmp .gt 59, 3) := by decide +kernel
theorem dX3_best_39 : decode cX3_best 39 = .ok (.iload 6, 2) := by decide +kernel
theorem dX3_best_41 : decode cX3_best 41 = .ok (.aload_n 0, 1) := by decide +kernel
theorem dX3_best_42 : decode cX3_best 42 = .ok (.getfield 10, 3) := by decide +kernel
theorem dX3_best_45 : decode cX3_best 45 = .ok (.getfield 71, 3) := by decide +kernel
theorem dX3_best_48 : decode cX3_best 48 = .ok (.iload_n 1, 1) := by decide +kernel
theorem dX3_best_49 : decode cX3_best 49 = .ok (.invokestatic 216, 3) := by decide +kernel
theorem dX3_best_52 : decode cX3_best 52 = .ok (.iload 6, 2) := by decide +kernel
theorem dX3_best_54 : decode cX3_best 54 = .ok (.aload_n 0, 1) := by decide +kernel
theorem dX3_best_55 : decode cX3_best 55 = .ok (.getfield 10, 3) := by decide +kernel
theorem dX3_best_58 : decode cX3_best 58 = .ok (.getfield 71, 3) := by decide +kernel
theorem dX3_best_61 : decode cX3_best 61 = .ok (.iload_n 2, 1) := by decide +kernel
theorem dX3_best_62 : decode cX3_best 62 = .ok (.invokestatic 216, 3) := by decide +kernel
theorem dX3_best_65 : decode cX3_best 65 = .ok (.lsub, 1) := by decide +kernel
theorem dX3_best_66 : decode cX3_best 66 = .ok (.lstore 7, 2) := by decide +kernel
theorem dX3_best_68 : decode cX3_best 68 = .ok (.iload 6, 2) := by decide +kernel
theorem dX3_best_70 : decode cX3_best 70 = .ok (.iconst 1, 1) := by decide +kernel
theorem dX3_best_71 : decode cX3_best 71 = .ok (.if_icmp .eq 11, 3) := by decide +kernel
theorem dX3_best_74 : decode cX3_best 74 = .ok (.lload 7, 2) := by decide +kernel
theorem dX3_best_76 : decode cX3_best 76 = .ok (.lload 4, 2) := by decide +kernel
theorem dX3_best_78 : decode cX3_best 78 = .ok (.lcmp, 1) := by decide +kernel
theorem dX3_best_79 : decode cX3_best 79 = .ok (.ifCond .lt 10, 3) := by decide +kernel
theorem dX3_best_82 : decode cX3_best 82 = .ok (.iload 6, 2) := by decide +kernel
theorem dX3_best_84 : decode cX3_best 84 = .ok (.istore_n 3, 1) := by decide +kernel
theorem dX3_best_85 : decode cX3_best 85 = .ok (.lload 7, 2) := by decide +kernel
theorem dX3_best_87 : decode cX3_best 87 = .ok (.lstore 4, 2) := by decide +kernel
theorem dX3_best_89 : decode cX3_best 89 = .ok (.iinc 6 1, 3) := by decide +kernel
theorem dX3_best_92 : decode cX3_best 92 = .ok (.goto (-59), 3) := by decide +kernel
theorem dX3_best_95 : decode cX3_best 95 = .ok (.iload_n 3, 1) := by decide +kernel
theorem dX3_best_96 : decode cX3_best 96 = .ok (.ireturn, 1) := by decide +kernel
theorem dX3_must_0 : decode cX3_must 0 = .ok (.iload_n 1, 1) := by decide +kernel
theorem dX3_must_1 : decode cX3_must 1 = .ok (.invokestatic 155, 3) := by decide +kernel
theorem dX3_must_4 : decode cX3_must 4 = .ok (.ifCond .ne 8, 3) := by decide +kernel
theorem dX3_must_7 : decode cX3_must 7 = .ok (.aload_n 0, 1) := by decide +kernel
theorem dX3_must_8 : decode cX3_must 8 = .ok (.invokevirtual 67, 3) := by decide +kernel
theorem dX3_must_11 : decode cX3_must 11 = .ok (.ireturn, 1) := by decide +kernel
theorem dX3_must_12 : decode cX3_must 12 = .ok (.aload_n 0, 1) := by decide +kernel
theorem dX3_must_13 : decode cX3_must 13 = .ok (.getfield 10, 3) := by decide +kernel
theorem dX3_must_16 : decode cX3_must 16 = .ok (.invokevirtual 228, 3) := by decide +kernel
theorem dX3_must_19 : decode cX3_must 19 = .ok (.istore_n 2, 1) := by decide +kernel
theorem dX3_must_20 : decode cX3_must 20 = .ok (.aload_n 0, 1) := by decide +kernel
theorem dX3_must_21 : decode cX3_must 21 = .ok (.getfield 10, 3) := by decide +kernel
theorem dX3_must_24 : decode cX3_must 24 = .ok (.iload_n 2, 1) := by decide +kernel
theorem dX3_must_25 : decode cX3_must 25 = .ok (.iload_n 1, 1) := by decide +kernel
theorem dX3_must_26 : decode cX3_must 26 = .ok (.aload_n 0, 1) := by decide +kernel
theorem dX3_must_27 : decode cX3_must 27 = .ok (.getfield 28, 3) := by decide +kernel
theorem dX3_must_30 : decode cX3_must 30 = .ok (.invokevirtual 180, 3) := by decide +kernel
theorem dX3_must_33 : decode cX3_must 33 = .ok (.iconst 1, 1) := by decide +kernel
theorem dX3_must_34 : decode cX3_must 34 = .ok (.if_icmp .eq 5, 3) := by decide +kernel
theorem dX3_must_37 : decode cX3_must 37 = .ok (.iconst 0, 1) := by decide +kernel
theorem dX3_must_38 : decode cX3_must 38 = .ok (.ireturn, 1) := by decide +kernel
theorem dX3_must_39 : decode cX3_must 39 = .ok (.iconst 0, 1) := by decide +kernel
theorem dX3_must_40 : decode cX3_must 40 = .ok (.istore_n 3, 1) := by decide +kernel
theorem dX3_must_41 : decode cX3_must 41 = .ok (.iconst 0, 1) := by decide +kernel
theorem dX3_must_42 : decode cX3_must 42 = .ok (.istore 4, 2) := by decide +kernel
theorem dX3_must_44 : decode cX3_must 44 = .ok (.iload 4, 2) := by decide +kernel
theorem dX3_must_46 : decode cX3_must 46 = .ok (.bipush 6, 2) := by decide +kernel
theorem dX3_must_48 : decode cX3_must 48 = .ok (.if_icmp .ge 52, 3) := by decide +kernel
theorem dX3_must_51 : decode cX3_must 51 = .ok (.aload_n 0, 1) := by decide +kernel
theorem dX3_must_52 : decode cX3_must 52 = .ok (.getfield 10, 3) := by decide +kernel
theorem dX3_must_55 : decode cX3_must 55 = .ok (.iload 4, 2) := by decide +kernel
theorem dX3_must_57 : decode cX3_must 57 = .ok (.invokevirtual 143, 3) := by decide +kernel
theorem dX3_must_60 : decode cX3_must 60 = .ok (.ifCond .eq 34, 3) := by decide +kernel
theorem dX3_must_63 : decode cX3_must 63 = .ok (.aload_n 0, 1) := by decide +kernel
theorem dX3_must_64 : decode cX3_must 64 = .ok (.getfield 10, 3) := by decide +kernel
theorem dX3_must_67 : decode cX3_must 67 = .ok (.iload_n 2, 1) := by decide +kernel
theorem dX3_must_68 : decode cX3_must 68 = .ok (.iconst 1, 1) := by decide +kernel
theorem dX3_must_69 : decode cX3_must 69 = .ok (.iload 4, 2) := by decide +kernel
theorem dX3_must_71 : decode cX3_must 71 = .ok (.ishl, 1) := by decide +kernel
theorem dX3_must_72 : decode cX3_must 72 = .ok (.iconst (-1), 1) := by decide +kernel
theorem dX3_must_73 : decode cX3_must 73 = .ok (.ixor, 1) := by decide +kernel
theorem dX3_must_74 : decode cX3_must 74 = .ok (.iand, 1) := by decide +kernel
theorem dX3_must_75 : decode cX3_must 75 = .ok (.iload_n 1, 1) := by decide +kernel
theorem dX3_must_76 : decode cX3_must 76 = .ok (.aload_n 0, 1) := by decide +kernel
theorem dX3_must_77 : decode cX3_must 77 = .ok (.getfield 28, 3) := by decide +kernel
theorem dX3_must_80 : decode cX3_must 80 = .ok (.invokevirtual 180, 3) := by decide +kernel
theorem dX3_must_83 : decode cX3_must 83 = .ok (.iconst 1, 1) := by decide +kernel
theorem dX3_must_84 : decode cX3_must 84 = .ok (.if_icmp .eq 10, 3) := by decide +kernel
theorem dX3_must_87 : decode cX3_must 87 = .ok (.iload_n 3, 1) := by decide +kernel
theorem dX3_must_88 : decode cX3_must 88 = .ok (.iconst 1, 1) := by decide +kernel
theorem dX3_must_89 : decode cX3_must 89 = .ok (.iload 4, 2) := by decide +kernel
theorem dX3_must_91 : decode cX3_must 91 = .ok (.ishl, 1) := by decide +kernel
theorem dX3_must_92 : decode cX3_must 92 = .ok (.ior, 1) := by decide +kernel
theorem dX3_must_93 : decode cX3_must 93 = .ok (.istore_n 3, 1) := by decide +kernel
theorem dX3_must_94 : decode cX3_must 94 = .ok (.iinc 4 1, 3) := by decide +kernel
theorem dX3_must_97 : decode cX3_must 97 = .ok (.goto (-53), 3) := by decide +kernel
theorem dX3_must_100 : decode cX3_must 100 = .ok (.iload_n 3, 1) := by decide +kernel
theorem dX3_must_101 : decode cX3_must 101 = .ok (.ireturn, 1) := by decide +kernel
theorem dX3_cars_0 : decode cX3_cars 0 = .ok (.aload_n 0, 1) := by decide +kernel
theorem dX3_cars_1 : decode cX3_cars 1 = .ok (.getfield 10, 3) := by decide +kernel
theorem dX3_cars_4 : decode cX3_cars 4 = .ok (.iload_n 1, 1) := by decide +kernel
theorem dX3_cars_5 : decode cX3_cars 5 = .ok (.invokevirtual 116, 3) := by decide +kernel
theorem dX3_cars_8 : decode cX3_cars 8 = .ok (.ifCond .eq 12, 3) := by decide +kernel
theorem dX3_cars_11 : decode cX3_cars 11 = .ok (.iload_n 2, 1) := by decide +kernel
theorem dX3_cars_12 : decode cX3_cars 12 = .ok (.iconst 0, 1) := by decide +kernel
theorem dX3_cars_13 : decode cX3_cars 13 = .ok (.iconst 1, 1) := by decide +kernel
theorem dX3_cars_14 : decode cX3_cars 14 = .ok (.invokestatic 63, 3) := by decide +kernel
theorem dX3_cars_17 : decode cX3_cars 17 = .ok (.ifCond .ne 8, 3) := by decide +kernel
theorem dX3_cars_20 : decode cX3_cars 20 = .ok (.aload_n 0, 1) := by decide +kernel
theorem dX3_cars_21 : decode cX3_cars 21 = .ok (.invokevirtual 67, 3) := by decide +kernel
theorem dX3_cars_24 : decode cX3_cars 24 = .ok (.ireturn, 1) := by decide +kernel
theorem dX3_cars_25 : decode cX3_cars 25 = .ok (.iload_n 2, 1) := by decide +kernel
theorem dX3_cars_26 : decode cX3_cars 26 = .ok (.ifCond .ne 17, 3) := by decide +kernel
theorem dX3_cars_29 : decode cX3_cars 29 = .ok (.aload_n 0, 1) := by decide +kernel
theorem dX3_cars_30 : decode cX3_cars 30 = .ok (.iload_n 1, 1) := by decide +kernel
theorem dX3_cars_31 : decode cX3_cars 31 = .ok (.invokevirtual 231, 3) := by decide +kernel
theorem dX3_cars_34 : decode cX3_cars 34 = .ok (.ifCond .eq 7, 3) := by decide +kernel
theorem dX3_cars_37 : decode cX3_cars 37 = .ok (.iconst 1, 1) := by decide +kernel
theorem dX3_cars_38 : decode cX3_cars 38 = .ok (.goto 4, 3) := by decide +kernel
theorem dX3_cars_41 : decode cX3_cars 41 = .ok (.iconst 0, 1) := by decide +kernel
theorem dX3_cars_42 : decode cX3_cars 42 = .ok (.ireturn, 1) := by decide +kernel
theorem dX3_cars_43 : decode cX3_cars 43 = .ok (.iconst 0, 1) := by decide +kernel
theorem dX3_cars_44 : decode cX3_cars 44 = .ok (.istore_n 3, 1) := by decide +kernel
theorem dX3_cars_45 : decode cX3_cars 45 = .ok (.iconst 0, 1) := by decide +kernel
theorem dX3_cars_46 : decode cX3_cars 46 = .ok (.istore 4, 2) := by decide +kernel
theorem dX3_cars_48 : decode cX3_cars 48 = .ok (.iload 4, 2) := by decide +kernel
theorem dX3_cars_50 : decode cX3_cars 50 = .ok (.aload_n 0, 1) := by decide +kernel
theorem dX3_cars_51 : decode cX3_cars 51 = .ok (.getfield 10, 3) := by decide +kernel
theorem dX3_cars_54 : decode cX3_cars 54 = .ok (.invokevirtual 228, 3) := by decide +kernel
theorem dX3_cars_57 : decode cX3_cars 57 = .ok (.if_icmp .gt 21, 3) := by decide +kernel
theorem dX3_cars_60 : decode cX3_cars 60 = .ok (.aload_n 0, 1) := by decide +kernel
theorem dX3_cars_61 : decode cX3_cars 61 = .ok (.iload 4, 2) := by decide +kernel
theorem dX3_cars_63 : decode cX3_cars 63 = .ok (.invokevirtual 231, 3) := by decide +kernel
theorem dX3_cars_66 : decode cX3_cars 66 = .ok (.ifCond .eq 6, 3) := by decide +kernel
theorem dX3_cars_69 : decode cX3_cars 69 = .ok (.iinc 3 1, 3) := by decide +kernel
theorem dX3_cars_72 : decode cX3_cars 72 = .ok (.iinc 4 1, 3) := by decide +kernel
theorem dX3_cars_75 : decode cX3_cars 75 = .ok (.goto (-27), 3) := by decide +kernel
theorem dX3_cars_78 : decode cX3_cars 78 = .ok (.iload_n 3, 1) := by decide +kernel
theorem dX3_cars_79 : decode cX3_cars 79 = .ok (.ireturn, 1) := by decide +kernel
theorem dX3_envelope_0 : decode cX3_envelope 0 = .ok (.iload_n 1, 1) := by decide +kernel
theorem dX3_envelope_1 : decode cX3_envelope 1 = .ok (.iconst 0, 1) := by decide +kernel
theorem dX3_envelope_2 : decode cX3_envelope 2 = .ok (.sipush 990, 3) := by decide +kernel
theorem dX3_envelope_5 : decode cX3_envelope 5 = .ok (.invokestatic 63, 3) := by decide +kernel
theorem dX3_envelope_8 : decode cX3_envelope 8 = .ok (.ifCond .eq 12, 3) := by decide +kernel
theorem dX3_envelope_11 : decode cX3_envelope 11 = .ok (.iload_n 2, 1) := by decide +kernel
theorem dX3_envelope_12 : decode cX3_envelope 12 = .ok (.iconst 0, 1) := by decide +kernel
theorem dX3_envelope_13 : decode cX3_envelope 13 = .ok (.iconst 1, 1) := by decide +kernel
theorem dX3_envelope_14 : decode cX3_envelope 14 = .ok (.invokestatic 63, 3) := by decide +kernel
theorem dX3_envelope_17 : decode cX3_envelope 17 = .ok (.ifCond .ne 8, 3) := by decide +kernel
theorem dX3_envelope_20 : decode cX3_envelope 20 = .ok (.aload_n 0, 1) := by decide +kernel
theorem dX3_envelope_21 : decode cX3_envelope 21 = .ok (.invokevirtual 67, 3) := by decide +kernel
theorem dX3_envelope_24 : decode cX3_envelope 24 = .ok (.ireturn, 1) := by decide +kernel
theorem dX3_envelope_25 : decode cX3_envelope 25 = .ok (.iconst (-1), 1) := by decide +kernel
theorem dX3_envelope_26 : decode cX3_envelope 26 = .ok (.istore_n 3, 1) := by decide +kernel
theorem dX3_envelope_27 : decode cX3_envelope 27 = .ok (.iconst (-1), 1) := by decide +kernel
theorem dX3_envelope_28 : decode cX3_envelope 28 = .ok (.istore 4, 2) := by decide +kernel
theorem dX3_envelope_30 : decode cX3_envelope 30 = .ok (.iconst 0, 1) := by decide +kernel
theorem dX3_envelope_31 : decode cX3_envelope 31 = .ok (.istore 5, 2) := by decide +kernel
theorem dX3_envelope_33 : decode cX3_envelope 33 = .ok (.iload 5, 2) := by decide +kernel
theorem dX3_envelope_35 : decode cX3_envelope 35 = .ok (.bipush 6, 2) := by decide +kernel
theorem dX3_envelope_37 : decode cX3_envelope 37 = .ok (.if_icmp .ge 48, 3) := by decide +kernel
theorem dX3_envelope_40 : decode cX3_envelope 40 = .ok (.aload_n 0, 1) := by decide +kernel
theorem dX3_envelope_41 : decode cX3_envelope 41 = .ok (.getfield 10, 3) := by decide +kernel
theorem dX3_envelope_44 : decode cX3_envelope 44 = .ok (.iload 5, 2) := by decide +kernel
theorem dX3_envelope_46 : decode cX3_envelope 46 = .ok (.invokevirtual 143, 3) := by decide +kernel
theorem dX3_envelope_49 : decode cX3_envelope 49 = .ok (.ifCond .eq 13, 3) := by decide +kernel
theorem dX3_envelope_52 : decode cX3_envelope 52 = .ok (.aload_n 0, 1) := by decide +kernel
theorem dX3_envelope_53 : decode cX3_envelope 53 = .ok (.iload 5, 2) := by decide +kernel
theorem dX3_envelope_55 : decode cX3_envelope 55 = .ok (.iload_n 1, 1) := by decide +kernel
theorem dX3_envelope_56 : decode cX3_envelope 56 = .ok (.invokevirtual 234, 3) := by decide +kernel
theorem dX3_envelope_59 : decode cX3_envelope 59 = .ok (.goto 4, 3) := by decide +kernel
theorem dX3_envelope_62 : decode cX3_envelope 62 = .ok (.iconst (-1), 1) := by decide +kernel
theorem dX3_envelope_63 : decode cX3_envelope 63 = .ok (.istore 6, 2) := by decide +kernel
theorem dX3_envelope_65 : decode cX3_envelope 65 = .ok (.iload 6, 2) := by decide +kernel
theorem dX3_envelope_67 : decode cX3_envelope 67 = .ok (.iload 4, 2) := by decide +kernel
theorem dX3_envelope_69 : decode cX3_envelope 69 = .ok (.if_icmp .le 10, 3) := by decide +kernel
theorem dX3_envelope_72 : decode cX3_envelope 72 = .ok (.iload 5, 2) := by decide +kernel
theorem dX3_envelope_74 : decode cX3_envelope 74 = .ok (.istore_n 3, 1) := by decide +kernel
theorem dX3_envelope_75 : decode cX3_envelope 75 = .ok (.iload 6, 2) := by decide +kernel
theorem dX3_envelope_77 : decode cX3_envelope 77 = .ok (.istore 4, 2) := by decide +kernel
theorem dX3_envelope_79 : decode cX3_envelope 79 = .ok (.iinc 5 1, 3) := by decide +kernel
theorem dX3_envelope_82 : decode cX3_envelope 82 = .ok (.goto (-49), 3) := by decide +kernel
theorem dX3_envelope_85 : decode cX3_envelope 85 = .ok (.iload_n 2, 1) := by decide +kernel
theorem dX3_envelope_86 : decode cX3_envelope 86 = .ok (.ifCond .ne 7, 3) := by decide +kernel
theorem dX3_envelope_89 : decode cX3_envelope 89 = .ok (.iload_n 3, 1) := by decide +kernel
theorem dX3_envelope_90 : decode cX3_envelope 90 = .ok (.goto 5, 3) := by decide +kernel
theorem dX3_envelope_93 : decode cX3_envelope 93 = .ok (.iload 4, 2) := by decide +kernel
theorem dX3_envelope_95 : decode cX3_envelope 95 = .ok (.ireturn, 1) := by decide +kernel
theorem dX3_days_0 : decode cX3_days 0 = .ok (.iload_n 1, 1) := by decide +kernel
theorem dX3_days_1 : decode cX3_days 1 = .ok (.iconst 0, 1) := by decide +kernel
theorem dX3_days_2 : decode cX3_days 2 = .ok (.ldc 130, 2) := by decide +kernel
theorem dX3_days_4 : decode cX3_days 4 = .ok (.invokestatic 63, 3) := by decide +kernel
theorem dX3_days_7 : decode cX3_days 7 = .ok (.ifCond .eq 23, 3) := by decide +kernel
theorem dX3_days_10 : decode cX3_days 10 = .ok (.iload_n 2, 1) := by decide +kernel
theorem dX3_days_11 : decode cX3_days 11 = .ok (.iconst 0, 1) := by decide +kernel
theorem dX3_days_12 : decode cX3_days 12 = .ok (.bipush 60, 2) := by decide +kernel
theorem dX3_days_14 : decode cX3_days 14 = .ok (.invokestatic 63, 3) := by decide +kernel
theorem dX3_days_17 : decode cX3_days 17 = .ok (.ifCond .eq 13, 3) := by decide +kernel
theorem dX3_days_20 : decode cX3_days 20 = .ok (.iload_n 3, 1) := by decide +kernel
theorem dX3_days_21 : decode cX3_days 21 = .ok (.iconst 0, 1) := by decide +kernel
theorem dX3_days_22 : decode cX3_days 22 = .ok (.bipush 100, 2) := by decide +kernel
theorem dX3_days_24 : decode cX3_days 24 = .ok (.invokestatic 63, 3) := by decide +kernel
theorem dX3_days_27 : decode cX3_days 27 = .ok (.ifCond .ne 8, 3) := by decide +kernel
theorem dX3_days_30 : decode cX3_days 30 = .ok (.aload_n 0, 1) := by decide +kernel
theorem dX3_days_31 : decode cX3_days 31 = .ok (.invokevirtual 67, 3) := by decide +kernel
theorem dX3_days_34 : decode cX3_days 34 = .ok (.ireturn, 1) := by decide +kernel
theorem dX3_days_35 : decode cX3_days 35 = .ok (.aload_n 0, 1) := by decide +kernel
theorem dX3_days_36 : decode cX3_days 36 = .ok (.getfield 22, 3) := by decide +kernel
theorem dX3_days_39 : decode cX3_days 39 = .ok (.aload_n 0, 1) := by decide +kernel
theorem dX3_days_40 : decode cX3_days 40 = .ok (.getfield 10, 3) := by decide +kernel
theorem dX3_days_43 : decode cX3_days 43 = .ok (.invokevirtual 112, 3) := by decide +kernel
theorem dX3_days_46 : decode cX3_days 46 = .ok (.iload_n 1, 1) := by decide +kernel
theorem dX3_days_47 : decode cX3_days 47 = .ok (.i2l, 1) := by decide +kernel
theorem dX3_days_48 : decode cX3_days 48 = .ok (.lstore 4, 2) := by decide +kernel
theorem dX3_days_50 : decode cX3_days 50 = .ok (.iconst 0, 1) := by decide +kernel
theorem dX3_days_51 : decode cX3_days 51 = .ok (.istore 6, 2) := by decide +kernel
theorem dX3_days_53 : decode cX3_days 53 = .ok (.iconst 0, 1) := by decide +kernel
theorem dX3_days_54 : decode cX3_days 54 = .ok (.istore 7, 2) := by decide +kernel
theorem dX3_days_56 : decode cX3_days 56 = .ok (.iload 7, 2) := by decide +kernel
theorem dX3_days_58 : decode cX3_days 58 = .ok (.iload_n 2, 1) := by decide +kernel
theorem dX3_days_59 : decode cX3_days 59 = .ok (.if_icmp .ge 80, 3) := by decide +kernel
theorem dX3_days_62 : decode cX3_days 62 = .ok (.iconst 0, 1) := by decide +kernel
theorem dX3_days_63 : decode cX3_days 63 = .ok (.istore 8, 2) := by decide +kernel
theorem dX3_days_65 : decode cX3_days 65 = .ok (.iconst 0, 1) := by decide +kernel
theorem dX3_days_66 : decode cX3_days 66 = .ok (.istore 9, 2) := by decide +kernel
theorem dX3_days_68 : decode cX3_days 68 = .ok (.iload 9, 2) := by decide +kernel
theorem dX3_days_70 : decode cX3_days 70 = .ok (.aload_n 0, 1) := by decide +kernel
theorem dX3_days_71 : decode cX3_days 71 = .ok (.getfield 22, 3) := by decide +kernel
theorem dX3_days_74 : decode cX3_days 74 = .ok (.getfield 71, 3) := by decide +kernel
theorem dX3_days_77 : decode cX3_days 77 = .ok (.if_icmp .ge 36, 3) := by decide +kernel
theorem dX3_days_80 : decode cX3_days 80 = .ok (.lload 4, 2) := by decide +kernel
theorem dX3_days_82 : decode cX3_days 82 = .ok (.invokestatic 238, 3) := by decide +kernel
theorem dX3_days_85 : decode cX3_days 85 = .ok (.lstore 4, 2) := by decide +kernel
theorem dX3_days_87 : decode cX3_days 87 = .ok (.lload 4, 2) := by decide +kernel
theorem dX3_days_89 : decode cX3_days 89 = .ok (.bipush 100, 2) := by decide +kernel
theorem dX3_days_91 : decode cX3_days 91 = .ok (.invokestatic 242, 3) := by decide +kernel
theorem dX3_days_94 : decode cX3_days 94 = .ok (.iload_n 3, 1) := by decide +kernel
theorem dX3_days_95 : decode cX3_days 95 = .ok (.if_icmp .ge 12, 3) := by decide +kernel
theorem dX3_days_98 : decode cX3_days 98 = .ok (.iload 8, 2) := by decide +kernel
theorem dX3_days_100 : decode cX3_days 100 = .ok (.iconst 1, 1) := by decide +kernel
theorem dX3_days_101 : decode cX3_days 101 = .ok (.iload 9, 2) := by decide +kernel
theorem dX3_days_103 : decode cX3_days 103 = .ok (.ishl, 1) := by decide +kernel
theorem dX3_days_104 : decode cX3_days 104 = .ok (.ior, 1) := by decide +kernel
theorem dX3_days_105 : decode cX3_days 105 = .ok (.istore 8, 2) := by decide +kernel
theorem dX3_days_107 : decode cX3_days 107 = .ok (.iinc 9 1, 3) := by decide +kernel
theorem dX3_days_110 : decode cX3_days 110 = .ok (.goto (-42), 3) := by decide +kernel
theorem dX3_days_113 : decode cX3_days 113 = .ok (.aload_n 0, 1) := by decide +kernel
theorem dX3_days_114 : decode cX3_days 114 = .ok (.getfield 22, 3) := by decide +kernel
theorem dX3_days_117 : decode cX3_days 117 = .ok (.iload 8, 2) := by decide +kernel
theorem dX3_days_119 : decode cX3_days 119 = .ok (.aload_n 0, 1) := by decide +kernel
theorem dX3_days_120 : decode cX3_days 120 = .ok (.getfield 28, 3) := by decide +kernel
theorem dX3_days_123 : decode cX3_days 123 = .ok (.invokevirtual 126, 3) := by decide +kernel
theorem dX3_days_126 : decode cX3_days 126 = .ok (.iconst 1, 1) := by decide +kernel
theorem dX3_days_127 : decode cX3_days 127 = .ok (.if_icmp .ne 6, 3) := by decide +kernel
theorem dX3_days_130 : decode cX3_days 130 = .ok (.iinc 6 1, 3) := by decide +kernel
theorem dX3_days_133 : decode cX3_days 133 = .ok (.iinc 7 1, 3) := by decide +kernel
theorem dX3_days_136 : decode cX3_days 136 = .ok (.goto (-80), 3) := by decide +kernel
theorem dX3_days_139 : decode cX3_days 139 = .ok (.iload 6, 2) := by decide +kernel
theorem dX3_days_141 : decode cX3_days 141 = .ok (.ireturn, 1) := by decide +kernel
theorem dX3_part_0 : decode cX3_part 0 = .ok (.iload_n 1, 1) := by decide +kernel
theorem dX3_part_1 : decode cX3_part 1 = .ok (.iconst 0, 1) := by decide +kernel
theorem dX3_part_2 : decode cX3_part 2 = .ok (.iconst 1, 1) := by decide +kernel
theorem dX3_part_3 : decode cX3_part 3 = .ok (.invokestatic 63, 3) := by decide +kernel
theorem dX3_part_6 : decode cX3_part 6 = .ok (.ifCond .ne 9, 3) := by decide +kernel
theorem dX3_part_9 : decode cX3_part 9 = .ok (.aload_n 0, 1) := by decide +kernel
theorem dX3_part_10 : decode cX3_part 10 = .ok (.invokevirtual 67, 3) := by decide +kernel
theorem dX3_part_13 : decode cX3_part 13 = .ok (.i2l, 1) := by decide +kernel
theorem dX3_part_14 : decode cX3_part 14 = .ok (.lreturn, 1) := by decide +kernel
theorem dX3_part_15 : decode cX3_part 15 = .ok (.iload_n 1, 1) := by decide +kernel
theorem dX3_part_16 : decode cX3_part 16 = .ok (.ifCond .ne 10, 3) := by decide +kernel
theorem dX3_part_19 : decode cX3_part 19 = .ok (.aload_n 0, 1) := by decide +kernel
theorem dX3_part_20 : decode cX3_part 20 = .ok (.getfield 56, 3) := by decide +kernel
theorem dX3_part_23 : decode cX3_part 23 = .ok (.goto 7, 3) := by decide +kernel
theorem dX3_part_26 : decode cX3_part 26 = .ok (.aload_n 0, 1) := by decide +kernel
theorem dX3_part_27 : decode cX3_part 27 = .ok (.getfield 60, 3) := by decide +kernel
theorem dX3_part_30 : decode cX3_part 30 = .ok (.lreturn, 1) := by decide +kernel
theorem dX3_image_0 : decode cX3_image 0 = .ok (.iload_n 1, 1) := by decide +kernel
theorem dX3_image_1 : decode cX3_image 1 = .ok (.invokestatic 206, 3) := by decide +kernel
theorem dX3_image_4 : decode cX3_image 4 = .ok (.ifCond .ne 8, 3) := by decide +kernel
theorem dX3_image_7 : decode cX3_image 7 = .ok (.aload_n 0, 1) := by decide +kernel
theorem dX3_image_8 : decode cX3_image 8 = .ok (.invokevirtual 67, 3) := by decide +kernel
theorem dX3_image_11 : decode cX3_image 11 = .ok (.ireturn, 1) := by decide +kernel
theorem dX3_image_12 : decode cX3_image 12 = .ok (.aload_n 0, 1) := by decide +kernel
theorem dX3_image_13 : decode cX3_image 13 = .ok (.iload_n 1, 1) := by decide +kernel
theorem dX3_image_14 : decode cX3_image 14 = .ok (.invokevirtual 212, 3) := by decide +kernel
theorem dX3_image_17 : decode cX3_image 17 = .ok (.aload_n 0, 1) := by decide +kernel
theorem dX3_image_18 : decode cX3_image 18 = .ok (.getfield 10, 3) := by decide +kernel
theorem dX3_image_21 : decode cX3_image 21 = .ok (.invokevirtual 112, 3) := by decide +kernel
theorem dX3_image_24 : decode cX3_image 24 = .ok (.iload_n 1, 1) := by decide +kernel
theorem dX3_image_25 : decode cX3_image 25 = .ok (.ifCond .ne 11, 3) := by decide +kernel
theorem dX3_image_28 : decode cX3_image 28 = .ok (.aload_n 0, 1) := by decide +kernel
theorem dX3_image_29 : decode cX3_image 29 = .ok (.iconst 1, 1) := by decide +kernel
theorem dX3_image_30 : decode cX3_image 30 = .ok (.putfield 39, 3) := by decide +kernel
theorem dX3_image_33 : decode cX3_image 33 = .ok (.goto 8, 3) := by decide +kernel
theorem dX3_image_36 : decode cX3_image 36 = .ok (.aload_n 0, 1) := by decide +kernel
theorem dX3_image_37 : decode cX3_image 37 = .ok (.iconst 1, 1) := by decide +kernel
theorem dX3_image_38 : decode cX3_image 38 = .ok (.putfield 43, 3) := by decide +kernel
theorem dX3_image_41 : decode cX3_image 41 = .ok (.iconst 1, 1) := by decide +kernel
theorem dX3_image_42 : decode cX3_image 42 = .ok (.ireturn, 1) := by decide +kernel
theorem dX3_from_0 : decode cX3_from 0 = .ok (.iload_n 1, 1) := by decide +kernel
theorem dX3_from_1 : decode cX3_from 1 = .ok (.invokestatic 206, 3) := by decide +kernel
theorem dX3_from_4 : decode cX3_from 4 = .ok (.ifCond .ne 8, 3) := by decide +kernel
theorem dX3_from_7 : decode cX3_from 7 = .ok (.aload_n 0, 1) := by decide +kernel
theorem dX3_from_8 : decode cX3_from 8 = .ok (.invokevirtual 67, 3) := by decide +kernel
theorem dX3_from_11 : decode cX3_from 11 = .ok (.ireturn, 1) := by decide +kernel
theorem dX3_from_12 : decode cX3_from 12 = .ok (.aload_n 0, 1) := by decide +kernel
theorem dX3_from_13 : decode cX3_from 13 = .ok (.iload_n 1, 1) := by decide +kernel
theorem dX3_from_14 : decode cX3_from 14 = .ok (.invokevirtual 209, 3) := by decide +kernel
theorem dX3_from_17 : decode cX3_from 17 = .ok (.ifCond .ne 8, 3) := by decide +kernel
theorem dX3_from_20 : decode cX3_from 20 = .ok (.aload_n 0, 1) := by decide +kernel
theorem dX3_from_21 : decode cX3_from 21 = .ok (.invokevirtual 134, 3) := by decide +kernel
theorem dX3_from_24 : decode cX3_from 24 = .ok (.ireturn, 1) := by decide +kernel
theorem dX3_from_25 : decode cX3_from 25 = .ok (.aload_n 0, 1) := by decide +kernel
theorem dX3_from_26 : decode cX3_from 26 = .ok (.getfield 10, 3) := by decide +kernel
theorem dX3_from_29 : decode cX3_from 29 = .ok (.aload_n 0, 1) := by decide +kernel
theorem dX3_from_30 : decode cX3_from 30 = .ok (.iload_n 1, 1) := by decide +kernel
theorem dX3_from_31 : decode cX3_from 31 = .ok (.invokevirtual 212, 3) := by decide +kernel
theorem dX3_from_34 : decode cX3_from 34 = .ok (.invokevirtual 112, 3) := by decide +kernel
theorem dX3_from_37 : decode cX3_from 37 = .ok (.iconst 1, 1) := by decide +kernel
theorem dX3_from_38 : decode cX3_from 38 = .ok (.ireturn, 1) := by decide +kernel
theorem dX3_status_0 : decode cX3_status 0 = .ok (.iload_n 1, 1) := by decide +kernel
theorem dX3_status_1 : decode cX3_status 1 = .ok (.tableswitch 42 0 2 #[27, 32, 37], 27) := by decide +kernel
theorem dX3_status_28 : decode cX3_status 28 = .ok (.aload_n 0, 1) := by decide +kernel
theorem dX3_status_29 : decode cX3_status 29 = .ok (.getfield 46, 3) := by decide +kernel
theorem dX3_status_32 : decode cX3_status 32 = .ok (.ireturn, 1) := by decide +kernel
theorem dX3_status_33 : decode cX3_status 33 = .ok (.aload_n 0, 1) := by decide +kernel
theorem dX3_status_34 : decode cX3_status 34 = .ok (.getfield 50, 3) := by decide +kernel
theorem dX3_status_37 : decode cX3_status 37 = .ok (.ireturn, 1) := by decide +kernel
theorem dX3_status_38 : decode cX3_status 38 = .ok (.aload_n 0, 1) := by decide +kernel
theorem dX3_status_39 : decode cX3_status 39 = .ok (.getfield 53, 3) := by decide +kernel
theorem dX3_status_42 : decode cX3_status 42 = .ok (.ireturn, 1) := by decide +kernel
theorem dX3_status_43 : decode cX3_status 43 = .ok (.aload_n 0, 1) := by decide +kernel
theorem dX3_status_44 : decode cX3_status 44 = .ok (.iconst (-1), 1) := by decide +kernel
theorem dX3_status_45 : decode cX3_status 45 = .ok (.invokevirtual 120, 3) := by decide +kernel
theorem dX3_status_48 : decode cX3_status 48 = .ok (.ireturn, 1) := by decide +kernel
theorem dX3_count_0 : decode cX3_count 0 = .ok (.iload_n 1, 1) := by decide +kernel
theorem dX3_count_1 : decode cX3_count 1 = .ok (.iconst 0, 1) := by decide +kernel
theorem dX3_count_2 : decode cX3_count 2 = .ok (.bipush 7, 2) := by decide +kernel
theorem dX3_count_4 : decode cX3_count 4 = .ok (.invokestatic 63, 3) := by decide +kernel
theorem dX3_count_7 : decode cX3_count 7 = .ok (.ifCond .eq 11, 3) := by decide +kernel
theorem dX3_count_10 : decode cX3_count 10 = .ok (.aload_n 0, 1) := by decide +kernel
theorem dX3_count_11 : decode cX3_count 11 = .ok (.iload_n 1, 1) := by decide +kernel
theorem dX3_count_12 : decode cX3_count 12 = .ok (.invokevirtual 246, 3) := by decide +kernel
theorem dX3_count_15 : decode cX3_count 15 = .ok (.goto 7, 3) := by decide +kernel
theorem dX3_count_18 : decode cX3_count 18 = .ok (.aload_n 0, 1) := by decide +kernel
theorem dX3_count_19 : decode cX3_count 19 = .ok (.invokevirtual 67, 3) := by decide +kernel
theorem dX3_count_22 : decode cX3_count 22 = .ok (.ireturn, 1) := by decide +kernel
theorem dX3_digest_0 : decode cX3_digest 0 = .ok (.ldc2_w 249, 3) := by decide +kernel
theorem dX3_digest_3 : decode cX3_digest 3 = .ok (.lstore_n 1, 1) := by decide +kernel
theorem dX3_digest_4 : decode cX3_digest 4 = .ok (.iconst 0, 1) := by decide +kernel
theorem dX3_digest_5 : decode cX3_digest 5 = .ok (.istore_n 3, 1) := by decide +kernel
theorem dX3_digest_6 : decode cX3_digest 6 = .ok (.iload_n 3, 1) := by decide +kernel
theorem dX3_digest_7 : decode cX3_digest 7 = .ok (.bipush 8, 2) := by decide +kernel
theorem dX3_digest_9 : decode cX3_digest 9 = .ok (.if_icmp .ge 22, 3) := by decide +kernel
theorem dX3_digest_12 : decode cX3_digest 12 = .ok (.ldc2_w 251, 3) := by decide +kernel
theorem dX3_digest_15 : decode cX3_digest 15 = .ok (.lload_n 1, 1) := by decide +kernel
theorem dX3_digest_16 : decode cX3_digest 16 = .ok (.lmul, 1) := by decide +kernel
theorem dX3_digest_17 : decode cX3_digest 17 = .ok (.aload_n 0, 1) := by decide +kernel
theorem dX3_digest_18 : decode cX3_digest 18 = .ok (.iload_n 3, 1) := by decide +kernel
theorem dX3_digest_19 : decode cX3_digest 19 = .ok (.invokevirtual 246, 3) := by decide +kernel
theorem dX3_digest_22 : decode cX3_digest 22 = .ok (.i2l, 1) := by decide +kernel
theorem dX3_digest_23 : decode cX3_digest 23 = .ok (.ladd, 1) := by decide +kernel
theorem dX3_digest_24 : decode cX3_digest 24 = .ok (.lstore_n 1, 1) := by decide +kernel
theorem dX3_digest_25 : decode cX3_digest 25 = .ok (.iinc 3 1, 3) := by decide +kernel
theorem dX3_digest_28 : decode cX3_digest 28 = .ok (.goto (-22), 3) := by decide +kernel
theorem dX3_digest_31 : decode cX3_digest 31 = .ok (.aload_n 0, 1) := by decide +kernel
theorem dX3_digest_32 : decode cX3_digest 32 = .ok (.getfield 10, 3) := by decide +kernel
theorem dX3_digest_35 : decode cX3_digest 35 = .ok (.lload_n 1, 1) := by decide +kernel
theorem dX3_digest_36 : decode cX3_digest 36 = .ok (.invokevirtual 253, 3) := by decide +kernel
theorem dX3_digest_39 : decode cX3_digest 39 = .ok (.lstore_n 1, 1) := by decide +kernel
theorem dX3_digest_40 : decode cX3_digest 40 = .ok (.ldc2_w 251, 3) := by decide +kernel
theorem dX3_digest_43 : decode cX3_digest 43 = .ok (.lload_n 1, 1) := by decide +kernel
theorem dX3_digest_44 : decode cX3_digest 44 = .ok (.lmul, 1) := by decide +kernel
theorem dX3_digest_45 : decode cX3_digest 45 = .ok (.aload_n 0, 1) := by decide +kernel
theorem dX3_digest_46 : decode cX3_digest 46 = .ok (.getfield 56, 3) := by decide +kernel
theorem dX3_digest_49 : decode cX3_digest 49 = .ok (.ladd, 1) := by decide +kernel
theorem dX3_digest_50 : decode cX3_digest 50 = .ok (.lstore_n 1, 1) := by decide +kernel
theorem dX3_digest_51 : decode cX3_digest 51 = .ok (.ldc2_w 251, 3) := by decide +kernel
theorem dX3_digest_54 : decode cX3_digest 54 = .ok (.lload_n 1, 1) := by decide +kernel
theorem dX3_digest_55 : decode cX3_digest 55 = .ok (.lmul, 1) := by decide +kernel
theorem dX3_digest_56 : decode cX3_digest 56 = .ok (.aload_n 0, 1) := by decide +kernel
theorem dX3_digest_57 : decode cX3_digest 57 = .ok (.getfield 60, 3) := by decide +kernel
theorem dX3_digest_60 : decode cX3_digest 60 = .ok (.ladd, 1) := by decide +kernel
theorem dX3_digest_61 : decode cX3_digest 61 = .ok (.lreturn, 1) := by decide +kernel
theorem dX3_refuseBad_0 : decode cX3_refuseBad 0 = .ok (.aload_n 0, 1) := by decide +kernel
theorem dX3_refuseBad_1 : decode cX3_refuseBad 1 = .ok (.bipush (-2), 2) := by decide +kernel
theorem dX3_refuseBad_3 : decode cX3_refuseBad 3 = .ok (.invokevirtual 120, 3) := by decide +kernel
theorem dX3_refuseBad_6 : decode cX3_refuseBad 6 = .ok (.ireturn, 1) := by decide +kernel
theorem dX3_refuseBadAs_0 : decode cX3_refuseBadAs 0 = .ok (.aload_n 0, 1) := by decide +kernel
theorem dX3_refuseBadAs_1 : decode cX3_refuseBadAs 1 = .ok (.dup, 1) := by decide +kernel
theorem dX3_refuseBadAs_2 : decode cX3_refuseBadAs 2 = .ok (.getfield 46, 3) := by decide +kernel
theorem dX3_refuseBadAs_5 : decode cX3_refuseBadAs 5 = .ok (.iconst 1, 1) := by decide +kernel
theorem dX3_refuseBadAs_6 : decode cX3_refuseBadAs 6 = .ok (.iadd, 1) := by decide +kernel
theorem dX3_refuseBadAs_7 : decode cX3_refuseBadAs 7 = .ok (.putfield 46, 3) := by decide +kernel
theorem dX3_refuseBadAs_10 : decode cX3_refuseBadAs 10 = .ok (.iload_n 1, 1) := by decide +kernel
theorem dX3_refuseBadAs_11 : decode cX3_refuseBadAs 11 = .ok (.ireturn, 1) := by decide +kernel
theorem dX3_refuseNo_0 : decode cX3_refuseNo 0 = .ok (.aload_n 0, 1) := by decide +kernel
theorem dX3_refuseNo_1 : decode cX3_refuseNo 1 = .ok (.dup, 1) := by decide +kernel
theorem dX3_refuseNo_2 : decode cX3_refuseNo 2 = .ok (.getfield 50, 3) := by decide +kernel
theorem dX3_refuseNo_5 : decode cX3_refuseNo 5 = .ok (.iconst 1, 1) := by decide +kernel
theorem dX3_refuseNo_6 : decode cX3_refuseNo 6 = .ok (.iadd, 1) := by decide +kernel
theorem dX3_refuseNo_7 : decode cX3_refuseNo 7 = .ok (.putfield 50, 3) := by decide +kernel
theorem dX3_refuseNo_10 : decode cX3_refuseNo 10 = .ok (.bipush (-3), 2) := by decide +kernel
theorem dX3_refuseNo_12 : decode cX3_refuseNo 12 = .ok (.ireturn, 1) := by decide +kernel
theorem dX3_refuseFull_0 : decode cX3_refuseFull 0 = .ok (.aload_n 0, 1) := by decide +kernel
theorem dX3_refuseFull_1 : decode cX3_refuseFull 1 = .ok (.dup, 1) := by decide +kernel
theorem dX3_refuseFull_2 : decode cX3_refuseFull 2 = .ok (.getfield 53, 3) := by decide +kernel
theorem dX3_refuseFull_5 : decode cX3_refuseFull 5 = .ok (.iconst 1, 1) := by decide +kernel
theorem dX3_refuseFull_6 : decode cX3_refuseFull 6 = .ok (.iadd, 1) := by decide +kernel
theorem dX3_refuseFull_7 : decode cX3_refuseFull 7 = .ok (.putfield 53, 3) := by decide +kernel
theorem dX3_refuseFull_10 : decode cX3_refuseFull 10 = .ok (.bipush (-4), 2) := by decide +kernel
theorem dX3_refuseFull_12 : decode cX3_refuseFull 12 = .ok (.ireturn, 1) := by decide +kernel
theorem dX3_amount_0 : decode cX3_amount 0 = .ok (.iload_n 1, 1) := by decide +kernel
theorem dX3_amount_1 : decode cX3_amount 1 = .ok (.tableswitch 110 0 6 #[43, 51, 59, 67, 75, 91, 102], 43) := by decide +kernel
theorem dX3_amount_44 : decode cX3_amount 44 = .ok (.aload_n 0, 1) := by decide +kernel
theorem dX3_amount_45 : decode cX3_amount 45 = .ok (.getfield 10, 3) := by decide +kernel
theorem dX3_amount_48 : decode cX3_amount 48 = .ok (.getfield 71, 3) := by decide +kernel
theorem dX3_amount_51 : decode cX3_amount 51 = .ok (.ireturn, 1) := by decide +kernel
theorem dX3_amount_52 : decode cX3_amount 52 = .ok (.aload_n 0, 1) := by decide +kernel
theorem dX3_amount_53 : decode cX3_amount 53 = .ok (.getfield 10, 3) := by decide +kernel
theorem dX3_amount_56 : decode cX3_amount 56 = .ok (.getfield 169, 3) := by decide +kernel
theorem dX3_amount_59 : decode cX3_amount 59 = .ok (.ireturn, 1) := by decide +kernel
theorem dX3_amount_60 : decode cX3_amount 60 = .ok (.aload_n 0, 1) := by decide +kernel
theorem dX3_amount_61 : decode cX3_amount 61 = .ok (.getfield 10, 3) := by decide +kernel
theorem dX3_amount_64 : decode cX3_amount 64 = .ok (.getfield 140, 3) := by decide +kernel
theorem dX3_amount_67 : decode cX3_amount 67 = .ok (.ireturn, 1) := by decide +kernel
theorem dX3_amount_68 : decode cX3_amount 68 = .ok (.aload_n 0, 1) := by decide +kernel
theorem dX3_amount_69 : decode cX3_amount 69 = .ok (.getfield 10, 3) := by decide +kernel
theorem dX3_amount_72 : decode cX3_amount 72 = .ok (.getfield 256, 3) := by decide +kernel
theorem dX3_amount_75 : decode cX3_amount 75 = .ok (.ireturn, 1) := by decide +kernel
theorem dX3_amount_76 : decode cX3_amount 76 = .ok (.aload_n 0, 1) := by decide +kernel
theorem dX3_amount_77 : decode cX3_amount 77 = .ok (.getfield 10, 3) := by decide +kernel
theorem dX3_amount_80 : decode cX3_amount 80 = .ok (.getfield 259, 3) := by decide +kernel
theorem dX3_amount_83 : decode cX3_amount 83 = .ok (.ifCond .eq 7, 3) := by decide +kernel
theorem dX3_amount_86 : decode cX3_amount 86 = .ok (.iconst 1, 1) := by decide +kernel
theorem dX3_amount_87 : decode cX3_amount 87 = .ok (.goto 4, 3) := by decide +kernel
theorem dX3_amount_90 : decode cX3_amount 90 = .ok (.iconst 0, 1) := by decide +kernel
theorem dX3_amount_91 : decode cX3_amount 91 = .ok (.ireturn, 1) := by decide +kernel
theorem dX3_amount_92 : decode cX3_amount 92 = .ok (.aload_n 0, 1) := by decide +kernel
theorem dX3_amount_93 : decode cX3_amount 93 = .ok (.getfield 10, 3) := by decide +kernel
theorem dX3_amount_96 : decode cX3_amount 96 = .ok (.getfield 184, 3) := by decide +kernel
theorem dX3_amount_99 : decode cX3_amount 99 = .ok (.invokevirtual 193, 3) := by decide +kernel
theorem dX3_amount_102 : decode cX3_amount 102 = .ok (.ireturn, 1) := by decide +kernel
theorem dX3_amount_103 : decode cX3_amount 103 = .ok (.aload_n 0, 1) := by decide +kernel
theorem dX3_amount_104 : decode cX3_amount 104 = .ok (.getfield 10, 3) := by decide +kernel
theorem dX3_amount_107 : decode cX3_amount 107 = .ok (.getfield 88, 3) := by decide +kernel
theorem dX3_amount_110 : decode cX3_amount 110 = .ok (.ireturn, 1) := by decide +kernel
theorem dX3_amount_111 : decode cX3_amount 111 = .ok (.aload_n 0, 1) := by decide +kernel
theorem dX3_amount_112 : decode cX3_amount 112 = .ok (.getfield 35, 3) := by decide +kernel
theorem dX3_amount_115 : decode cX3_amount 115 = .ok (.getfield 98, 3) := by decide +kernel
theorem dX3_amount_118 : decode cX3_amount 118 = .ok (.ireturn, 1) := by decide +kernel
theorem dX3_imageAt_0 : decode cX3_imageAt 0 = .ok (.iload_n 1, 1) := by decide +kernel
theorem dX3_imageAt_1 : decode cX3_imageAt 1 = .ok (.ifCond .ne 10, 3) := by decide +kernel
theorem dX3_imageAt_4 : decode cX3_imageAt 4 = .ok (.aload_n 0, 1) := by decide +kernel
theorem dX3_imageAt_5 : decode cX3_imageAt 5 = .ok (.getfield 16, 3) := by decide +kernel
theorem dX3_imageAt_8 : decode cX3_imageAt 8 = .ok (.goto 7, 3) := by decide +kernel
theorem dX3_imageAt_11 : decode cX3_imageAt 11 = .ok (.aload_n 0, 1) := by decide +kernel
theorem dX3_imageAt_12 : decode cX3_imageAt 12 = .ok (.getfield 19, 3) := by decide +kernel
theorem dX3_imageAt_15 : decode cX3_imageAt 15 = .ok (.areturn, 1) := by decide +kernel
theorem dX3_isKept_0 : decode cX3_isKept 0 = .ok (.iload_n 1, 1) := by decide +kernel
theorem dX3_isKept_1 : decode cX3_isKept 1 = .ok (.ifCond .ne 10, 3) := by decide +kernel
theorem dX3_isKept_4 : decode cX3_isKept 4 = .ok (.aload_n 0, 1) := by decide +kernel
theorem dX3_isKept_5 : decode cX3_isKept 5 = .ok (.getfield 39, 3) := by decide +kernel
theorem dX3_isKept_8 : decode cX3_isKept 8 = .ok (.goto 7, 3) := by decide +kernel
theorem dX3_isKept_11 : decode cX3_isKept 11 = .ok (.aload_n 0, 1) := by decide +kernel
theorem dX3_isKept_12 : decode cX3_isKept 12 = .ok (.getfield 43, 3) := by decide +kernel
theorem dX3_isKept_15 : decode cX3_isKept 15 = .ok (.ireturn, 1) := by decide +kernel
theorem dX3_isSafeParting_0 : decode cX3_isSafeParting 0 = .ok (.iload_n 1, 1) := by decide +kernel
theorem dX3_isSafeParting_1 : decode cX3_isSafeParting 1 = .ok (.invokestatic 175, 3) := by decide +kernel
theorem dX3_isSafeParting_4 : decode cX3_isSafeParting 4 = .ok (.istore_n 2, 1) := by decide +kernel
theorem dX3_isSafeParting_5 : decode cX3_isSafeParting 5 = .ok (.iload_n 2, 1) := by decide +kernel
theorem dX3_isSafeParting_6 : decode cX3_isSafeParting 6 = .ok (.aload_n 0, 1) := by decide +kernel
theorem dX3_isSafeParting_7 : decode cX3_isSafeParting 7 = .ok (.getfield 10, 3) := by decide +kernel
theorem dX3_isSafeParting_10 : decode cX3_isSafeParting 10 = .ok (.getfield 169, 3) := by decide +kernel
theorem dX3_isSafeParting_13 : decode cX3_isSafeParting 13 = .ok (.if_icmp .lt 26, 3) := by decide +kernel
theorem dX3_isSafeParting_16 : decode cX3_isSafeParting 16 = .ok (.aload_n 0, 1) := by decide +kernel
theorem dX3_isSafeParting_17 : decode cX3_isSafeParting 17 = .ok (.getfield 10, 3) := by decide +kernel
theorem dX3_isSafeParting_20 : decode cX3_isSafeParting 20 = .ok (.getfield 71, 3) := by decide +kernel
theorem dX3_isSafeParting_23 : decode cX3_isSafeParting 23 = .ok (.iload_n 2, 1) := by decide +kernel
theorem dX3_isSafeParting_24 : decode cX3_isSafeParting 24 = .ok (.isub, 1) := by decide +kernel
theorem dX3_isSafeParting_25 : decode cX3_isSafeParting 25 = .ok (.aload_n 0, 1) := by decide +kernel
theorem dX3_isSafeParting_26 : decode cX3_isSafeParting 26 = .ok (.getfield 10, 3) := by decide +kernel
theorem dX3_isSafeParting_29 : decode cX3_isSafeParting 29 = .ok (.getfield 169, 3) := by decide +kernel
theorem dX3_isSafeParting_32 : decode cX3_isSafeParting 32 = .ok (.if_icmp .lt 7, 3) := by decide +kernel
theorem dX3_isSafeParting_35 : decode cX3_isSafeParting 35 = .ok (.iconst 1, 1) := by decide +kernel
theorem dX3_isSafeParting_36 : decode cX3_isSafeParting 36 = .ok (.goto 4, 3) := by decide +kernel
theorem dX3_isSafeParting_39 : decode cX3_isSafeParting 39 = .ok (.iconst 0, 1) := by decide +kernel
theorem dX3_isSafeParting_40 : decode cX3_isSafeParting 40 = .ok (.ireturn, 1) := by decide +kernel
theorem dX3_envelopeDays_0 : decode cX3_envelopeDays 0 = .ok (.iconst 0, 1) := by decide +kernel
theorem dX3_envelopeDays_1 : decode cX3_envelopeDays 1 = .ok (.istore_n 3, 1) := by decide +kernel
theorem dX3_envelopeDays_2 : decode cX3_envelopeDays 2 = .ok (.iconst 0, 1) := by decide +kernel
theorem dX3_envelopeDays_3 : decode cX3_envelopeDays 3 = .ok (.istore 4, 2) := by decide +kernel
theorem dX3_envelopeDays_5 : decode cX3_envelopeDays 5 = .ok (.iload 4, 2) := by decide +kernel
theorem dX3_envelopeDays_7 : decode cX3_envelopeDays 7 = .ok (.bipush 10, 2) := by decide +kernel
theorem dX3_envelopeDays_9 : decode cX3_envelopeDays 9 = .ok (.if_icmp .ge 80, 3) := by decide +kernel
theorem dX3_envelopeDays_12 : decode cX3_envelopeDays 12 = .ok (.aload_n 0, 1) := by decide +kernel
theorem dX3_envelopeDays_13 : decode cX3_envelopeDays 13 = .ok (.getfield 10, 3) := by decide +kernel
theorem dX3_envelopeDays_16 : decode cX3_envelopeDays 16 = .ok (.aload_n 0, 1) := by decide +kernel
theorem dX3_envelopeDays_17 : decode cX3_envelopeDays 17 = .ok (.getfield 10, 3) := by decide +kernel
theorem dX3_envelopeDays_20 : decode cX3_envelopeDays 20 = .ok (.invokevirtual 228, 3) := by decide +kernel
theorem dX3_envelopeDays_23 : decode cX3_envelopeDays 23 = .ok (.iconst 1, 1) := by decide +kernel
theorem dX3_envelopeDays_24 : decode cX3_envelopeDays 24 = .ok (.iload_n 1, 1) := by decide +kernel
theorem dX3_envelopeDays_25 : decode cX3_envelopeDays 25 = .ok (.ishl, 1) := by decide +kernel
theorem dX3_envelopeDays_26 : decode cX3_envelopeDays 26 = .ok (.iconst (-1), 1) := by decide +kernel
theorem dX3_envelopeDays_27 : decode cX3_envelopeDays 27 = .ok (.ixor, 1) := by decide +kernel
theorem dX3_envelopeDays_28 : decode cX3_envelopeDays 28 = .ok (.iand, 1) := by decide +kernel
theorem dX3_envelopeDays_29 : decode cX3_envelopeDays 29 = .ok (.iload_n 2, 1) := by decide +kernel
theorem dX3_envelopeDays_30 : decode cX3_envelopeDays 30 = .ok (.iload 4, 2) := by decide +kernel
theorem dX3_envelopeDays_32 : decode cX3_envelopeDays 32 = .ok (.iadd, 1) := by decide +kernel
theorem dX3_envelopeDays_33 : decode cX3_envelopeDays 33 = .ok (.aload_n 0, 1) := by decide +kernel
theorem dX3_envelopeDays_34 : decode cX3_envelopeDays 34 = .ok (.getfield 28, 3) := by decide +kernel
theorem dX3_envelopeDays_37 : decode cX3_envelopeDays 37 = .ok (.invokevirtual 262, 3) := by decide +kernel
theorem dX3_envelopeDays_40 : decode cX3_envelopeDays 40 = .ok (.aload_n 0, 1) := by decide +kernel
theorem dX3_envelopeDays_41 : decode cX3_envelopeDays 41 = .ok (.getfield 28, 3) := by decide +kernel
theorem dX3_envelopeDays_44 : decode cX3_envelopeDays 44 = .ok (.iload_n 1, 1) := by decide +kernel
theorem dX3_envelopeDays_45 : decode cX3_envelopeDays 45 = .ok (.aload_n 0, 1) := by decide +kernel
theorem dX3_envelopeDays_46 : decode cX3_envelopeDays 46 = .ok (.getfield 10, 3) := by decide +kernel
theorem dX3_envelopeDays_49 : decode cX3_envelopeDays 49 = .ok (.iload_n 1, 1) := by decide +kernel
theorem dX3_envelopeDays_50 : decode cX3_envelopeDays 50 = .ok (.invokevirtual 152, 3) := by decide +kernel
theorem dX3_envelopeDays_53 : decode cX3_envelopeDays 53 = .ok (.invokevirtual 190, 3) := by decide +kernel
theorem dX3_envelopeDays_56 : decode cX3_envelopeDays 56 = .ok (.aload_n 0, 1) := by decide +kernel
theorem dX3_envelopeDays_57 : decode cX3_envelopeDays 57 = .ok (.getfield 28, 3) := by decide +kernel
theorem dX3_envelopeDays_60 : decode cX3_envelopeDays 60 = .ok (.aload_n 0, 1) := by decide +kernel
theorem dX3_envelopeDays_61 : decode cX3_envelopeDays 61 = .ok (.getfield 10, 3) := by decide +kernel
theorem dX3_envelopeDays_64 : decode cX3_envelopeDays 64 = .ok (.getfield 169, 3) := by decide +kernel
theorem dX3_envelopeDays_67 : decode cX3_envelopeDays 67 = .ok (.invokevirtual 172, 3) := by decide +kernel
theorem dX3_envelopeDays_70 : decode cX3_envelopeDays 70 = .ok (.aload_n 0, 1) := by decide +kernel
theorem dX3_envelopeDays_71 : decode cX3_envelopeDays 71 = .ok (.getfield 10, 3) := by decide +kernel
theorem dX3_envelopeDays_74 : decode cX3_envelopeDays 74 = .ok (.getfield 266, 3) := by decide +kernel
theorem dX3_envelopeDays_77 : decode cX3_envelopeDays 77 = .ok (.if_icmp .ne 6, 3) := by decide +kernel
theorem dX3_envelopeDays_80 : decode cX3_envelopeDays 80 = .ok (.iinc 3 1, 3) := by decide +kernel
theorem dX3_envelopeDays_83 : decode cX3_envelopeDays 83 = .ok (.iinc 4 1, 3) := by decide +kernel
theorem dX3_envelopeDays_86 : decode cX3_envelopeDays 86 = .ok (.goto (-81), 3) := by decide +kernel
theorem dX3_envelopeDays_89 : decode cX3_envelopeDays 89 = .ok (.iload_n 3, 1) := by decide +kernel
theorem dX3_envelopeDays_90 : decode cX3_envelopeDays 90 = .ok (.ireturn, 1) := by decide +kernel
theorem dX3_isWithin_0 : decode cX3_isWithin 0 = .ok (.iload_n 0, 1) := by decide +kernel
theorem dX3_isWithin_1 : decode cX3_isWithin 1 = .ok (.iload_n 1, 1) := by decide +kernel
theorem dX3_isWithin_2 : decode cX3_isWithin 2 = .ok (.if_icmp .lt 12, 3) := by decide +kernel
theorem dX3_isWithin_5 : decode cX3_isWithin 5 = .ok (.iload_n 0, 1) := by decide +kernel
theorem dX3_isWithin_6 : decode cX3_isWithin 6 = .ok (.iload_n 2, 1) := by decide +kernel
theorem dX3_isWithin_7 : decode cX3_isWithin 7 = .ok (.if_icmp .gt 7, 3) := by decide +kernel
theorem dX3_isWithin_10 : decode cX3_isWithin 10 = .ok (.iconst 1, 1) := by decide +kernel
theorem dX3_isWithin_11 : decode cX3_isWithin 11 = .ok (.goto 4, 3) := by decide +kernel
theorem dX3_isWithin_14 : decode cX3_isWithin 14 = .ok (.iconst 0, 1) := by decide +kernel
theorem dX3_isWithin_15 : decode cX3_isWithin 15 = .ok (.ireturn, 1) := by decide +kernel
theorem dX3_isDay_0 : decode cX3_isDay 0 = .ok (.iload_n 0, 1) := by decide +kernel
theorem dX3_isDay_1 : decode cX3_isDay 1 = .ok (.iconst 0, 1) := by decide +kernel
theorem dX3_isDay_2 : decode cX3_isDay 2 = .ok (.sipush 999, 3) := by decide +kernel
theorem dX3_isDay_5 : decode cX3_isDay 5 = .ok (.invokestatic 63, 3) := by decide +kernel
theorem dX3_isDay_8 : decode cX3_isDay 8 = .ok (.ireturn, 1) := by decide +kernel
theorem dX3_isImage_0 : decode cX3_isImage 0 = .ok (.iload_n 0, 1) := by decide +kernel
theorem dX3_isImage_1 : decode cX3_isImage 1 = .ok (.iconst 0, 1) := by decide +kernel
theorem dX3_isImage_2 : decode cX3_isImage 2 = .ok (.iconst 1, 1) := by decide +kernel
theorem dX3_isImage_3 : decode cX3_isImage 3 = .ok (.invokestatic 63, 3) := by decide +kernel
theorem dX3_isImage_6 : decode cX3_isImage 6 = .ok (.ireturn, 1) := by decide +kernel
theorem dX3_isIn_0 : decode cX3_isIn 0 = .ok (.iload_n 0, 1) := by decide +kernel
theorem dX3_isIn_1 : decode cX3_isIn 1 = .ok (.iload_n 1, 1) := by decide +kernel
theorem dX3_isIn_2 : decode cX3_isIn 2 = .ok (.ishr, 1) := by decide +kernel
theorem dX3_isIn_3 : decode cX3_isIn 3 = .ok (.iconst 1, 1) := by decide +kernel
theorem dX3_isIn_4 : decode cX3_isIn 4 = .ok (.iand, 1) := by decide +kernel
theorem dX3_isIn_5 : decode cX3_isIn 5 = .ok (.iconst 1, 1) := by decide +kernel
theorem dX3_isIn_6 : decode cX3_isIn 6 = .ok (.if_icmp .ne 7, 3) := by decide +kernel
theorem dX3_isIn_9 : decode cX3_isIn 9 = .ok (.iconst 1, 1) := by decide +kernel
theorem dX3_isIn_10 : decode cX3_isIn 10 = .ok (.goto 4, 3) := by decide +kernel
theorem dX3_isIn_13 : decode cX3_isIn 13 = .ok (.iconst 0, 1) := by decide +kernel
theorem dX3_isIn_14 : decode cX3_isIn 14 = .ok (.ireturn, 1) := by decide +kernel
theorem dX3_leftOver_0 : decode cX3_leftOver 0 = .ok (.iload_n 0, 1) := by decide +kernel
theorem dX3_leftOver_1 : decode cX3_leftOver 1 = .ok (.bipush 97, 2) := by decide +kernel
theorem dX3_leftOver_3 : decode cX3_leftOver 3 = .ok (.irem, 1) := by decide +kernel
theorem dX3_leftOver_4 : decode cX3_leftOver 4 = .ok (.istore_n 1, 1) := by decide +kernel
theorem dX3_leftOver_5 : decode cX3_leftOver 5 = .ok (.iload_n 1, 1) := by decide +kernel
theorem dX3_leftOver_6 : decode cX3_leftOver 6 = .ok (.ifCond .ge 10, 3) := by decide +kernel
theorem dX3_leftOver_9 : decode cX3_leftOver 9 = .ok (.iload_n 1, 1) := by decide +kernel
theorem dX3_leftOver_10 : decode cX3_leftOver 10 = .ok (.bipush 97, 2) := by decide +kernel
theorem dX3_leftOver_12 : decode cX3_leftOver 12 = .ok (.iadd, 1) := by decide +kernel
theorem dX3_leftOver_13 : decode cX3_leftOver 13 = .ok (.goto 4, 3) := by decide +kernel
theorem dX3_leftOver_16 : decode cX3_leftOver 16 = .ok (.iload_n 1, 1) := by decide +kernel
theorem dX3_leftOver_17 : decode cX3_leftOver 17 = .ok (.ireturn, 1) := by decide +kernel
theorem dX3_nextX_0 : decode cX3_nextX 0 = .ok (.lload_n 0, 1) := by decide +kernel
theorem dX3_nextX_1 : decode cX3_nextX 1 = .ok (.ldc2_w 269, 3) := by decide +kernel
theorem dX3_nextX_4 : decode cX3_nextX 4 = .ok (.lmul, 1) := by decide +kernel
theorem dX3_nextX_5 : decode cX3_nextX 5 = .ok (.ldc2_w 271, 3) := by decide +kernel
theorem dX3_nextX_8 : decode cX3_nextX 8 = .ok (.ladd, 1) := by decide +kernel
theorem dX3_nextX_9 : decode cX3_nextX 9 = .ok (.ldc2_w 273, 3) := by decide +kernel
theorem dX3_nextX_12 : decode cX3_nextX 12 = .ok (.lrem, 1) := by decide +kernel
theorem dX3_nextX_13 : decode cX3_nextX 13 = .ok (.lreturn, 1) := by decide +kernel
theorem dX3_drawn_0 : decode cX3_drawn 0 = .ok (.iload_n 2, 1) := by decide +kernel
theorem dX3_drawn_1 : decode cX3_drawn 1 = .ok (.iconst 1, 1) := by decide +kernel
theorem dX3_drawn_2 : decode cX3_drawn 2 = .ok (.if_icmp .ge 7, 3) := by decide +kernel
theorem dX3_drawn_5 : decode cX3_drawn 5 = .ok (.iconst 0, 1) := by decide +kernel
theorem dX3_drawn_6 : decode cX3_drawn 6 = .ok (.goto 12, 3) := by decide +kernel
theorem dX3_drawn_9 : decode cX3_drawn 9 = .ok (.lload_n 0, 1) := by decide +kernel
theorem dX3_drawn_10 : decode cX3_drawn 10 = .ok (.ldc2_w 275, 3) := by decide +kernel
theorem dX3_drawn_13 : decode cX3_drawn 13 = .ok (.ldiv, 1) := by decide +kernel
theorem dX3_drawn_14 : decode cX3_drawn 14 = .ok (.iload_n 2, 1) := by decide +kernel
theorem dX3_drawn_15 : decode cX3_drawn 15 = .ok (.i2l, 1) := by decide +kernel
theorem dX3_drawn_16 : decode cX3_drawn 16 = .ok (.lrem, 1) := by decide +kernel
theorem dX3_drawn_17 : decode cX3_drawn 17 = .ok (.l2i, 1) := by decide +kernel
theorem dX3_drawn_18 : decode cX3_drawn 18 = .ok (.ireturn, 1) := by decide +kernel
theorem dX3_power_0 : decode cX3_power 0 = .ok (.lconst 1, 1) := by decide +kernel
theorem dX3_power_1 : decode cX3_power 1 = .ok (.lstore_n 2, 1) := by decide +kernel
theorem dX3_power_2 : decode cX3_power 2 = .ok (.iconst 0, 1) := by decide +kernel
theorem dX3_power_3 : decode cX3_power 3 = .ok (.istore 4, 2) := by decide +kernel
theorem dX3_power_5 : decode cX3_power 5 = .ok (.iload 4, 2) := by decide +kernel
theorem dX3_power_7 : decode cX3_power 7 = .ok (.iload_n 1, 1) := by decide +kernel
theorem dX3_power_8 : decode cX3_power 8 = .ok (.if_icmp .ge 14, 3) := by decide +kernel
theorem dX3_power_11 : decode cX3_power 11 = .ok (.lload_n 2, 1) := by decide +kernel
theorem dX3_power_12 : decode cX3_power 12 = .ok (.iload_n 0, 1) := by decide +kernel
theorem dX3_power_13 : decode cX3_power 13 = .ok (.i2l, 1) := by decide +kernel
theorem dX3_power_14 : decode cX3_power 14 = .ok (.lmul, 1) := by decide +kernel
theorem dX3_power_15 : decode cX3_power 15 = .ok (.lstore_n 2, 1) := by decide +kernel
theorem dX3_power_16 : decode cX3_power 16 = .ok (.iinc 4 1, 3) := by decide +kernel
theorem dX3_power_19 : decode cX3_power 19 = .ok (.goto (-14), 3) := by decide +kernel
theorem dX3_power_22 : decode cX3_power 22 = .ok (.lload_n 2, 1) := by decide +kernel
theorem dX3_power_23 : decode cX3_power 23 = .ok (.lreturn, 1) := by decide +kernel
theorem dX3_partsWithAtLeast_0 : decode cX3_partsWithAtLeast 0 = .ok (.lconst 0, 1) := by decide +kernel
theorem dX3_partsWithAtLeast_1 : decode cX3_partsWithAtLeast 1 = .ok (.lstore_n 3, 1) := by decide +kernel
theorem dX3_partsWithAtLeast_2 : decode cX3_partsWithAtLeast 2 = .ok (.iconst 0, 1) := by decide +kernel
theorem dX3_partsWithAtLeast_3 : decode cX3_partsWithAtLeast 3 = .ok (.istore 5, 2) := by decide +kernel
theorem dX3_partsWithAtLeast_5 : decode cX3_partsWithAtLeast 5 = .ok (.iload 5, 2) := by decide +kernel
theorem dX3_partsWithAtLeast_7 : decode cX3_partsWithAtLeast 7 = .ok (.iconst 1, 1) := by decide +kernel
theorem dX3_partsWithAtLeast_8 : decode cX3_partsWithAtLeast 8 = .ok (.iload_n 1, 1) := by decide +kernel
theorem dX3_partsWithAtLeast_9 : decode cX3_partsWithAtLeast 9 = .ok (.ishl, 1) := by decide +kernel
theorem dX3_partsWithAtLeast_10 : decode cX3_partsWithAtLeast 10 = .ok (.if_icmp .ge 43, 3) := by decide +kernel
theorem dX3_partsWithAtLeast_13 : decode cX3_partsWithAtLeast 13 = .ok (.iload 5, 2) := by decide +kernel
theorem dX3_partsWithAtLeast_15 : decode cX3_partsWithAtLeast 15 = .ok (.invokestatic 175, 3) := by decide +kernel
theorem dX3_partsWithAtLeast_18 : decode cX3_partsWithAtLeast 18 = .ok (.istore 6, 2) := by decide +kernel
theorem dX3_partsWithAtLeast_20 : decode cX3_partsWithAtLeast 20 = .ok (.iload 6, 2) := by decide +kernel
theorem dX3_partsWithAtLeast_22 : decode cX3_partsWithAtLeast 22 = .ok (.iload_n 0, 1) := by decide +kernel
theorem dX3_partsWithAtLeast_23 : decode cX3_partsWithAtLeast 23 = .ok (.if_icmp .lt 24, 3) := by decide +kernel
theorem dX3_partsWithAtLeast_26 : decode cX3_partsWithAtLeast 26 = .ok (.lload_n 3, 1) := by decide +kernel
theorem dX3_partsWithAtLeast_27 : decode cX3_partsWithAtLeast 27 = .ok (.iload_n 2, 1) := by decide +kernel
theorem dX3_partsWithAtLeast_28 : decode cX3_partsWithAtLeast 28 = .ok (.iload 6, 2) := by decide +kernel
theorem dX3_partsWithAtLeast_30 : decode cX3_partsWithAtLeast 30 = .ok (.invokestatic 220, 3) := by decide +kernel
theorem dX3_partsWithAtLeast_33 : decode cX3_partsWithAtLeast 33 = .ok (.bipush 10, 2) := by decide +kernel
theorem dX3_partsWithAtLeast_35 : decode cX3_partsWithAtLeast 35 = .ok (.iload_n 2, 1) := by decide +kernel
theorem dX3_partsWithAtLeast_36 : decode cX3_partsWithAtLeast 36 = .ok (.isub, 1) := by decide +kernel
theorem dX3_partsWithAtLeast_37 : decode cX3_partsWithAtLeast 37 = .ok (.iload_n 1, 1) := by decide +kernel
theorem dX3_partsWithAtLeast_38 : decode cX3_partsWithAtLeast 38 = .ok (.iload 6, 2) := by decide +kernel
theorem dX3_partsWithAtLeast_40 : decode cX3_partsWithAtLeast 40 = .ok (.isub, 1) := by decide +kernel
theorem dX3_partsWithAtLeast_41 : decode cX3_partsWithAtLeast 41 = .ok (.invokestatic 220, 3) := by decide +kernel
theorem dX3_partsWithAtLeast_44 : decode cX3_partsWithAtLeast 44 = .ok (.lmul, 1) := by decide +kernel
theorem dX3_partsWithAtLeast_45 : decode cX3_partsWithAtLeast 45 = .ok (.ladd, 1) := by decide +kernel
theorem dX3_partsWithAtLeast_46 : decode cX3_partsWithAtLeast 46 = .ok (.lstore_n 3, 1) := by decide +kernel
theorem dX3_partsWithAtLeast_47 : decode cX3_partsWithAtLeast 47 = .ok (.iinc 5 1, 3) := by decide +kernel
theorem dX3_partsWithAtLeast_50 : decode cX3_partsWithAtLeast 50 = .ok (.goto (-45), 3) := by decide +kernel
theorem dX3_partsWithAtLeast_53 : decode cX3_partsWithAtLeast 53 = .ok (.lload_n 3, 1) := by decide +kernel
theorem dX3_partsWithAtLeast_54 : decode cX3_partsWithAtLeast 54 = .ok (.lreturn, 1) := by decide +kernel
theorem dX3_commonDivisor_0 : decode cX3_commonDivisor 0 = .ok (.lload_n 0, 1) := by decide +kernel
theorem dX3_commonDivisor_1 : decode cX3_commonDivisor 1 = .ok (.lstore 4, 2) := by decide +kernel
theorem dX3_commonDivisor_3 : decode cX3_commonDivisor 3 = .ok (.lload_n 2, 1) := by decide +kernel
theorem dX3_commonDivisor_4 : decode cX3_commonDivisor 4 = .ok (.lstore 6, 2) := by decide +kernel
theorem dX3_commonDivisor_6 : decode cX3_commonDivisor 6 = .ok (.iconst 0, 1) := by decide +kernel
theorem dX3_commonDivisor_7 : decode cX3_commonDivisor 7 = .ok (.istore 8, 2) := by decide +kernel
theorem dX3_commonDivisor_9 : decode cX3_commonDivisor 9 = .ok (.iload 8, 2) := by decide +kernel
theorem dX3_commonDivisor_11 : decode cX3_commonDivisor 11 = .ok (.bipush 100, 2) := by decide +kernel
theorem dX3_commonDivisor_13 : decode cX3_commonDivisor 13 = .ok (.if_icmp .ge 31, 3) := by decide +kernel
theorem dX3_commonDivisor_16 : decode cX3_commonDivisor 16 = .ok (.lload 6, 2) := by decide +kernel
theorem dX3_commonDivisor_18 : decode cX3_commonDivisor 18 = .ok (.lconst 0, 1) := by decide +kernel
theorem dX3_commonDivisor_19 : decode cX3_commonDivisor 19 = .ok (.lcmp, 1) := by decide +kernel
theorem dX3_commonDivisor_20 : decode cX3_commonDivisor 20 = .ok (.ifCond .eq 24, 3) := by decide +kernel
theorem dX3_commonDivisor_23 : decode cX3_commonDivisor 23 = .ok (.lload 4, 2) := by decide +kernel
theorem dX3_commonDivisor_25 : decode cX3_commonDivisor 25 = .ok (.lload 6, 2) := by decide +kernel
theorem dX3_commonDivisor_27 : decode cX3_commonDivisor 27 = .ok (.lrem, 1) := by decide +kernel
theorem dX3_commonDivisor_28 : decode cX3_commonDivisor 28 = .ok (.lstore 9, 2) := by decide +kernel
theorem dX3_commonDivisor_30 : decode cX3_commonDivisor 30 = .ok (.lload 6, 2) := by decide +kernel
theorem dX3_commonDivisor_32 : decode cX3_commonDivisor 32 = .ok (.lstore 4, 2) := by decide +kernel
theorem dX3_commonDivisor_34 : decode cX3_commonDivisor 34 = .ok (.lload 9, 2) := by decide +kernel
theorem dX3_commonDivisor_36 : decode cX3_commonDivisor 36 = .ok (.lstore 6, 2) := by decide +kernel
theorem dX3_commonDivisor_38 : decode cX3_commonDivisor 38 = .ok (.iinc 8 1, 3) := by decide +kernel
theorem dX3_commonDivisor_41 : decode cX3_commonDivisor 41 = .ok (.goto (-32), 3) := by decide +kernel
theorem dX3_commonDivisor_44 : decode cX3_commonDivisor 44 = .ok (.lload 4, 2) := by decide +kernel
theorem dX3_commonDivisor_46 : decode cX3_commonDivisor 46 = .ok (.lreturn, 1) := by decide +kernel
theorem dX4_init_0 : decode cX4_init 0 = .ok (.aload_n 0, 1) := by decide +kernel
theorem dX4_init_1 : decode cX4_init 1 = .ok (.invokespecial 1, 3) := by decide +kernel
theorem dX4_init_4 : decode cX4_init 4 = .ok (.aload_n 0, 1) := by decide +kernel
theorem dX4_init_5 : decode cX4_init 5 = .ok (.bipush 27, 2) := by decide +kernel
theorem dX4_init_7 : decode cX4_init 7 = .ok (.newarray .int, 2) := by decide +kernel
theorem dX4_init_9 : decode cX4_init 9 = .ok (.putfield 7, 3) := by decide +kernel
theorem dX4_init_12 : decode cX4_init 12 = .ok (.aload_n 0, 1) := by decide +kernel
theorem dX4_init_13 : decode cX4_init 13 = .ok (.lconst 1, 1) := by decide +kernel
theorem dX4_init_14 : decode cX4_init 14 = .ok (.putfield 13, 3) := by decide +kernel
theorem dX4_init_17 : decode cX4_init 17 = .ok (.aload_n 0, 1) := by decide +kernel
theorem dX4_init_18 : decode cX4_init 18 = .ok (.iconst 3, 1) := by decide +kernel
theorem dX4_init_19 : decode cX4_init 19 = .ok (.newarray .int, 2) := by decide +kernel
theorem dX4_init_21 : decode cX4_init 21 = .ok (.putfield 17, 3) := by decide +kernel
theorem dX4_init_24 : decode cX4_init 24 = .ok (.aload_n 0, 1) := by decide +kernel
theorem dX4_init_25 : decode cX4_init 25 = .ok (.sipush 150, 3) := by decide +kernel
theorem dX4_init_28 : decode cX4_init 28 = .ok (.newarray .int, 2) := by decide +kernel
theorem dX4_init_30 : decode cX4_init 30 = .ok (.putfield 20, 3) := by decide +kernel
theorem dX4_init_33 : decode cX4_init 33 = .ok (.aload_n 0, 1) := by decide +kernel
theorem dX4_init_34 : decode cX4_init 34 = .ok (.iconst 2, 1) := by decide +kernel
theorem dX4_init_35 : decode cX4_init 35 = .ok (.newarray .int, 2) := by decide +kernel
theorem dX4_init_37 : decode cX4_init 37 = .ok (.putfield 23, 3) := by decide +kernel
theorem dX4_init_40 : decode cX4_init 40 = .ok (.aload_n 0, 1) := by decide +kernel
theorem dX4_init_41 : decode cX4_init 41 = .ok (.bipush 6, 2) := by decide +kernel
theorem dX4_init_43 : decode cX4_init 43 = .ok (.newarray .int, 2) := by decide +kernel
theorem dX4_init_45 : decode cX4_init 45 = .ok (.putfield 26, 3) := by decide +kernel
theorem dX4_init_48 : decode cX4_init 48 = .ok (.aload_n 0, 1) := by decide +kernel
theorem dX4_init_49 : decode cX4_init 49 = .ok (.iconst 4, 1) := by decide +kernel
theorem dX4_init_50 : decode cX4_init 50 = .ok (.newarray .int, 2) := by decide +kernel
theorem dX4_init_52 : decode cX4_init 52 = .ok (.putfield 29, 3) := by decide +kernel
theorem dX4_init_55 : decode cX4_init 55 = .ok (.aload_n 0, 1) := by decide +kernel
theorem dX4_init_56 : decode cX4_init 56 = .ok (.bipush 48, 2) := by decide +kernel
theorem dX4_init_58 : decode cX4_init 58 = .ok (.newarray .int, 2) := by decide +kernel
theorem dX4_init_60 : decode cX4_init 60 = .ok (.putfield 32, 3) := by decide +kernel
theorem dX4_init_63 : decode cX4_init 63 = .ok (.aload_n 0, 1) := by decide +kernel
theorem dX4_init_64 : decode cX4_init 64 = .ok (.iconst 2, 1) := by decide +kernel
theorem dX4_init_65 : decode cX4_init 65 = .ok (.newarray .boolean, 2) := by decide +kernel
theorem dX4_init_67 : decode cX4_init 67 = .ok (.putfield 35, 3) := by decide +kernel
theorem dX4_init_70 : decode cX4_init 70 = .ok (.aload_n 0, 1) := by decide +kernel
theorem dX4_init_71 : decode cX4_init 71 = .ok (.bipush 54, 2) := by decide +kernel
theorem dX4_init_73 : decode cX4_init 73 = .ok (.newarray .int, 2) := by decide +kernel
theorem dX4_init_75 : decode cX4_init 75 = .ok (.putfield 39, 3) := by decide +kernel
theorem dX4_init_78 : decode cX4_init 78 = .ok (.aload_n 0, 1) := by decide +kernel
theorem dX4_init_79 : decode cX4_init 79 = .ok (.bipush 96, 2) := by decide +kernel
theorem dX4_init_81 : decode cX4_init 81 = .ok (.newarray .int, 2) := by decide +kernel
theorem dX4_init_83 : decode cX4_init 83 = .ok (.putfield 42, 3) := by decide +kernel
theorem dX4_init_86 : decode cX4_init 86 = .ok (.aload_n 0, 1) := by decide +kernel
theorem dX4_init_87 : decode cX4_init 87 = .ok (.iconst 2, 1) := by decide +kernel
theorem dX4_init_88 : decode cX4_init 88 = .ok (.newarray .int, 2) := by decide +kernel
theorem dX4_init_90 : decode cX4_init 90 = .ok (.putfield 45, 3) := by decide +kernel
theorem dX4_init_93 : decode cX4_init 93 = .ok (.aload_n 0, 1) := by decide +kernel
theorem dX4_init_94 : decode cX4_init 94 = .ok (.iconst 0, 1) := by decide +kernel
theorem dX4_init_95 : decode cX4_init 95 = .ok (.iconst 2, 1) := by decide +kernel
theorem dX4_init_96 : decode cX4_init 96 = .ok (.invokevirtual 48, 3) := by decide +kernel
theorem dX4_init_99 : decode cX4_init 99 = .ok (.return_, 1) := by decide +kernel
theorem dX4_in_0 : decode cX4_in 0 = .ok (.lload_n 0, 1) := by decide +kernel
theorem dX4_in_1 : decode cX4_in 1 = .ok (.lload_n 2, 1) := by decide +kernel
theorem dX4_in_2 : decode cX4_in 2 = .ok (.lcmp, 1) := by decide +kernel
theorem dX4_in_3 : decode cX4_in 3 = .ok (.ifCond .lt 14, 3) := by decide +kernel
theorem dX4_in_6 : decode cX4_in 6 = .ok (.lload_n 0, 1) := by decide +kernel
theorem dX4_in_7 : decode cX4_in 7 = .ok (.lload 4, 2) := by decide +kernel
theorem dX4_in_9 : decode cX4_in 9 = .ok (.lcmp, 1) := by decide +kernel
theorem dX4_in_10 : decode cX4_in 10 = .ok (.ifCond .gt 7, 3) := by decide +kernel
theorem dX4_in_13 : decode cX4_in 13 = .ok (.iconst 1, 1) := by decide +kernel
theorem dX4_in_14 : decode cX4_in 14 = .ok (.goto 4, 3) := by decide +kernel
theorem dX4_in_17 : decode cX4_in 17 = .ok (.iconst 0, 1) := by decide +kernel
theorem dX4_in_18 : decode cX4_in 18 = .ok (.ireturn, 1) := by decide +kernel
theorem dX4_has_0 : decode cX4_has 0 = .ok (.iload_n 0, 1) := by decide +kernel
theorem dX4_has_1 : decode cX4_has 1 = .ok (.iload_n 1, 1) := by decide +kernel
theorem dX4_has_2 : decode cX4_has 2 = .ok (.ishr, 1) := by decide +kernel
theorem dX4_has_3 : decode cX4_has 3 = .ok (.iconst 1, 1) := by decide +kernel
theorem dX4_has_4 : decode cX4_has 4 = .ok (.iand, 1) := by decide +kernel
theorem dX4_has_5 : decode cX4_has 5 = .ok (.iconst 1, 1) := by decide +kernel
theorem dX4_has_6 : decode cX4_has 6 = .ok (.if_icmp .ne 7, 3) := by decide +kernel
theorem dX4_has_9 : decode cX4_has 9 = .ok (.iconst 1, 1) := by decide +kernel
theorem dX4_has_10 : decode cX4_has 10 = .ok (.goto 4, 3) := by decide +kernel
theorem dX4_has_13 : decode cX4_has 13 = .ok (.iconst 0, 1) := by decide +kernel
theorem dX4_has_14 : decode cX4_has 14 = .ok (.ireturn, 1) := by decide +kernel
theorem dX4_ones_0 : decode cX4_ones 0 = .ok (.iconst 0, 1) := by decide +kernel
theorem dX4_ones_1 : decode cX4_ones 1 = .ok (.istore_n 1, 1) := by decide +kernel
theorem dX4_ones_2 : decode cX4_ones 2 = .ok (.iload_n 0, 1) := by decide +kernel
theorem dX4_ones_3 : decode cX4_ones 3 = .ok (.istore_n 2, 1) := by decide +kernel
theorem dX4_ones_4 : decode cX4_ones 4 = .ok (.iload_n 2, 1) := by decide +kernel
theorem dX4_ones_5 : decode cX4_ones 5 = .ok (.ifCond .eq 15, 3) := by decide +kernel
theorem dX4_ones_8 : decode cX4_ones 8 = .ok (.iinc 1 1, 3) := by decide +kernel
theorem dX4_ones_11 : decode cX4_ones 11 = .ok (.iload_n 2, 1) := by decide +kernel
theorem dX4_ones_12 : decode cX4_ones 12 = .ok (.iload_n 2, 1) := by decide +kernel
theorem dX4_ones_13 : decode cX4_ones 13 = .ok (.iconst 1, 1) := by decide +kernel
theorem dX4_ones_14 : decode cX4_ones 14 = .ok (.isub, 1) := by decide +kernel
theorem dX4_ones_15 : decode cX4_ones 15 = .ok (.iand, 1) := by decide +kernel
theorem dX4_ones_16 : decode cX4_ones 16 = .ok (.istore_n 2, 1) := by decide +kernel
theorem dX4_ones_17 : decode cX4_ones 17 = .ok (.goto (-13), 3) := by decide +kernel
theorem dX4_ones_20 : decode cX4_ones 20 = .ok (.iload_n 1, 1) := by decide +kernel
theorem dX4_ones_21 : decode cX4_ones 21 = .ok (.ireturn, 1) := by decide +kernel
theorem dX4_bad_0 : decode cX4_bad 0 = .ok (.aload_n 0, 1) := by decide +kernel
theorem dX4_bad_1 : decode cX4_bad 1 = .ok (.getfield 17, 3) := by decide +kernel
theorem dX4_bad_4 : decode cX4_bad 4 = .ok (.iconst 0, 1) := by decide +kernel
theorem dX4_bad_5 : decode cX4_bad 5 = .ok (.dup2, 1) := by decide +kernel
theorem dX4_bad_6 : decode cX4_bad 6 = .ok (.iaload, 1) := by decide +kernel
theorem dX4_bad_7 : decode cX4_bad 7 = .ok (.iconst 1, 1) := by decide +kernel
theorem dX4_bad_8 : decode cX4_bad 8 = .ok (.iadd, 1) := by decide +kernel
theorem dX4_bad_9 : decode cX4_bad 9 = .ok (.iastore, 1) := by decide +kernel
theorem dX4_bad_10 : decode cX4_bad 10 = .ok (.bipush (-2), 2) := by decide +kernel
theorem dX4_bad_12 : decode cX4_bad 12 = .ok (.ireturn, 1) := by decide +kernel
theorem dX4_no_0 : decode cX4_no 0 = .ok (.aload_n 0, 1) := by decide +kernel
theorem dX4_no_1 : decode cX4_no 1 = .ok (.getfield 17, 3) := by decide +kernel
theorem dX4_no_4 : decode cX4_no 4 = .ok (.iconst 1, 1) := by decide +kernel
theorem dX4_no_5 : decode cX4_no 5 = .ok (.dup2, 1) := by decide +kernel
theorem dX4_no_6 : decode cX4_no 6 = .ok (.iaload, 1) := by decide +kernel
theorem dX4_no_7 : decode cX4_no 7 = .ok (.iconst 1, 1) := by decide +kernel
theorem dX4_no_8 : decode cX4_no 8 = .ok (.iadd, 1) := by decide +kernel
theorem dX4_no_9 : decode cX4_no 9 = .ok (.iastore, 1) := by decide +kernel
theorem dX4_no_10 : decode cX4_no 10 = .ok (.bipush (-3), 2) := by decide +kernel
theorem dX4_no_12 : decode cX4_no 12 = .ok (.ireturn, 1) := by decide +kernel
theorem dX4_full_0 : decode cX4_full 0 = .ok (.aload_n 0, 1) := by decide +kernel
theorem dX4_full_1 : decode cX4_full 1 = .ok (.getfield 17, 3) := by decide +kernel
theorem dX4_full_4 : decode cX4_full 4 = .ok (.iconst 2, 1) := by decide +kernel
theorem dX4_full_5 : decode cX4_full 5 = .ok (.dup2, 1) := by decide +kernel
theorem dX4_full_6 : decode cX4_full 6 = .ok (.iaload, 1) := by decide +kernel
theorem dX4_full_7 : decode cX4_full 7 = .ok (.iconst 1, 1) := by decide +kernel
theorem dX4_full_8 : decode cX4_full 8 = .ok (.iadd, 1) := by decide +kernel
theorem dX4_full_9 : decode cX4_full 9 = .ok (.iastore, 1) := by decide +kernel
theorem dX4_full_10 : decode cX4_full 10 = .ok (.bipush (-4), 2) := by decide +kernel
theorem dX4_full_12 : decode cX4_full 12 = .ok (.ireturn, 1) := by decide +kernel
theorem dX4_isWhat_0 : decode cX4_isWhat 0 = .ok (.iload_n 0, 1) := by decide +kernel
theorem dX4_isWhat_1 : decode cX4_isWhat 1 = .ok (.i2l, 1) := by decide +kernel
theorem dX4_isWhat_2 : decode cX4_isWhat 2 = .ok (.lconst 0, 1) := by decide +kernel
theorem dX4_isWhat_3 : decode cX4_isWhat 3 = .ok (.lconst 1, 1) := by decide +kernel
theorem dX4_isWhat_4 : decode cX4_isWhat 4 = .ok (.invokestatic 52, 3) := by decide +kernel
theorem dX4_isWhat_7 : decode cX4_isWhat 7 = .ok (.ireturn, 1) := by decide +kernel
theorem dX4_isHolder_0 : decode cX4_isHolder 0 = .ok (.iload_n 1, 1) := by decide +kernel
theorem dX4_isHolder_1 : decode cX4_isHolder 1 = .ok (.i2l, 1) := by decide +kernel
theorem dX4_isHolder_2 : decode cX4_isHolder 2 = .ok (.lconst 0, 1) := by decide +kernel
theorem dX4_isHolder_3 : decode cX4_isHolder 3 = .ok (.aload_n 0, 1) := by decide +kernel
theorem dX4_isHolder_4 : decode cX4_isHolder 4 = .ok (.getfield 7, 3) := by decide +kernel
theorem dX4_isHolder_7 : decode cX4_isHolder 7 = .ok (.bipush 8, 2) := by decide +kernel
theorem dX4_isHolder_9 : decode cX4_isHolder 9 = .ok (.iaload, 1) := by decide +kernel
theorem dX4_isHolder_10 : decode cX4_isHolder 10 = .ok (.iconst 1, 1) := by decide +kernel
theorem dX4_isHolder_11 : decode cX4_isHolder 11 = .ok (.isub, 1) := by decide +kernel
theorem dX4_isHolder_12 : decode cX4_isHolder 12 = .ok (.i2l, 1) := by decide +kernel
theorem dX4_isHolder_13 : decode cX4_isHolder 13 = .ok (.invokestatic 52, 3) := by decide +kernel
theorem dX4_isHolder_16 : decode cX4_isHolder 16 = .ok (.ireturn, 1) := by decide +kernel
theorem dX4_areHolders_0 : decode cX4_areHolders 0 = .ok (.iload_n 1, 1) := by decide +kernel
theorem dX4_areHolders_1 : decode cX4_areHolders 1 = .ok (.i2l, 1) := by decide +kernel
theorem dX4_areHolders_2 : decode cX4_areHolders 2 = .ok (.lconst 0, 1) := by decide +kernel
theorem dX4_areHolders_3 : decode cX4_areHolders 3 = .ok (.iconst 1, 1) := by decide +kernel
theorem dX4_areHolders_4 : decode cX4_areHolders 4 = .ok (.aload_n 0, 1) := by decide +kernel
theorem dX4_areHolders_5 : decode cX4_areHolders 5 = .ok (.getfield 7, 3) := by decide +kernel
theorem dX4_areHolders_8 : decode cX4_areHolders 8 = .ok (.bipush 8, 2) := by decide +kernel
theorem dX4_areHolders_10 : decode cX4_areHolders 10 = .ok (.iaload, 1) := by decide +kernel
theorem dX4_areHolders_11 : decode cX4_areHolders 11 = .ok (.ishl, 1) := by decide +kernel
theorem dX4_areHolders_12 : decode cX4_areHolders 12 = .ok (.iconst 1, 1) := by decide +kernel
theorem dX4_areHolders_13 : decode cX4_areHolders 13 = .ok (.isub, 1) := by decide +kernel
theorem dX4_areHolders_14 : decode cX4_areHolders 14 = .ok (.i2l, 1) := by decide +kernel
theorem dX4_areHolders_15 : decode cX4_areHolders 15 = .ok (.invokestatic 52, 3) := by decide +kernel
theorem dX4_areHolders_18 : decode cX4_areHolders 18 = .ok (.ireturn, 1) := by decide +kernel
theorem dX4_everybody_0 : decode cX4_everybody 0 = .ok (.iconst 1, 1) := by decide +kernel
theorem dX4_everybody_1 : decode cX4_everybody 1 = .ok (.aload_n 0, 1) := by decide +kernel
theorem dX4_everybody_2 : decode cX4_everybody 2 = .ok (.getfield 7, 3) := by decide +kernel
theorem dX4_everybody_5 : decode cX4_everybody 5 = .ok (.bipush 8, 2) := by decide +kernel
theorem dX4_everybody_7 : decode cX4_everybody 7 = .ok (.iaload, 1) := by decide +kernel
theorem dX4_everybody_8 : decode cX4_everybody 8 = .ok (.ishl, 1) := by decide +kernel
theorem dX4_everybody_9 : decode cX4_everybody 9 = .ok (.iconst 1, 1) := by decide +kernel
theorem dX4_everybody_10 : decode cX4_everybody 10 = .ok (.isub, 1) := by decide +kernel
theorem dX4_everybody_11 : decode cX4_everybody 11 = .ok (.ireturn, 1) := by decide +kernel
theorem dX4_anew_0 : decode cX4_anew 0 = .ok (.iconst 0, 1) := by decide +kernel
theorem dX4_anew_1 : decode cX4_anew 1 = .ok (.istore_n 3, 1) := by decide +kernel
theorem dX4_anew_2 : decode cX4_anew 2 = .ok (.iload_n 3, 1) := by decide +kernel
theorem dX4_anew_3 : decode cX4_anew 3 = .ok (.bipush 27, 2) := by decide +kernel
theorem dX4_anew_5 : decode cX4_anew 5 = .ok (.if_icmp .ge 26, 3) := by decide +kernel
theorem dX4_anew_8 : decode cX4_anew 8 = .ok (.aload_n 0, 1) := by decide +kernel
theorem dX4_anew_9 : decode cX4_anew 9 = .ok (.getfield 7, 3) := by decide +kernel
theorem dX4_anew_12 : decode cX4_anew 12 = .ok (.iload_n 3, 1) := by decide +kernel
theorem dX4_anew_13 : decode cX4_anew 13 = .ok (.iload_n 3, 1) := by decide +kernel
theorem dX4_anew_14 : decode cX4_anew 14 = .ok (.bipush 21, 2) := by decide +kernel
theorem dX4_anew_16 : decode cX4_anew 16 = .ok (.if_icmp .ge 7, 3) := by decide +kernel
theorem dX4_anew_19 : decode cX4_anew 19 = .ok (.iconst 0, 1) := by decide +kernel
theorem dX4_anew_20 : decode cX4_anew 20 = .ok (.goto 4, 3) := by decide +kernel
theorem dX4_anew_23 : decode cX4_anew 23 = .ok (.iconst (-1), 1) := by decide +kernel
theorem dX4_anew_24 : decode cX4_anew 24 = .ok (.iastore, 1) := by decide +kernel
theorem dX4_anew_25 : decode cX4_anew 25 = .ok (.iinc 3 1, 3) := by decide +kernel
theorem dX4_anew_28 : decode cX4_anew 28 = .ok (.goto (-26), 3) := by decide +kernel
theorem dX4_anew_31 : decode cX4_anew 31 = .ok (.aload_n 0, 1) := by decide +kernel
theorem dX4_anew_32 : decode cX4_anew 32 = .ok (.getfield 7, 3) := by decide +kernel
theorem dX4_anew_35 : decode cX4_anew 35 = .ok (.iconst 0, 1) := by decide +kernel
theorem dX4_anew_36 : decode cX4_anew 36 = .ok (.iload_n 1, 1) := by decide +kernel
theorem dX4_anew_37 : decode cX4_anew 37 = .ok (.iastore, 1) := by decide +kernel
theorem dX4_anew_38 : decode cX4_anew 38 = .ok (.aload_n 0, 1) := by decide +kernel
theorem dX4_anew_39 : decode cX4_anew 39 = .ok (.getfield 7, 3) := by decide +kernel
theorem dX4_anew_42 : decode cX4_anew 42 = .ok (.iconst 1, 1) := by decide +kernel
theorem dX4_anew_43 : decode cX4_anew 43 = .ok (.iload_n 2, 1) := by decide +kernel
theorem dX4_anew_44 : decode cX4_anew 44 = .ok (.iastore, 1) := by decide +kernel
theorem dX4_anew_45 : decode cX4_anew 45 = .ok (.aload_n 0, 1) := by decide +kernel
theorem dX4_anew_46 : decode cX4_anew 46 = .ok (.iconst 0, 1) := by decide +kernel
theorem dX4_anew_47 : decode cX4_anew 47 = .ok (.putfield 56, 3) := by decide +kernel
theorem dX4_anew_50 : decode cX4_anew 50 = .ok (.return_, 1) := by decide +kernel
theorem dX4_safe_0 : decode cX4_safe 0 = .ok (.iload_n 1, 1) := by decide +kernel
theorem dX4_safe_1 : decode cX4_safe 1 = .ok (.i2l, 1) := by decide +kernel
theorem dX4_safe_2 : decode cX4_safe 2 = .ok (.lconst 0, 1) := by decide +kernel
theorem dX4_safe_3 : decode cX4_safe 3 = .ok (.ldc2_w 60, 3) := by decide +kernel
theorem dX4_safe_6 : decode cX4_safe 6 = .ok (.invokestatic 52, 3) := by decide +kernel
theorem dX4_safe_9 : decode cX4_safe 9 = .ok (.ifCond .eq 15, 3) := by decide +kernel
theorem dX4_safe_12 : decode cX4_safe 12 = .ok (.iload_n 2, 1) := by decide +kernel
theorem dX4_safe_13 : decode cX4_safe 13 = .ok (.i2l, 1) := by decide +kernel
theorem dX4_safe_14 : decode cX4_safe 14 = .ok (.lconst 1, 1) := by decide +kernel
theorem dX4_safe_15 : decode cX4_safe 15 = .ok (.ldc2_w 62, 3) := by decide +kernel
theorem dX4_safe_18 : decode cX4_safe 18 = .ok (.invokestatic 52, 3) := by decide +kernel
theorem dX4_safe_21 : decode cX4_safe 21 = .ok (.ifCond .ne 8, 3) := by decide +kernel
theorem dX4_safe_24 : decode cX4_safe 24 = .ok (.aload_n 0, 1) := by decide +kernel
theorem dX4_safe_25 : decode cX4_safe 25 = .ok (.invokevirtual 64, 3) := by decide +kernel
theorem dX4_safe_28 : decode cX4_safe 28 = .ok (.ireturn, 1) := by decide +kernel
theorem dX4_safe_29 : decode cX4_safe 29 = .ok (.aload_n 0, 1) := by decide +kernel
theorem dX4_safe_30 : decode cX4_safe 30 = .ok (.getfield 7, 3) := by decide +kernel
theorem dX4_safe_33 : decode cX4_safe 33 = .ok (.bipush 8, 2) := by decide +kernel
theorem dX4_safe_35 : decode cX4_safe 35 = .ok (.iaload, 1) := by decide +kernel
theorem dX4_safe_36 : decode cX4_safe 36 = .ok (.istore_n 3, 1) := by decide +kernel
theorem dX4_safe_37 : decode cX4_safe 37 = .ok (.aload_n 0, 1) := by decide +kernel
theorem dX4_safe_38 : decode cX4_safe 38 = .ok (.iload_n 1, 1) := by decide +kernel
theorem dX4_safe_39 : decode cX4_safe 39 = .ok (.iload_n 2, 1) := by decide +kernel
theorem dX4_safe_40 : decode cX4_safe 40 = .ok (.invokevirtual 48, 3) := by decide +kernel
theorem dX4_safe_43 : decode cX4_safe 43 = .ok (.iload_n 3, 1) := by decide +kernel
theorem dX4_safe_44 : decode cX4_safe 44 = .ok (.ireturn, 1) := by decide +kernel
theorem dX4_add_0 : decode cX4_add 0 = .ok (.aload_n 0, 1) := by decide +kernel
theorem dX4_add_1 : decode cX4_add 1 = .ok (.getfield 7, 3) := by decide +kernel
theorem dX4_add_4 : decode cX4_add 4 = .ok (.bipush 9, 2) := by decide +kernel
theorem dX4_add_6 : decode cX4_add 6 = .ok (.aload_n 0, 1) := by decide +kernel
theorem dX4_add_7 : decode cX4_add 7 = .ok (.getfield 7, 3) := by decide +kernel
theorem dX4_add_10 : decode cX4_add 10 = .ok (.bipush 8, 2) := by decide +kernel
theorem dX4_add_12 : decode cX4_add 12 = .ok (.iaload, 1) := by decide +kernel
theorem dX4_add_13 : decode cX4_add 13 = .ok (.iadd, 1) := by decide +kernel
theorem dX4_add_14 : decode cX4_add 14 = .ok (.iload_n 1, 1) := by decide +kernel
theorem dX4_add_15 : decode cX4_add 15 = .ok (.iastore, 1) := by decide +kernel
theorem dX4_add_16 : decode cX4_add 16 = .ok (.aload_n 0, 1) := by decide +kernel
theorem dX4_add_17 : decode cX4_add 17 = .ok (.getfield 7, 3) := by decide +kernel
theorem dX4_add_20 : decode cX4_add 20 = .ok (.bipush 15, 2) := by decide +kernel
theorem dX4_add_22 : decode cX4_add 22 = .ok (.aload_n 0, 1) := by decide +kernel
theorem dX4_add_23 : decode cX4_add 23 = .ok (.getfield 7, 3) := by decide +kernel
theorem dX4_add_26 : decode cX4_add 26 = .ok (.bipush 8, 2) := by decide +kernel
theorem dX4_add_28 : decode cX4_add 28 = .ok (.iaload, 1) := by decide +kernel
theorem dX4_add_29 : decode cX4_add 29 = .ok (.iadd, 1) := by decide +kernel
theorem dX4_add_30 : decode cX4_add 30 = .ok (.iload_n 2, 1) := by decide +kernel
theorem dX4_add_31 : decode cX4_add 31 = .ok (.iastore, 1) := by decide +kernel
theorem dX4_add_32 : decode cX4_add 32 = .ok (.aload_n 0, 1) := by decide +kernel
theorem dX4_add_33 : decode cX4_add 33 = .ok (.getfield 7, 3) := by decide +kernel
theorem dX4_add_36 : decode cX4_add 36 = .ok (.bipush 8, 2) := by decide +kernel
theorem dX4_add_38 : decode cX4_add 38 = .ok (.dup2, 1) := by decide +kernel
theorem dX4_add_39 : decode cX4_add 39 = .ok (.iaload, 1) := by decide +kernel
theorem dX4_add_40 : decode cX4_add 40 = .ok (.iconst 1, 1) := by decide +kernel
theorem dX4_add_41 : decode cX4_add 41 = .ok (.iadd, 1) := by decide +kernel
theorem dX4_add_42 : decode cX4_add 42 = .ok (.iastore, 1) := by decide +kernel
theorem dX4_add_43 : decode cX4_add 43 = .ok (.return_, 1) := by decide +kernel
theorem dX4_holder_0 : decode cX4_holder 0 = .ok (.iload_n 1, 1) := by decide +kernel
theorem dX4_holder_1 : decode cX4_holder 1 = .ok (.i2l, 1) := by decide +kernel
theorem dX4_holder_2 : decode cX4_holder 2 = .ok (.lconst 0, 1) := by decide +kernel
theorem dX4_holder_3 : decode cX4_holder 3 = .ok (.ldc2_w 68, 3) := by decide +kernel
theorem dX4_holder_6 : decode cX4_holder 6 = .ok (.invokestatic 52, 3) := by decide +kernel
theorem dX4_holder_9 : decode cX4_holder 9 = .ok (.ifCond .eq 15, 3) := by decide +kernel
theorem dX4_holder_12 : decode cX4_holder 12 = .ok (.iload_n 2, 1) := by decide +kernel
theorem dX4_holder_13 : decode cX4_holder 13 = .ok (.i2l, 1) := by decide +kernel
theorem dX4_holder_14 : decode cX4_holder 14 = .ok (.lconst 0, 1) := by decide +kernel
theorem dX4_holder_15 : decode cX4_holder 15 = .ok (.ldc2_w 60, 3) := by decide +kernel
theorem dX4_holder_18 : decode cX4_holder 18 = .ok (.invokestatic 52, 3) := by decide +kernel
theorem dX4_holder_21 : decode cX4_holder 21 = .ok (.ifCond .ne 8, 3) := by decide +kernel
theorem dX4_holder_24 : decode cX4_holder 24 = .ok (.aload_n 0, 1) := by decide +kernel
theorem dX4_holder_25 : decode cX4_holder 25 = .ok (.invokevirtual 64, 3) := by decide +kernel
theorem dX4_holder_28 : decode cX4_holder 28 = .ok (.ireturn, 1) := by decide +kernel
theorem dX4_holder_29 : decode cX4_holder 29 = .ok (.aload_n 0, 1) := by decide +kernel
theorem dX4_holder_30 : decode cX4_holder 30 = .ok (.getfield 7, 3) := by decide +kernel
theorem dX4_holder_33 : decode cX4_holder 33 = .ok (.bipush 8, 2) := by decide +kernel
theorem dX4_holder_35 : decode cX4_holder 35 = .ok (.iaload, 1) := by decide +kernel
theorem dX4_holder_36 : decode cX4_holder 36 = .ok (.bipush 6, 2) := by decide +kernel
theorem dX4_holder_38 : decode cX4_holder 38 = .ok (.if_icmp .ne 8, 3) := by decide +kernel
theorem dX4_holder_41 : decode cX4_holder 41 = .ok (.aload_n 0, 1) := by decide +kernel
theorem dX4_holder_42 : decode cX4_holder 42 = .ok (.invokevirtual 70, 3) := by decide +kernel
theorem dX4_holder_45 : decode cX4_holder 45 = .ok (.ireturn, 1) := by decide +kernel
theorem dX4_holder_46 : decode cX4_holder 46 = .ok (.aload_n 0, 1) := by decide +kernel
theorem dX4_holder_47 : decode cX4_holder 47 = .ok (.iload_n 1, 1) := by decide +kernel
theorem dX4_holder_48 : decode cX4_holder 48 = .ok (.iload_n 2, 1) := by decide +kernel
theorem dX4_holder_49 : decode cX4_holder 49 = .ok (.invokevirtual 73, 3) := by decide +kernel
theorem dX4_holder_52 : decode cX4_holder 52 = .ok (.aload_n 0, 1) := by decide +kernel
theorem dX4_holder_53 : decode cX4_holder 53 = .ok (.iconst 0, 1) := by decide +kernel
theorem dX4_holder_54 : decode cX4_holder 54 = .ok (.putfield 56, 3) := by decide +kernel
theorem dX4_holder_57 : decode cX4_holder 57 = .ok (.aload_n 0, 1) := by decide +kernel
theorem dX4_holder_58 : decode cX4_holder 58 = .ok (.getfield 7, 3) := by decide +kernel
theorem dX4_holder_61 : decode cX4_holder 61 = .ok (.bipush 8, 2) := by decide +kernel
theorem dX4_holder_63 : decode cX4_holder 63 = .ok (.iaload, 1) := by decide +kernel
theorem dX4_holder_64 : decode cX4_holder 64 = .ok (.iconst 1, 1) := by decide +kernel
theorem dX4_holder_65 : decode cX4_holder 65 = .ok (.isub, 1) := by decide +kernel
theorem dX4_holder_66 : decode cX4_holder 66 = .ok (.ireturn, 1) := by decide +kernel
theorem dX4_way_0 : decode cX4_way 0 = .ok (.iload_n 1, 1) := by decide +kernel
theorem dX4_way_1 : decode cX4_way 1 = .ok (.i2l, 1) := by decide +kernel
theorem dX4_way_2 : decode cX4_way 2 = .ok (.lconst 1, 1) := by decide +kernel
theorem dX4_way_3 : decode cX4_way 3 = .ok (.ldc2_w 76, 3) := by decide +kernel
theorem dX4_way_6 : decode cX4_way 6 = .ok (.invokestatic 52, 3) := by decide +kernel
theorem dX4_way_9 : decode cX4_way 9 = .ok (.ifCond .eq 15, 3) := by decide +kernel
theorem dX4_way_12 : decode cX4_way 12 = .ok (.iload_n 2, 1) := by decide +kernel
theorem dX4_way_13 : decode cX4_way 13 = .ok (.i2l, 1) := by decide +kernel
theorem dX4_way_14 : decode cX4_way 14 = .ok (.lconst 0, 1) := by decide +kernel
theorem dX4_way_15 : decode cX4_way 15 = .ok (.ldc2_w 60, 3) := by decide +kernel
theorem dX4_way_18 : decode cX4_way 18 = .ok (.invokestatic 52, 3) := by decide +kernel
theorem dX4_way_21 : decode cX4_way 21 = .ok (.ifCond .ne 8, 3) := by decide +kernel
theorem dX4_way_24 : decode cX4_way 24 = .ok (.aload_n 0, 1) := by decide +kernel
theorem dX4_way_25 : decode cX4_way 25 = .ok (.invokevirtual 64, 3) := by decide +kernel
theorem dX4_way_28 : decode cX4_way 28 = .ok (.ireturn, 1) := by decide +kernel
theorem dX4_way_29 : decode cX4_way 29 = .ok (.aload_n 0, 1) := by decide +kernel
theorem dX4_way_30 : decode cX4_way 30 = .ok (.getfield 7, 3) := by decide +kernel
theorem dX4_way_33 : decode cX4_way 33 = .ok (.iconst 2, 1) := by decide +kernel
theorem dX4_way_34 : decode cX4_way 34 = .ok (.iload_n 1, 1) := by decide +kernel
theorem dX4_way_35 : decode cX4_way 35 = .ok (.iadd, 1) := by decide +kernel
theorem dX4_way_36 : decode cX4_way 36 = .ok (.iconst 1, 1) := by decide +kernel
theorem dX4_way_37 : decode cX4_way 37 = .ok (.isub, 1) := by decide +kernel
theorem dX4_way_38 : decode cX4_way 38 = .ok (.iaload, 1) := by decide +kernel
theorem dX4_way_39 : decode cX4_way 39 = .ok (.istore_n 3, 1) := by decide +kernel
theorem dX4_way_40 : decode cX4_way 40 = .ok (.aload_n 0, 1) := by decide +kernel
theorem dX4_way_41 : decode cX4_way 41 = .ok (.getfield 7, 3) := by decide +kernel
theorem dX4_way_44 : decode cX4_way 44 = .ok (.iconst 2, 1) := by decide +kernel
theorem dX4_way_45 : decode cX4_way 45 = .ok (.iload_n 1, 1) := by decide +kernel
theorem dX4_way_46 : decode cX4_way 46 = .ok (.iadd, 1) := by decide +kernel
theorem dX4_way_47 : decode cX4_way 47 = .ok (.iconst 1, 1) := by decide +kernel
theorem dX4_way_48 : decode cX4_way 48 = .ok (.isub, 1) := by decide +kernel
theorem dX4_way_49 : decode cX4_way 49 = .ok (.iload_n 2, 1) := by decide +kernel
theorem dX4_way_50 : decode cX4_way 50 = .ok (.iastore, 1) := by decide +kernel
theorem dX4_way_51 : decode cX4_way 51 = .ok (.iload_n 3, 1) := by decide +kernel
theorem dX4_way_52 : decode cX4_way 52 = .ok (.ireturn, 1) := by decide +kernel
theorem dX4_type_0 : decode cX4_type 0 = .ok (.iload_n 1, 1) := by decide +kernel
theorem dX4_type_1 : decode cX4_type 1 = .ok (.i2l, 1) := by decide +kernel
theorem dX4_type_2 : decode cX4_type 2 = .ok (.lconst 0, 1) := by decide +kernel
theorem dX4_type_3 : decode cX4_type 3 = .ok (.ldc2_w 78, 3) := by decide +kernel
theorem dX4_type_6 : decode cX4_type 6 = .ok (.invokestatic 52, 3) := by decide +kernel
theorem dX4_type_9 : decode cX4_type 9 = .ok (.ifCond .ne 8, 3) := by decide +kernel
theorem dX4_type_12 : decode cX4_type 12 = .ok (.aload_n 0, 1) := by decide +kernel
theorem dX4_type_13 : decode cX4_type 13 = .ok (.invokevirtual 64, 3) := by decide +kernel
theorem dX4_type_16 : decode cX4_type 16 = .ok (.ireturn, 1) := by decide +kernel
theorem dX4_type_17 : decode cX4_type 17 = .ok (.aload_n 0, 1) := by decide +kernel
theorem dX4_type_18 : decode cX4_type 18 = .ok (.getfield 80, 3) := by decide +kernel
theorem dX4_type_21 : decode cX4_type 21 = .ok (.sipush 150, 3) := by decide +kernel
theorem dX4_type_24 : decode cX4_type 24 = .ok (.if_icmp .ne 8, 3) := by decide +kernel
theorem dX4_type_27 : decode cX4_type 27 = .ok (.aload_n 0, 1) := by decide +kernel
theorem dX4_type_28 : decode cX4_type 28 = .ok (.invokevirtual 70, 3) := by decide +kernel
theorem dX4_type_31 : decode cX4_type 31 = .ok (.ireturn, 1) := by decide +kernel
theorem dX4_type_32 : decode cX4_type 32 = .ok (.aload_n 0, 1) := by decide +kernel
theorem dX4_type_33 : decode cX4_type 33 = .ok (.getfield 20, 3) := by decide +kernel
theorem dX4_type_36 : decode cX4_type 36 = .ok (.aload_n 0, 1) := by decide +kernel
theorem dX4_type_37 : decode cX4_type 37 = .ok (.getfield 80, 3) := by decide +kernel
theorem dX4_type_40 : decode cX4_type 40 = .ok (.iload_n 1, 1) := by decide +kernel
theorem dX4_type_41 : decode cX4_type 41 = .ok (.iastore, 1) := by decide +kernel
theorem dX4_type_42 : decode cX4_type 42 = .ok (.aload_n 0, 1) := by decide +kernel
theorem dX4_type_43 : decode cX4_type 43 = .ok (.dup, 1) := by decide +kernel
theorem dX4_type_44 : decode cX4_type 44 = .ok (.getfield 80, 3) := by decide +kernel
theorem dX4_type_47 : decode cX4_type 47 = .ok (.iconst 1, 1) := by decide +kernel
theorem dX4_type_48 : decode cX4_type 48 = .ok (.iadd, 1) := by decide +kernel
theorem dX4_type_49 : decode cX4_type 49 = .ok (.putfield 80, 3) := by decide +kernel
theorem dX4_type_52 : decode cX4_type 52 = .ok (.aload_n 0, 1) := by decide +kernel
theorem dX4_type_53 : decode cX4_type 53 = .ok (.getfield 80, 3) := by decide +kernel
theorem dX4_type_56 : decode cX4_type 56 = .ok (.ireturn, 1) := by decide +kernel
theorem dX4_clear_0 : decode cX4_clear 0 = .ok (.aload_n 0, 1) := by decide +kernel
theorem dX4_clear_1 : decode cX4_clear 1 = .ok (.getfield 80, 3) := by decide +kernel
theorem dX4_clear_4 : decode cX4_clear 4 = .ok (.istore_n 1, 1) := by decide +kernel
theorem dX4_clear_5 : decode cX4_clear 5 = .ok (.aload_n 0, 1) := by decide +kernel
theorem dX4_clear_6 : decode cX4_clear 6 = .ok (.iconst 0, 1) := by decide +kernel
theorem dX4_clear_7 : decode cX4_clear 7 = .ok (.putfield 80, 3) := by decide +kernel
theorem dX4_clear_10 : decode cX4_clear 10 = .ok (.iload_n 1, 1) := by decide +kernel
theorem dX4_clear_11 : decode cX4_clear 11 = .ok (.ireturn, 1) := by decide +kernel
theorem dX4_byteAt_0 : decode cX4_byteAt 0 = .ok (.iload_n 1, 1) := by decide +kernel
theorem dX4_byteAt_1 : decode cX4_byteAt 1 = .ok (.aload_n 0, 1) := by decide +kernel
theorem dX4_byteAt_2 : decode cX4_byteAt 2 = .ok (.getfield 80, 3) := by decide +kernel
theorem dX4_byteAt_5 : decode cX4_byteAt 5 = .ok (.if_icmp .ge 12, 3) := by decide +kernel
theorem dX4_byteAt_8 : decode cX4_byteAt 8 = .ok (.aload_n 0, 1) := by decide +kernel
theorem dX4_byteAt_9 : decode cX4_byteAt 9 = .ok (.getfield 20, 3) := by decide +kernel
theorem dX4_byteAt_12 : decode cX4_byteAt 12 = .ok (.iload_n 1, 1) := by decide +kernel
theorem dX4_byteAt_13 : decode cX4_byteAt 13 = .ok (.iaload, 1) := by decide +kernel
theorem dX4_byteAt_14 : decode cX4_byteAt 14 = .ok (.goto 4, 3) := by decide +kernel
theorem dX4_byteAt_17 : decode cX4_byteAt 17 = .ok (.iconst (-1), 1) := by decide +kernel
theorem dX4_byteAt_18 : decode cX4_byteAt 18 = .ok (.ireturn, 1) := by decide +kernel
theorem dX4_nextToken_0 : decode cX4_nextToken 0 = .ok (.aload_n 0, 1) := by decide +kernel
theorem dX4_nextToken_1 : decode cX4_nextToken 1 = .ok (.aload_n 0, 1) := by decide +kernel
theorem dX4_nextToken_2 : decode cX4_nextToken 2 = .ok (.getfield 83, 3) := by decide +kernel
theorem dX4_nextToken_5 : decode cX4_nextToken 5 = .ok (.invokevirtual 86, 3) := by decide +kernel
theorem dX4_nextToken_8 : decode cX4_nextToken 8 = .ok (.bipush 32, 2) := by decide +kernel
theorem dX4_nextToken_10 : decode cX4_nextToken 10 = .ok (.if_icmp .ne 16, 3) := by decide +kernel
theorem dX4_nextToken_13 : decode cX4_nextToken 13 = .ok (.aload_n 0, 1) := by decide +kernel
theorem dX4_nextToken_14 : decode cX4_nextToken 14 = .ok (.dup, 1) := by decide +kernel
theorem dX4_nextToken_15 : decode cX4_nextToken 15 = .ok (.getfield 83, 3) := by decide +kernel
theorem dX4_nextToken_18 : decode cX4_nextToken 18 = .ok (.iconst 1, 1) := by decide +kernel
theorem dX4_nextToken_19 : decode cX4_nextToken 19 = .ok (.iadd, 1) := by decide +kernel
theorem dX4_nextToken_20 : decode cX4_nextToken 20 = .ok (.putfield 83, 3) := by decide +kernel
theorem dX4_nextToken_23 : decode cX4_nextToken 23 = .ok (.goto (-23), 3) := by decide +kernel
